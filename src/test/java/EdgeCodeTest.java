/** Boundary cases of section 7 and of promises 6, 7, 8, 9. */
public final class EdgeCodeTest {
    public static void main(String[] args) {
        countCalls();
        countsOfTheFullest();
        manyNumbers();
        manyNames();
        numberCalls();
        unitCalls();
        parametersAndLocals();
        mostCaptured();
        localsAsTheirWordsCome();
        codeCalls();
        highBytesOfPlaces();
        runsWithHighBytes();
        greatestOperands();
        lastLocalOfTheRewritten();
        needsByGroups();
        Trial.end();
    }

    // Promise 6: "0 without a program (but 9); NONE for another what".
    private static void countCalls() {
        WardenHouse house = Trial.house("grant /a { r /x; } module m /a { a() = self.f + priv [r /x] check r /x + 7; }");
        int[] due = {2, 1, 1, 1, 1, 1, 2, 1, 1, 0};
        for (int what = 0; what < 10; what++) {
            Trial.due("count(" + what + ")", house.count(what), due[what]);
        }
        for (int what : new int[] {-1, -2, 10, 11, Integer.MIN_VALUE, Integer.MAX_VALUE}) {
            Trial.due("count(" + what + ")", house.count(what), -1);
        }
        house.feed(0, 0, 0, 0, 0);
        Trial.due("count(9) with a program", house.count(9), 20);
        Trial.due("program", Trial.program(house), -1);
        for (int what = 0; what < 9; what++) {
            Trial.due("count(" + what + ") without a program", house.count(what), 0);
        }
        house.feed(0, 0, 0, 0, 0);
        Trial.due("count(9) without a program", house.count(9), 20);
        for (int what : new int[] {-1, 10}) {
            Trial.due("count(" + what + ") without a program", house.count(what), -1);
        }
        house = Trial.house("module m /a { }");
        int[] least = {0, 1, 0, 1, 0, 0, 0, 0, 0, 0};
        for (int what = 0; what < 10; what++) {
            Trial.due("count(" + what + ") of the least", house.count(what), least[what]);
        }
    }

    // Promise 6, with as many of each as section 1 lets there be.
    private static void countsOfTheFullest() {
        StringBuilder text = new StringBuilder(Trial.numbered("grant /s% { } ", "", 8));
        for (int m = 0; m < 8; m++) {
            text.append("module m").append(m).append(" /s").append(m).append(" { ");
            text.append(m == 0 ? "a() = 1" + Trial.times(" + priv [r /x] 1", 12) + "; " : "");
            text.append(m == 1 ? "a() = 1" + Trial.times(" + check r /x", 24) + "; " : "");
            text.append(m == 2 ? "a() = 1" + Trial.times(" + priv 1", 45) + "; " : "");
            text.append("} ");
        }
        WardenHouse house = Trial.house(text.toString());
        Trial.due("UNITS, modules, GRANTs, DOMAINS, LIMITS, ASKINGS", house.count(0) + " " + house.count(1) + " " + house.count(2) + " " + house.count(3) + " "
            + house.count(4) + " " + house.count(5), "60 8 8 8 12 24");
        Trial.due("NUMBERs, NAMES", house.count(7) + " " + house.count(8), "1 0");
    }

    // Section 7: "NUMBERs of a program are numbered, each once, as they come in the text"; "two bytes each, the higher one first".
    private static void manyNumbers() {
        // 1 + 98 * 4 PARTS, 294 different NUMBERs of three to a call, each again in the next METHOD's.
        StringBuilder text = new StringBuilder("module m /a { a() = none");
        for (int i = 0; i < 98; i++) {
            text.append('(').append(1000 + 3 * i).append(',').append(1001 + 3 * i).append(',').append(1002 + 3 * i).append(')');
        }
        WardenHouse house = Trial.house(text + "; b() = 1255; c() = 1256; d() = 1293; e() = 7; f() = 1000; }");
        Trial.due("count(7)", house.count(7), 295);
        for (int k : new int[] {0, 1, 254, 255, 256, 257, 293}) {
            Trial.due("number(" + k + ")", house.number(k), 1000 + k);
        }
        Trial.due("number(294)", house.number(294) + " " + house.number(295), "7 0");
        String[] due = {"0 0 255 28", "0 1 0 28", "0 1 37 28", "0 1 38 28", "0 0 0 28"};
        for (int u = 1; u <= 5; u++) {
            Trial.due("NUMBER k of UNIT " + u, Trial.code(house, u, false), due[u - 1]);
        }
        // none, then each call: three NUMBERs of three bytes and APPLY 3.
        Trial.due("unit(0, 7)", house.unit(0, 7), 1 + 98 * 12 + 1);
        Trial.due("the last call", house.code(0, false, 1 + 97 * 12) + " " + house.code(0, false, 2 + 97 * 12) + " " + house.code(0, false, 3 + 97 * 12) + " "
            + house.code(0, false, 10 + 97 * 12) + " " + house.code(0, false, 12 + 97 * 12) + " " + house.code(0, false, 1 + 98 * 12), "0 1 35 8 3 28");
    }

    // Section 7: "NAMES behind . likewise": of READs, WRITEs and SENDs together.
    private static void manyNames() {
        StringBuilder text = new StringBuilder("module m /a { field n0; n0() = self");
        for (int i = 0; i < 380; i++) {
            text.append(".n").append(i);
        }
        WardenHouse house = Trial.house(text + "; b() = none.n255; c() = none.n256 := 1; d() = none.n379(); e() = none.n0(1, 2, 3); f() = none.last; }");
        Trial.due("count(8)", house.count(8), 381);
        String[] due = {"1 5 0 255 28", "1 0 0 0 6 1 0 28", "1 7 1 123 0 0 28", "1 0 0 0 0 0 1 0 0 2 7 0 0 0 3 28", "1 5 1 124 28"};
        for (int u = 1; u <= 5; u++) {
            Trial.due("x of UNIT " + u, Trial.code(house, u, false), due[u - 1]);
        }
        Trial.due("the last READ", house.code(0, false, 3 + 3 * 379) + " " + house.code(0, false, 4 + 3 * 379) + " " + house.code(0, false, 5 + 3 * 379), "5 1 123");
        // NAMES of fields, METHODs, variables, KINDs and modules are none of these.
        Trial.due("count(8)", Trial.house("module m /a { field f; a(x) = let y = check k /z in new m; }").count(8), 0);
        // It is found at run by its NAME, however high its number.
        Trial.due("run", Trial.run(house, 1, 0, 10, false), 0);
        Trial.due("READ of none", house.thread(0, 1), 3);
    }

    // Promise 9: "NUMBER k of the program; 0 if there is none".
    private static void numberCalls() {
        WardenHouse house = Trial.house("module m /a { a() = 5 + 0 + 5 + 2147483647 + 05; }");
        int[] due = {5, 0, 2147483647, 0, 0};
        for (int k = 0; k < due.length; k++) {
            Trial.due("number(" + k + ")", house.number(k), due[k]);
        }
        Trial.due("count(7)", house.count(7), 3);
        for (int k : new int[] {-1, -2, 400, Integer.MIN_VALUE, Integer.MAX_VALUE}) {
            Trial.due("number(" + k + ")", house.number(k), 0);
        }
        Trial.feed(house, "module m /a { a() = none; }");
        Trial.due("program", Trial.program(house), 1);
        Trial.due("none of the former", house.number(0) + " " + house.count(7), "0 0");
    }

    // Promise 7: "NONE without it, or for another what".
    private static void unitCalls() {
        WardenHouse house = Trial.house("module m /a { a() = 1" + Trial.times(" + priv 1", 59) + "; }");
        for (int u : new int[] {-1, -2, 60, 61, 64, Integer.MIN_VALUE, Integer.MAX_VALUE}) {
            for (int what = 0; what < 9; what++) {
                Trial.due("unit(" + u + ", " + what + ")", house.unit(u, what), -1);
            }
        }
        for (int what : new int[] {-1, -2, 9, 10, Integer.MIN_VALUE, Integer.MAX_VALUE}) {
            Trial.due("unit(0, " + what + ")", house.unit(0, what), -1);
            Trial.due("unit(59, " + what + ")", house.unit(59, what), -1);
        }
        Trial.due("unit(59, 0)", house.unit(59, 0) + " " + house.unit(59, 2), "2 " + (24 + 9 * 58));
        // Fewer UNITS than the program ahead of it: the others are gone.
        Trial.feed(house, "module m /a { a() = 1; }");
        Trial.due("program", Trial.program(house), 1);
        Trial.due("unit(1, 0)", house.unit(0, 0) + " " + house.unit(1, 0), "0 -1");
    }

    // Promise 7: "3 how many parameters (0 of priv, under), 4 how many are captured (0 of a METHOD), 5 LOCALS (without L)".
    private static void parametersAndLocals() {
        WardenHouse house = Trial.house("module m /a { a() = 1; b(x, y, z) = fun(x, y, z) { priv { under self : { x; y; z } } }; c() = fun() { 1 }; d(x) = priv fun() { x + ctx }; }");
        Trial.due("sorts", Trial.units(house, 0), "0 0 1 2 4 0 1 0 2 1");
        Trial.due("parameters", Trial.units(house, 3), "0 3 3 0 0 0 0 1 0 0");
        Trial.due("captured", Trial.units(house, 4), "0 0 1 4 3 0 0 0 1 1");
        Trial.due("locals", Trial.units(house, 5), "1 4 4 4 3 1 0 2 1 1");
        Trial.due("needs", Trial.units(house, 6), "0 0 0 0 0 0 1 0 0 1");
    }

    // Section 7: LOCALS "first what is CAPTURED": twelve variables and self are the most, in the order in which they are first named.
    private static void mostCaptured() {
        String lets = Trial.numbered("let v% = % in ", "", 12);
        for (String unit : new String[] {"priv", "priv [r /x]", "under ctx :", "fun()"}) {
            String names = Trial.numbered("v%", "; ", 12);
            String text = "module m /a { a() = " + lets + unit + " { v11; self; " + names + "; self; v11 }; }";
            WardenHouse house = Trial.house(text);
            Trial.due(unit + " captured", house.unit(1, 4) + " " + house.unit(1, 5) + " " + house.unit(0, 5), "13 13 13");
            StringBuilder due = new StringBuilder("2 0 12 2 0 0");
            for (int v = 1; v <= 11; v++) {
                due.append(" 2 0 ").append(v);
            }
            Trial.due("what is got for " + unit, Trial.code(house, 0, false).contains(due + (unit.startsWith("fun") ? " 9 0 1 28" : " 10 0 1 28")), true);
            Trial.due("code of " + unit, Trial.code(house, 1, false).startsWith("2 0 0 16 2 0 1 16 2 0 2 16 2 0 3 16"), true);
            Trial.due("code of " + unit, Trial.code(house, 1, false).endsWith("2 0 12 16 2 0 0 16 2 0 1 16 2 0 0 28"), true);
        }
        // Handed through UNITS within one another, each of which captures all; the value comes through.
        String text = "module m /a { a() = " + lets + "priv under ctx : priv [r /x] fun() { " + Trial.numbered("v%", " + ", 12) + " }(); }";
        WardenHouse house = Trial.house(text);
        Trial.due("captured", Trial.units(house, 4), "0 12 12 12 12");
        for (int turn = 0; turn < 2; turn++) {
            Trial.due("run", Trial.run(house, 0, 0, 10, turn == 1), 0);
            Trial.due("the sum", house.thread(0, 1), 66);
        }
        // None at all; one named twice is captured once; its own are not captured.
        house = Trial.house("module m /a { a(x) = priv 1; b(x) = priv (x + x + x); c(x) = fun(y) { let z = y in z + y }; }");
        Trial.due("captured", Trial.units(house, 4), "0 0 0 1 0 0");
        Trial.due("locals", Trial.units(house, 5), "2 0 2 1 2 2");
    }

    // Section 7: "a METHOD's self; then parameters, then each let's and catch's as these words come (not in UNITS within)".
    private static void localsAsTheirWordsCome() {
        locals("a() = 1;", "1", "0 0 0 28");
        locals("a(x, y, z) = z;", "4", "2 0 3 28");
        locals("a() = let x = let y = let z = 1 in z in y in x;", "4", "0 0 0 3 0 3 2 0 3 3 0 2 2 0 2 3 0 1 2 0 1 28");
        locals("a() = (let x = 1 in x) + (let x = 2 in x);", "3", "0 0 0 3 0 1 2 0 1 0 0 1 3 0 2 2 0 2 11 28");
        // catch's word comes behind those of its first E.
        locals("a() = try let x = 1 in x catch e : let y = e in y;", "4", "19 0 16 0 0 0 3 0 1 2 0 1 20 17 0 28 3 0 2 2 0 2 3 0 3 2 0 3 28");
        locals("a() = try try 1 catch x : x catch y : y;", "3", "19 0 23 19 0 13 0 0 0 20 17 0 19 3 0 1 2 0 1 20 17 0 29 3 0 2 2 0 2 28");
        locals("a() = let x = priv (let y = 1 in y) in x;", "2", "10 0 1 3 0 1 2 0 1 28");
    }

    private static void locals(String method, String locals, String code) {
        WardenHouse house = Trial.house("module m /a { " + method + " }");
        Trial.due("LOCALS of " + method, house.unit(0, 5) + "", locals);
        Trial.due("CODE of " + method, Trial.code(house, 0, false), code);
    }

    // Promise 8: "Byte i of the CODE of a UNIT, or of it REWRITTEN; NONE if there is none".
    private static void codeCalls() {
        WardenHouse house = Trial.house("module m /a { a() = none; b() = ctx; }");
        Trial.due("the shortest", Trial.code(house, 0, false) + ", " + Trial.code(house, 0, true), "1 28, 1 28");
        Trial.due("of one that NEEDS", Trial.code(house, 1, false) + ", " + Trial.code(house, 1, true), "27 28, 30 0 0 2 0 1 28");
        for (int i : new int[] {2, 3, 7, -1, -2, Integer.MIN_VALUE, Integer.MAX_VALUE}) {
            Trial.due("code(0, " + i + ")", house.code(0, false, i) + " " + house.code(0, true, i), "-1 -1");
        }
        Trial.due("each by its own length", house.code(1, false, 2) + " " + house.code(1, true, 2) + " " + house.code(1, true, 6) + " " + house.code(1, true, 7), "-1 0 28 -1");
        for (int u : new int[] {-1, 2, 60, Integer.MIN_VALUE, Integer.MAX_VALUE}) {
            Trial.due("code(" + u + ", 0)", house.code(u, false, 0) + " " + house.code(u, true, 0), "-1 -1");
        }
        // A shorter one behind a longer one: nothing of it is left.
        house = Trial.house("module m /a { a() = 1 + 2 + 3 + check r /x; }");
        Trial.feed(house, "module m /a { a() = none; }");
        Trial.due("program", Trial.program(house), 1);
        Trial.due("the shorter one", Trial.code(house, 0, false) + ", " + Trial.code(house, 0, true), "1 28, 1 28");
    }

    // Section 7: places are "numbers of two bytes each, the higher one first": below, at and above 256.
    private static void highBytesOfPlaces() {
        for (int length = 240; length <= 262; length++) {
            // none and ; are 2 bytes, a NUMBER at the end 3, with out 4.
            String row = "{ " + Trial.times("none; ", (length - 3) / 2) + (length % 2 == 1 ? "1" : "out 1") + " }";
            WardenHouse house = Trial.house("module m /a { a() = if " + row + " then 1 else 1; }");
            Trial.due("length", house.unit(0, 7), length + 3 + 3 + 3 + 3 + 1);
            Trial.due("ZERO to A", three(house, length), "18 " + two(length + 9));
            Trial.due("GO to B", three(house, length + 6), "17 " + two(length + 12));
            house = Trial.house("module m /a { a() = try " + row + " catch e : e; }");
            Trial.due("TRY to A", three(house, 0), "19 " + two(length + 7));
            Trial.due("GO to B", three(house, length + 4), "17 " + two(length + 13));
            Trial.due("A: PUT", three(house, length + 7), "3 0 1");
        }
        // Rewritten, with MEET ahead and GET L ahead of the CHECK: six bytes more to each place behind.
        for (int length = 240; length <= 260; length += 2) {
            WardenHouse house = Trial.house("module m /a { a() = if { " + Trial.times("none; ", length / 2) + "check r /x } then 1 else 1; }");
            Trial.due("ZERO to A", three(house, length + 3), "18 " + two(length + 12));
            Trial.due("rewritten ZERO to A", house.code(0, true, length + 9) + " " + house.code(0, true, length + 10) + " " + house.code(0, true, length + 11), "18 " + two(length + 18));
        }
    }

    // Section 7, at run: NUMBERs, NAMES and places of 256 and more are those that the text has.
    private static void runsWithHighBytes() {
        for (int length = 240; length <= 262; length++) {
            String row = Trial.times("none; ", (length - 3) / 2);
            for (int turn = 0; turn < 2; turn++) {
                String last = length % 2 == 1 ? "" : "out ";
                runs("{ if { " + row + last + "0 } then 6 else 7 }", turn, 7);
                runs("{ if { " + row + last + "1 } then 6 else 7 }", turn, 6);
                runs("try { " + row + last + "(fail 5) } catch e : e + 10", turn, 15);
                runs("try { " + row + last + "8 } catch e : e + 10", turn, 8);
            }
        }
        StringBuilder numbers = new StringBuilder("module m /a { a() = none");
        for (int i = 0; i < 98; i++) {
            numbers.append('(').append(1000 + 3 * i).append(',').append(1001 + 3 * i).append(',').append(1002 + 3 * i).append(')');
        }
        WardenHouse house = Trial.house(numbers + "; b() = 1254; c() = 1255; d() = 1256; e() = 1293; }");
        int[] due = {1254, 1255, 1256, 1293};
        for (int u = 1; u <= 4; u++) {
            Trial.run(house, u, 0, 1, u % 2 == 0);
            Trial.due("NUMBER " + due[u - 1], house.thread(0, 1), due[u - 1]);
        }
        StringBuilder names = new StringBuilder("module m /a { field n255; field n256; field last; n254(x) = x + 1; n257() = 44; a() = self");
        for (int i = 0; i < 360; i++) {
            names.append(".n").append(i);
        }
        house = Trial.house(names + "; b() = { self.n255 := 3; self.n256 := 4; self.last := 5; self.n255 * 100 + self.n256 * 10 + self.last }; c() = self.n254(self.n257()); }");
        for (int turn = 0; turn < 2; turn++) {
            Trial.run(house, 3, 0, 1, turn == 1);
            Trial.due("fields", house.thread(0, 0) + " " + house.thread(0, 1), "1 345");
            Trial.run(house, 4, 0, 3, turn == 1);
            Trial.due("METHODs", house.thread(0, 0) + " " + house.thread(0, 1), "1 45");
        }
    }

    private static void runs(String e, int turn, int due) {
        WardenHouse house = Trial.house("module m /a { a() = " + e + "; }");
        Trial.due("run", Trial.run(house, 0, 0, 1, turn == 1), 0);
        Trial.due("value", house.thread(0, 0) + " " + house.thread(0, 1), "1 " + due);
    }

    private static String three(WardenHouse house, int i) {
        return house.code(0, false, i) + " " + house.code(0, false, i + 1) + " " + house.code(0, false, i + 2);
    }

    private static String two(int number) {
        return number / 256 + " " + number % 256;
    }

    // Section 7, with the greatest numbers: module 7, UNIT 59, ASKING 23, LIMIT 11, DOMAIN 7, three of a SEND and an APPLY.
    private static void greatestOperands() {
        String text = Trial.numbered("grant /s% { } ", "", 8) + Trial.numbered("module m% /s% { } ", "", 7) + "module m7 /s7 { a() = new m7" + Trial.times(" + priv [r /x] 1", 11)
            + Trial.times(" + check r /x", 23) + Trial.times(" + priv 1", 45) + "; b() = priv [r /x] able r /x; }";
        WardenHouse house = Trial.house(text);
        Trial.due("UNITS", house.count(0), 59);
        Trial.due("new", three(house, 0), "4 0 7");
        Trial.due("LIMITED", Trial.code(house, 58, true), "32 0 7 0 11 2 0 0 90 0 23 28");
        Trial.due("b", Trial.code(house, 57, true), "30 0 7 2 0 1 74 0 58 28");
        text = "module m /a { a() = " + Trial.numbered("priv 1", " + ", 57) + "; b() = fun(x, y, z) { 1 }(1, 2, 3).f(1, 2, 3); }";
        house = Trial.house(text);
        Trial.due("UNITS", house.count(0), 60);
        Trial.due("b", Trial.code(house, 58, false), "9 0 59 0 0 0 0 0 1 0 0 2 8 0 3 0 0 0 0 0 1 0 0 2 7 0 0 0 3 28");
        // The rewritten OWN and BOTH of the last DOMAIN.
        house = Trial.house(Trial.numbered("grant /s% { } ", "", 8) + Trial.numbered("module m% /s% { } ", "", 7) + "module m7 /s7 { a() = priv ctx; b() = under none : ctx; }");
        Trial.due("OWN", Trial.code(house, 1, true), "31 0 7 2 0 0 28");
        Trial.due("BOTH", Trial.code(house, 3, true), "33 0 7 2 0 0 28");
    }

    // Section 7: "one LOCAL more, L, the last": behind all others, from 0 on.
    private static void lastLocalOfTheRewritten() {
        WardenHouse house = Trial.house("module m /a { a() = priv ctx; b(x, y, z) = let u = 1 in try ctx catch e : e; c(x) = fun(y) { x + ctx }; }");
        Trial.due("L of none", Trial.code(house, 1, true), "31 0 0 2 0 0 28");
        Trial.due("L behind six", Trial.code(house, 2, true), "30 0 0 0 0 0 3 0 4 19 0 19 2 0 6 20 17 0 25 3 0 5 2 0 5 28");
        Trial.due("L behind two", Trial.code(house, 4, true), "30 0 0 2 0 0 2 0 2 11 28");
        Trial.due("LOCALS without L", Trial.units(house, 5), "1 0 6 2 2");
        // A UNIT that does not NEED is the same both ways.
        Trial.due("a", Trial.code(house, 0, true), Trial.code(house, 0, false));
        Trial.due("lengths", Trial.units(house, 7) + ", " + Trial.units(house, 8), "4 2 21 7 6, 4 7 26 7 11");
    }

    // Section 5: groups by NAME and number of parameters, funs by number alone, in all modules of the program.
    private static void needsByGroups() {
        String[] names = {"", "x", "x, y", "x, y, z"};
        String[] given = {"", "1", "1, 2", "1, 2, 3"};
        for (int n = 0; n <= 3; n++) {
            for (int k = 0; k <= 3; k++) {
                WardenHouse house = Trial.house("module m /a { a() = none.g(" + given[k] + "); b() = none(" + given[k] + "); } module n /b { g(" + names[n] + ") = ctx; h(v) = fun(" + names[n] + ") { ctx }; }");
                Trial.due("g of " + n + " sent " + k, Trial.units(house, 6), (n == k ? "1 1" : "0 0") + " 1 0 1");
                Trial.due("SEND", house.code(0, true, house.unit(0, 8) - 6), n == k ? 71 : 7);
            }
            WardenHouse house = Trial.house("module m /a { a() = spawn none; } module n /b { h(v) = fun(" + names[n] + ") { ctx }; }");
            Trial.due("fun of " + n + " spawned", Trial.units(house, 6), n == 0 ? "1 0 1" : "0 0 1");
            Trial.due("SPAWN", Trial.code(house, 0, true), n == 0 ? "30 0 0 1 2 0 1 87 28" : "1 23 28");
        }
    }
}

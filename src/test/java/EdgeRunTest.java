/** Boundary cases of section 3 (values, frames, STEPS, FAILURES) and of promise 14. */
public final class EdgeRunTest {
    // One value of each sort, by its number in promise 17.
    private static final String[] SORTS = {"1", "none", "self", "fun() { 1 }", "ctx"};
    private static final String DEEP = " d(n) = if n == 0 then 0 else self.d(n - 1);";

    public static void main(String[] args) {
        runsThatAreRefused();
        refusedRunLeavesTheFormer();
        intsWrap();
        conditions();
        operationsOfEachSort();
        samenessOfEachSort();
        wordsOfEachSort();
        membersOfEachSort();
        numbersOfParameters();
        nearestAbove();
        selfOfTheFirst();
        freshObjects();
        lastStep();
        mostSteps();
        cutEndsAll();
        mostFrames();
        cutAheadOfFrames();
        mostThings();
        failuresOfAnyInt();
        Trial.end();
    }

    // Promise 14: "IllegalStateException without a program; IllegalArgumentException if u is no METHOD without parameters, or steps are not 1 .. 4000".
    private static void runsThatAreRefused() {
        WardenHouse house = new WardenHouse();
        for (int steps : new int[] {0, 1, 4000, 4001}) {
            Trial.due("run without a program", Trial.run(house, 0, 0, steps, false), -1);
            Trial.due("run without a program", Trial.run(house, -1, 0, steps, true), -1);
        }
        Trial.feed(house, "module m /a { a() = fun() { priv priv [r /x] under ctx : 1 }; b(x) = 1; c(x, y) = 1; d(x, y, z) = 1; e() = 7; }");
        Trial.due("program", Trial.program(house), 9);
        for (int u = -2; u <= 11; u++) {
            boolean good = u == 0 || u == 8;
            Trial.due("run of UNIT " + u, Trial.run(house, u, 0, 1, false), good ? 0 : -2);
            Trial.due("run of UNIT " + u, Trial.run(house, u, 5, 4000, true), good ? 0 : -2);
        }
        for (int u : new int[] {60, 61, Integer.MIN_VALUE, Integer.MAX_VALUE}) {
            Trial.due("run of UNIT " + u, Trial.run(house, u, 0, 1, false), -2);
        }
        int[] steps = {Integer.MIN_VALUE, -4000, -1, 0, 1, 2, 3999, 4000, 4001, 4002, Integer.MAX_VALUE};
        for (int n : steps) {
            Trial.due("run of " + n + " STEPS", Trial.run(house, 0, 0, n, false), n >= 1 && n <= 4000 ? 0 : -2);
            Trial.due("run of " + n + " STEPS", Trial.run(house, 8, 1, n, true), n >= 1 && n <= 4000 ? 0 : -2);
        }
        // A program without UNITS is one.
        house = Trial.house("module m /a { }");
        Trial.due("run of no UNITS", Trial.run(house, 0, 0, 1, false), -2);
        Trial.feed(house, "?");
        Trial.due("program", Trial.program(house), -1);
        Trial.due("run behind a FAULT", Trial.run(house, 0, 0, 1, false), -1);
    }

    // Promises 14 to 18: a call that is refused is no run, so the latest is the one ahead of it.
    private static void refusedRunLeavesTheFormer() {
        WardenHouse house = Trial.house("module m /a { a() = { out 4; ctx }; b(x) = 1; }");
        Trial.due("refused", Trial.run(house, 1, 0, 10, true), -2);
        Trial.due("no run yet", house.result(0) + " " + house.event(0, 0) + " " + house.thread(0, 0) + " " + house.context(0, -1), "-1 -1 -1 -1");
        Trial.due("run", Trial.run(house, 0, 0, 10, true), 0);
        String results = Trial.results(house);
        for (int turn = 0; turn < 3; turn++) {
            Trial.due("refused", Trial.run(house, turn == 0 ? 1 : turn == 1 ? 2 : 0, 0, turn == 2 ? 4001 : 10, false), -2);
            Trial.due("results", Trial.results(house), results);
            Trial.due("events", Trial.events(house), "0:0:4");
            Trial.due("thread", Trial.thread(house, 0), "1 0 4 1 -1");
            Trial.due("contexts", Trial.contexts(house), "{1}");
        }
    }

    /** "value sort" or "fails n" of main, the same both ways; m has the field f and is below n with g. */
    private static void gives(String e, String due) {
        String text = "grant /a { r /x; } module n /b { field g; up() = 70; over() = 71; } module m /a : n { field f; over() = 72; two(x, y) = x * 10 + y; main() = "
            + e + ";" + DEEP + " }";
        WardenHouse house = Trial.house(text);
        int u = Trial.unitAt(house, text, "main()");
        for (int turn = 0; turn < 2; turn++) {
            Trial.run(house, u, 0, 4000, turn == 1);
            String got = house.thread(0, 0) == 2 ? "fails " + house.thread(0, 1) : house.thread(0, 1) + " " + house.thread(0, 2);
            Trial.due(e + (turn == 1 ? ", rewritten" : ""), got, due);
        }
    }

    // Section 3: "INTS (which wrap)".
    private static void intsWrap() {
        gives("2147483647 + 1", "-2147483648 0");
        gives("2147483647 + 2147483647", "-2 0");
        gives("0 - 2147483647 - 1", "-2147483648 0");
        gives("0 - 2147483647 - 2", "2147483647 0");
        gives("0 - (0 - 2147483647 - 1)", "-2147483648 0");
        gives("(0 - 2147483647 - 1) * (0 - 1)", "-2147483648 0");
        gives("65536 * 65536", "0 0");
        gives("65536 * 32768", "-2147483648 0");
        gives("46341 * 46341", "-2147479015 0");
        gives("2147483647 * 2147483647", "1 0");
        gives("2147483647 + 1 == 0 - 2147483647 - 1", "1 0");
        gives("2147483647 + 1 < 2147483647", "1 0");
        gives("2147483647 < 2147483647 + 1", "0 0");
        gives("0 - 1 < 0", "1 0");
        gives("0 < 0 - 1", "0 0");
        gives("2147483647 < 2147483647", "0 0");
        gives("2147483646 < 2147483647", "1 0");
        gives("0 - 2147483647 - 1 < 0 - 2147483647", "1 0");
    }

    // Section 3: "if: an INT other than 0 is true; FAILURE 5 of what is no INT".
    private static void conditions() {
        gives("if 0 then 3 else 4", "4 0");
        gives("if 1 then 3 else 4", "3 0");
        gives("if 0 - 1 then 3 else 4", "3 0");
        gives("if 2147483647 then 3 else 4", "3 0");
        gives("if 2147483647 + 1 then 3 else 4", "3 0");
        gives("if 65536 * 65536 then 3 else 4", "4 0");
        for (int s = 1; s < 5; s++) {
            gives("if " + SORTS[s] + " then 3 else 4", "fails 5");
        }
        // The branch that is not gone into is not worked out.
        gives("if 1 then 3 else fail 9", "3 0");
        gives("if 0 then fail 9 else 4", "4 0");
    }

    // Section 3: "< + - * of INTS (else 5)", on either side; both sides are worked out first.
    private static void operationsOfEachSort() {
        for (int left = 0; left < 5; left++) {
            for (int right = 0; right < 5; right++) {
                for (String sign : new String[] {"+", "-", "*", "<"}) {
                    String both = left + right == 0 ? (sign.equals("+") ? "2 0" : sign.equals("*") ? "1 0" : "0 0") : "fails 5";
                    gives(SORTS[left] + " " + sign + " " + SORTS[right], both);
                }
            }
            gives(SORTS[left] + " + fail 9", "fails 9");
            gives("(fail 9) < " + SORTS[left], "fails 9");
        }
    }

    // Section 3: "== 1 if both are the same INT, none, or the same object, else 0; of a FUN or CONTEXT: 5".
    private static void samenessOfEachSort() {
        for (int left = 0; left < 5; left++) {
            for (int right = 0; right < 5; right++) {
                gives(SORTS[left] + " == " + SORTS[right], left > 2 || right > 2 ? "fails 5" : left == right ? "1 0" : "0 0");
            }
        }
        gives("0 == none", "0 0");
        gives("none == 0", "0 0");
        gives("0 == self", "0 0");
        gives("0 == 0 - 0", "1 0");
        gives("new m == new m", "0 0");
        gives("let x = new m in x == x", "1 0");
        gives("self == new m", "0 0");
        gives("let x = ctx in x == x", "fails 5");
        gives("let x = fun() { 1 } in x == x", "fails 5");
    }

    // Section 3: out, fail, wait, [ E ] "(else 5)"; spawn "(else 3, 4)"; under "3 if the first PREFIX gives no CONTEXT".
    private static void wordsOfEachSort() {
        for (int s = 0; s < 5; s++) {
            gives("out " + SORTS[s], s == 0 ? "1 0" : "fails 5");
            gives("fail " + SORTS[s], s == 0 ? "fails 1" : "fails 5");
            gives("wait " + SORTS[s], s == 0 ? "fails 8" : "fails 5");
            gives("spawn " + SORTS[s], s == 3 ? "1 0" : "fails 3");
            gives("able r /x [" + SORTS[s] + "]", s == 0 ? "0 0" : "fails 5");
            gives("check r /x [" + SORTS[s] + "]", s == 0 ? "fails 1" : "fails 5");
            gives("under " + SORTS[s] + " : 6", s == 4 ? "6 0" : "fails 3");
            // The value of a thread is of any sort.
            gives("wait spawn fun() { " + SORTS[s] + " }", (s == 0 ? "1 " : "0 ") + s);
        }
    }

    // Section 3: READ, WRITE, SEND "3 of what is no object, 2 without such a field"; APPLY "3 of no FUN".
    private static void membersOfEachSort() {
        for (int s = 0; s < 5; s++) {
            String one = "(" + SORTS[s] + ")";
            gives(one + ".f", s == 2 ? "0 1" : "fails 3");
            gives(one + ".f := 6", s == 2 ? "6 0" : "fails 3");
            gives(one + ".up()", s == 2 ? "70 0" : "fails 3");
            gives(one + "()", s == 3 ? "1 0" : "fails 3");
            gives(one + ".nowhere", s == 2 ? "fails 2" : "fails 3");
            gives(one + ".nowhere := 6", s == 2 ? "fails 2" : "fails 3");
            gives(one + ".nowhere()", s == 2 ? "fails 2" : "fails 3");
            gives(one + "(1)", s == 3 ? "fails 4" : "fails 3");
            // The value and the arguments are worked out ahead of what follows.
            gives(one + ".nowhere := fail 9", "fails 9");
            gives(one + ".nowhere(fail 9)", "fails 9");
            gives(one + "(1, 2, fail 9)", "fails 9");
        }
        // A METHOD is no field, a field no METHOD.
        gives("self.up", "fails 2");
        gives("self.f()", "fails 2");
        gives("self.f := self.g := 8", "8 0");
    }

    // Section 3: SEND "of that NAME and number of parameters"; APPLY "4 of another number": none to three of each.
    private static void numbersOfParameters() {
        String[] names = {"", "x", "x, y", "x, y, z"};
        String[] given = {"", "1", "1, 2", "1, 2, 3"};
        for (int n = 0; n <= 3; n++) {
            for (int k = 0; k <= 3; k++) {
                Trial.due("fun of " + n + " with " + k, Trial.outcome("module m /a { a() = fun(" + names[n] + ") { 5 }(" + given[k] + "); }"), n == k ? "5 0" : "fails 4");
                Trial.due("METHOD of " + n + " with " + k, Trial.outcome("module m /a { a() = self.b(" + given[k] + "); b(" + names[n] + ") = 5; }"), n == k ? "5 0" : "fails 2");
            }
            Trial.due("spawn of a fun of " + n, Trial.outcome("module m /a { a() = spawn fun(" + names[n] + ") { 5 }; }"), n == 0 ? "1 0" : "fails 4");
        }
        Trial.due("the last of three", Trial.outcome("module m /a { a() = self.b(1, 2, 3) + fun(x, y, z) { x * 100 + y * 10 + z }(4, 5, 6); b(x, y, z) = z; }"), "459 0");
    }

    // Section 3: "in its module, or the nearest one above": eight modules, one above the other.
    private static void nearestAbove() {
        StringBuilder text = new StringBuilder("module m0 /a { field f0; base() = 100; a0() = 0; same() = 0; }");
        for (int m = 1; m < 8; m++) {
            text.append(" module m" + m + " /a : m" + (m - 1) + " { field f" + m + "; a" + m + "() = " + m + "; same() = " + m + "; }");
        }
        for (int m = 0; m < 8; m++) {
            String all = text.toString().replace("a7() = 7", "a7() = 7; main() = new m" + m + ".same(); up() = new m" + m
                + ".base(); low() = new m" + m + ".a" + m + "(); not() = new m" + m + ".a" + (m + 1) + "(); get() = new m" + m + ".f0; own() = new m" + m + ".f" + m
                + "; miss() = new m" + m + ".f" + (m + 1));
            WardenHouse house = Trial.house(all);
            String[] heads = {"main()", "up()", "low()", "not()", "get()", "own()", "miss()"};
            String[] due = {"1 " + m + " 0", "1 100 0", "1 " + m + " 0", "2 2 -1", "1 0 1", "1 0 1", "2 2 -1"};
            for (int i = 0; i < heads.length; i++) {
                Trial.run(house, Trial.unitAt(house, all, heads[i]), 0, 10, false);
                Trial.due(heads[i] + " of m" + m, Trial.thread(house, 0).replaceAll("( \\S+){2}$", ""), due[i]);
            }
        }
    }

    // Section 3: "self being a new object of its module": of the module in which the METHOD is, and of no other.
    private static void selfOfTheFirst() {
        String text = "module m /a { field f; a() = self.f; b() = self.g; c() = self.over(); over() = 1; } module n /a : m { field g; d() = self.g; e() = self.over(); over() = 2; }";
        WardenHouse house = Trial.house(text);
        String[] heads = {"a()", "b()", "c()", "d()", "e()"};
        String[] due = {"1 0 1", "2 2 -1", "1 1 0", "1 0 1", "1 2 0"};
        for (int i = 0; i < heads.length; i++) {
            for (int turn = 0; turn < 2; turn++) {
                Trial.due("run", Trial.run(house, Trial.unitAt(house, text, heads[i]), 0, 10, turn == 1), 0);
                Trial.due(heads[i], house.thread(0, 0) + " " + house.thread(0, 1) + " " + house.thread(0, 2), due[i]);
                Trial.due("one object", house.result(5), 1);
            }
        }
    }

    // Section 3: "objects (each field none at first)", of each object its own; a frame's let and catch begin anew.
    private static void freshObjects() {
        gives("{ self.f := 3; self.g := 4; new m.f == none }", "1 0");
        gives("let o = new m in { o.f := 3; self.f == none }", "1 0");
        gives("{ self.f := self; self.f.f.g := 5; self.g }", "5 0");
        gives("{ self.f := 1; self.f := 2; self.f }", "2 0");
        // The field of a module above, of an object of the one below, is one and the same.
        gives("{ self.g := 1; self.f := 2; self.g * 10 + self.f }", "12 0");
    }

    // Section 3: "Each frame that begins is a STEP. A frame that would begin: CUT if no STEP is left": of each sort of frame.
    private static void lastStep() {
        String[] frames = {"self.b()", "fun() { 1 }()", "priv 1", "priv [r /x] 1", "under ctx : 1", "spawn fun() { 1 }"};
        for (String frame : frames) {
            WardenHouse house = Trial.house("module m /a { a() = try { out 5; " + frame + "; " + frame + "; " + frame + " } catch e : out 6; b() = 1; }");
            for (int turn = 0; turn < 2; turn++) {
                for (int steps = 1; steps <= 5; steps++) {
                    Trial.due(frame + " with " + steps, Trial.run(house, 0, 0, steps, turn == 1), steps < 4 ? 2 : 0);
                    Trial.due("result(0)", house.result(0), steps < 4 ? 2 : 0);
                    Trial.due("result(1)", house.result(1), Math.min(steps, 4));
                    Trial.due("a CUT is no FAILURE", Trial.events(house), "0:0:5");
                    Trial.due("thread", house.thread(0, 0), steps < 4 ? 0 : 1);
                    Trial.due("threads", house.result(2), frame.startsWith("spawn") ? Math.min(steps, 4) : 1);
                }
            }
        }
        // Where no frame begins, one STEP is enough.
        Trial.due("one STEP", Trial.run(Trial.house("module m /a { a() = { new m; out 1; check r /x }; }"), 0, 0, 1, false), 0);
        // A SEND or an APPLY that fails begins none; neither does a spawn or an under that fails.
        for (String e : new String[] {"self.nowhere()", "1.b()", "1()", "fun(x) { 1 }()", "spawn 1", "spawn fun(x) { 1 }", "under 1 : 1"}) {
            WardenHouse house = Trial.house("module m /a { a() = try " + e + " catch e : e; b() = 1; }");
            Trial.due(e + " with one STEP", Trial.run(house, 0, 0, 1, true), 0);
            Trial.due("result(1)", house.result(1) + " " + house.thread(0, 3), "1 1");
        }
    }

    // Promise 14: "so many STEPS": 4000 of them. Each d(n) is n + 1, of which there are 3999.
    private static void mostSteps() {
        String sends = Trial.times("self.d(57); ", 68) + "self.d(54)";
        WardenHouse house = Trial.house("module m /a { a() = { " + sends + " };" + DEEP + " }");
        WardenHouse more = Trial.house("module m /a { a() = { " + sends + "; out 1; priv 1 };" + DEEP + " }");
        for (int turn = 0; turn < 2; turn++) {
            Trial.due("3999 are too few", Trial.run(house, 0, 0, 3999, turn == 1), 2);
            Trial.due("result(1)", house.result(1) + " " + house.thread(0, 3) + " " + house.thread(0, 0), "3999 3999 0");
            Trial.due("4000 are enough", Trial.run(house, 0, 0, 4000, turn == 1), 0);
            Trial.due("result(1)", house.result(1) + " " + house.thread(0, 3) + " " + house.thread(0, 0), "4000 4000 1");
            Trial.due("4001 are not had", Trial.run(more, 0, 0, 4000, turn == 1), 2);
            Trial.due("result(1)", more.result(1) + " " + more.thread(0, 3) + " " + more.thread(0, 0), "4000 4000 0");
            Trial.due("all but the last", Trial.events(more), "0:0:1");
        }
    }

    // Section 3: "a CUT ends all": no thread goes on behind it.
    private static void cutEndsAll() {
        WardenHouse house = Trial.house("module m /a { a() = { spawn fun() { out 1; out 2 }; spawn fun() { out 3 }; self.b(); out 4 }; b() = 1; }");
        Trial.due("run", Trial.run(house, 0, 0, 3, false), 2);
        Trial.due("events", Trial.events(house), "");
        Trial.due("threads", house.thread(0, 0) + " " + house.thread(1, 0) + " " + house.thread(2, 0), "0 0 0");
        Trial.due("run", Trial.run(house, 0, 0, 4, false), 0);
        Trial.due("events", Trial.events(house), "0:0:4 1:0:1 1:0:2 2:0:3");
    }

    // Section 3: "FAILURE 6 if its thread has 60": the 60th frame of each sort begins, the 61st does not and is no STEP.
    private static void mostFrames() {
        String[] frames = {"self.b()", "fun() { 1 }()", "priv 1", "priv [r /x] 1", "under ctx : 1"};
        for (String frame : frames) {
            String text = "module m /a { a() = self.d(57); c() = self.d(58); e() = try self.d(58) catch e : e + 10; f() = self.g(58); b() = 1;"
                + " d(n) = if n == 0 then " + frame + " else self.d(n - 1); g(n) = if n == 0 then try " + frame + " catch e : e + 20 else self.g(n - 1); }";
            WardenHouse house = Trial.house(text);
            for (int turn = 0; turn < 2; turn++) {
                Trial.due("run", Trial.run(house, Trial.unitAt(house, text, "a()"), 0, 4000, turn == 1), 0);
                Trial.due(frame + " as the 60th", house.thread(0, 0) + " " + house.thread(0, 1) + " " + house.result(4) + " " + house.result(1), "1 1 60 60");
                Trial.due("run", Trial.run(house, Trial.unitAt(house, text, "c()"), 0, 4000, turn == 1), 0);
                Trial.due(frame + " as the 61st", house.thread(0, 0) + " " + house.thread(0, 1) + " " + house.result(4) + " " + house.result(1), "2 6 60 60");
                Trial.due("events", Trial.events(house), "0:2:6");
                Trial.due("run", Trial.run(house, Trial.unitAt(house, text, "e()"), 0, 4000, turn == 1), 0);
                Trial.due("caught by the first", house.thread(0, 0) + " " + house.thread(0, 1) + " " + house.result(4), "1 16 60");
                Trial.due("run", Trial.run(house, Trial.unitAt(house, text, "f()"), 0, 4000, turn == 1), 0);
                Trial.due("caught by the 60th", house.thread(0, 0) + " " + house.thread(0, 1) + " " + house.result(4), "1 26 60");
            }
        }
        // Frames that have ended are none of the 60; a thread that is spawned in the 60th has its own.
        gives("{ self.d(57); self.d(57); self.d(58); 7 }", "7 0");
        gives("{ self.d(59); 7 }", "fails 6");
        String text = "module m /a { a() = self.d(58); d(n) = if n == 0 then wait spawn fun() { self.e(58) } else self.d(n - 1);"
            + " e(n) = if n == 0 then try priv 1 catch e : e + 30 else self.e(n - 1); }";
        Trial.due("a thread of the 60th", Trial.outcome(text), "36 0");
    }

    // Section 3: of a frame that can't begin for both reasons "CUT if no STEP is left" comes first.
    private static void cutAheadOfFrames() {
        WardenHouse house = Trial.house("module m /a { a() = try self.d(59) catch e : e;" + DEEP + " }");
        for (int turn = 0; turn < 2; turn++) {
            Trial.due("60 STEPS", Trial.run(house, 0, 0, 60, turn == 1), 2);
            Trial.due("result", house.result(1) + " " + house.result(4) + " " + house.thread(0, 0), "60 60 0");
            Trial.due("61 STEPS", Trial.run(house, 0, 0, 61, turn == 1), 0);
            Trial.due("result", house.result(1) + " " + house.result(4) + " " + house.thread(0, 1), "60 60 6");
        }
    }

    // Section 3: "new, fun: an object, a FUN: 9 if there are 2000 of both in the run"; thread 0's self is the first.
    private static void mostThings() {
        // f() makes 37, so 54 times 1998; with self that is 1999.
        String f = " f() = { " + Trial.numbered("new m", "; ", 20) + "; " + Trial.numbered("fun() { 1 }", "; ", 17) + " };"
            + " g(n) = if n == 0 then 0 else { self.f(); self.g(n - 1) }; fill() = self.g(54);";
        String text = "module m /a { a() = { self.fill(); new m; try new m catch e : out e; try fun() { 1 } catch e : out e; 3 };"
            + " b() = { self.fill(); fun() { 1 }; new m };"
            + " c() = { self.fill(); let x = new m in fun() { x } };"
            + " h() = { self.fill(); spawn fun() { try new m catch e : out e }; wait 1; 5 };" + f + " }";
        WardenHouse house = Trial.house(text);
        String[] heads = {"a()", "b()", "c()", "h()"};
        String[] threads = {"1 3 0", "2 9 -1", "2 9 -1", "1 5 0"};
        String[] events = {"0:0:9 0:0:9", "0:2:9", "0:2:9", "1:0:9"};
        for (int turn = 0; turn < 2; turn++) {
            for (int i = 0; i < heads.length; i++) {
                Trial.due("run", Trial.run(house, Trial.unitAt(house, text, heads[i]), 0, 4000, turn == 1), 0);
                Trial.due("thread of " + heads[i], Trial.thread(house, 0).replaceAll("( \\S+){2}$", ""), threads[i]);
                Trial.due("events of " + heads[i], Trial.events(house), events[i]);
                Trial.due("result(5) of " + heads[i], house.result(5), 2000);
            }
            // 1999 and 1 more in the next run: they are of one run.
            Trial.due("run", Trial.run(house, Trial.unitAt(house, text, "fill() ="), 0, 4000, turn == 1), 0);
            Trial.due("result(5) of fill()", house.result(5) + " " + house.thread(0, 0), "1999 1");
        }
    }

    // Section 3: "fail INT: FAILURE with this INT", whatever it is; "NAME being the INT of the FAILURE".
    private static void failuresOfAnyInt() {
        for (String n : new String[] {"0", "1", "9", "10", "2147483647", "(0 - 1)", "(0 - 2147483647 - 1)"}) {
            String value = n.equals("(0 - 1)") ? "-1" : n.startsWith("(") ? "-2147483648" : n;
            gives("fail " + n, "fails " + value);
            gives("try fail " + n + " catch e : e", value + " 0");
            gives("wait spawn fun() { fail " + n + " }", "fails " + value);
            gives("try wait spawn fun() { fail " + n + " } catch e : e", value + " 0");
        }
        // A FAILURE in the second E goes on to the try around it.
        gives("try try fail 1 catch e : fail (e + 1) catch e : e * 10", "20 0");
        gives("try fail 1 catch e : fail (e + 1)", "fails 2");
        gives("{ try 1 catch e : 2; fail 3 }", "fails 3");
    }
}

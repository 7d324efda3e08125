/** Boundary cases of what stays and what goes between calls: promises 4, 11, 14 behind full, refused and cut ones. */
public final class EdgeReuseTest {
    private static final String WHOLE = "grant /a/- { r /x ; w /- ; } grant /* { r /y ; } module m /a/b { field f ; a ( ) = let v = 1 in if v then { out 2 ; check r /x } else 3 ;"
        + " b ( x , y ) = try x + y * 4 < fail 5 catch e : e == 6 ; c ( x ) = out priv [ r /x , w /y/* ] under ctx : able w /y [ x ] ;"
        + " d ( ) = { self . f := fun ( p ) { p + self . b ( p , 1 ) } ; spawn fun ( ) { out 9 } ; ( self . f ) ( 7 ) } ; }"
        + " module n /c : m { field g ; h ( ) = { new m . a ( ) ; self . g := self . c ( 3 ) ; able r /x } ; }";

    public static void main(String[] args) {
        fullAgain();
        behindAFaultAtEachWord();
        namesOfARefusedText();
        askingsOfTheFormer();
        manyTexts();
        manyLongRuns();
        behindACutAtEachStep();
        Trial.end();
    }

    private static int program(WardenHouse house, String text) {
        Trial.feed(house, text);
        return Trial.program(house);
    }

    // Section 1: each bound is of one program: as many may be in the next, and behind a text that had one more.
    private static void fullAgain() {
        String rights = Trial.times("r /x; ", 8);
        String methods = Trial.numbered("a%() = 1; ", "", 12);
        String[][] all = {
            {Trial.times("grant /a { } ", 8), "grant /a { } ", "module m /a { }"},
            {"grant /a { " + rights, "r /x; ", "} module m /a { }"},
            {Trial.numbered("module m% /a { } ", "", 8), "module m8 /a { }", ""},
            {"module m /a { " + Trial.numbered("field f%; ", "", 4), "field f4; ", "}"},
            {"module m /a { " + methods, "b() = 1; ", "}"},
            {"module m /a { a() = 1" + Trial.times(" + priv 1", 59), " + priv 1", "; }"},
            {"module m /a { a() = 1" + Trial.times(" + priv [r /x] 1", 12), " + priv [r /x] 1", "; }"},
            {"module m /a { a() = priv [w /x" + Trial.times(", r /x", 7), ", r /x", "] 1; }"},
            {"module m /a { a() = 1" + Trial.times(" + check r /x", 24), " + able r /x", "; }"},
            {"module m /a { a() = " + Trial.numbered("let v% = 1 in ", "", 12), "let v = 1 in ", "1; }"},
            {"module m /a { a() = out { 1" + Trial.times(";1", 199), ";1", " }; }"},
            {"module m /a { a() = " + Trial.times("out ", 23), "out ", "1; }"},
            {"module m /a { a(x, y, z", ", u", ") = 1; }"},
        };
        WardenHouse house = new WardenHouse();
        for (String[] one : all) {
            house = new WardenHouse();
            int units = program(house, one[0] + one[2]);
            Trial.due("full", units >= 0, true);
            Trial.due("full again", program(house, one[0] + one[2]), units);
            Trial.due("one more", program(house, one[0] + one[1] + one[2]), -1);
            Trial.due("its FAULT", house.fault(0), 4);
            Trial.due("full behind a FAULT", program(house, one[0] + one[2]), units);
        }
        // All of them in turn on one object.
        house = new WardenHouse();
        for (String[] one : all) {
            Trial.due("full behind another", program(house, one[0] + one[2]) >= 0, true);
        }
    }

    /** What a house tells of WHOLE, by some 350 calls. */
    private static String told(WardenHouse house) {
        StringBuilder all = new StringBuilder();
        all.append(program(house, WHOLE)).append(' ').append(house.fault(0)).append(' ').append(house.fault(1)).append('\n');
        for (int what = 0; what < 10; what++) {
            all.append(house.count(what)).append(' ');
        }
        for (int what = 2; what < 9; what++) {
            all.append(Trial.units(house, what)).append('\n');
        }
        all.append(Trial.mays(house)).append(house.has(0, false)).append(house.has(1, false)).append(house.has(0, true)).append('\n');
        for (String head : new String[] {"a (", "d (", "h ("}) {
            int u = Trial.unitAt(house, WHOLE, head);
            for (int turn = 0; turn < 2; turn++) {
                Trial.run(house, u, 0, 50, turn == 1);
                all.append(Trial.results(house)).append(' ').append(Trial.events(house)).append(' ').append(Trial.thread(house, 0)).append(' ').append(Trial.contexts(house)).append('\n');
            }
        }
        return all.toString();
    }

    // Promise 4: a text with a FAULT leaves nothing to the next, wherever its FAULT is.
    private static void behindAFaultAtEachWord() {
        WardenHouse first = new WardenHouse();
        Trial.asks(first, "r /x");
        String due = told(first);
        Trial.due("it has a run", due.contains("0:0:2 0:1:1@0"), true);
        for (int at = 0; at < WHOLE.length(); at = WHOLE.indexOf(' ', at + 1) < 0 ? WHOLE.length() : WHOLE.indexOf(' ', at + 1)) {
            WardenHouse house = new WardenHouse();
            Trial.asks(house, "r /x");
            Trial.due("a FAULT at " + at, program(house, WHOLE.substring(0, at) + " ?"), -1);
            Trial.due("behind a FAULT at " + at, told(house), due);
        }
    }

    // Section 1: FAULT 2 and 3 are of the NAMES of this text alone.
    private static void namesOfARefusedText() {
        WardenHouse house = new WardenHouse();
        Trial.due("x is around", program(house, "module m /a { field f; a(x) = let y = 1 in fun(z) { try 1 catch e : ?"), -1);
        for (String name : new String[] {"x", "y", "z", "e"}) {
            Trial.due(name + " is none", program(house, "module m /a { a() = " + name + "; }"), -1);
            Trial.due("FAULT of " + name, house.fault(0) + " " + house.fault(1), "3 20");
        }
        Trial.due("twelve around", program(house, "module m /a { a() = " + Trial.numbered("let v% = 1 in ", "", 12) + "?"), -1);
        Trial.due("twelve more", program(house, "module m /a { a() = " + Trial.numbered("let v% = 1 in ", "", 12) + "1; }"), 1);
        Trial.due("NAMES of the former", program(house, "module m /a { field f; a() = 1; }"), 1);
        Trial.due("once more", program(house, "module m /a { field f; a() = 1; }"), 1);
        Trial.due("its SUPER is gone", program(house, "module n /a : m { }"), -1);
        Trial.due("its FAULT", house.fault(0) + " " + house.fault(1), "3 14");
        Trial.due("its module is gone", program(house, "module n /a { a() = new m; }"), -1);
        Trial.due("its FAULT", house.fault(0) + " " + house.fault(1), "3 24");
        // What was above is not above the next of that number.
        Trial.due("two", program(house, "module m /a { field f; b() = 7; } module n /a : m { a() = self.b(); }"), 2);
        Trial.due("two without a SUPER", program(house, "module m /a { field f; b() = 7; } module n /a { field f; a() = self.b(); c() = self.f; }"), 3);
        Trial.run(house, 1, 0, 10, false);
        Trial.due("no METHOD above", house.thread(0, 0) + " " + house.thread(0, 1), "2 2");
    }

    // Promises 14 and 16: whether an ASKING has an [ E ], what it asks for, and its LIMIT are of this text alone.
    private static void askingsOfTheFormer() {
        String indexed = "grant /a { r /x/1; } module m /a { a() = priv [r /x/1] check r /x [1]; }";
        String plain = "grant /a { r /x; } module m /a { a() = priv [w /y] check r /x; }";
        WardenHouse house = new WardenHouse();
        for (int turn = 0; turn < 4; turn++) {
            Trial.due("program", program(house, indexed), 2);
            Trial.due("run", Trial.run(house, 0, 0, 10, turn % 2 == 0), 0);
            Trial.due("with [ E ]", Trial.events(house), "0:1:1@0[1]");
            Trial.due("program", program(house, plain), 2);
            Trial.due("run", Trial.run(house, 0, 0, 10, turn % 2 == 0), 0);
            Trial.due("without [ E ]", Trial.events(house), "0:1:1@0");
            Trial.due("asks", Trial.asks(house, "r /x/1"), true);
            Trial.due("has", house.has(0, false) + " " + house.has(0, true), "0 0");
        }
    }

    // What it is: an object is used for up to 512 calls: text upon text, each with as many jumps as can be.
    private static void manyTexts() {
        String ifs = "module m /a { a() = { " + Trial.numbered("if 0 then 1 else 2", "; ", 79) + "; if 1 then 7 else 8 }; }";
        WardenHouse house = new WardenHouse();
        for (int i = 0; i < 4; i++) {
            Trial.due("program", program(house, ifs), 1);
            Trial.due("run", Trial.run(house, 0, 0, 1, i % 2 == 0), 0);
            Trial.due("the last if", house.thread(0, 1), 7);
        }
        house = new WardenHouse();
        for (int i = 0; i < 80; i++) {
            Trial.due("program", program(house, "module m /a { a() = if 0 then 1 else try fail 2 catch e : " + i + "; }"), 1);
            Trial.due("run", Trial.run(house, 0, 0, 1, i % 2 == 0), 0);
        }
        Trial.due("the last text", house.thread(0, 1), 79);
    }

    // What it is, promise 14: hundreds of runs of 4000 STEPS each, with near 2000 objects and FUNS, and EVENTS by far more than 200.
    private static void manyLongRuns() {
        // d(40) is 81 STEPS: 41 of d, 40 of priv, by which 40 FUNS are made and 40 INTS written; 49 of them, and 30 STEPS more.
        String text = "grant /a { r /x; } module n /b { field k; ask(o) = o.c(); } module m /a { a() = { " + Trial.times("self.d(40); ", 49) + "self.d(40) };"
            + " d(n) = if n == 0 then 0 else { fun() { n + self.d(n) }; out n; priv [r /x] able r /x; self.d(n - 1) };"
            + " b() = let x = 30 in let y = new n in { y.k := 4; out fun(z) { x + y.k + z }(5); out self.c(); y.ask(self) }; c() = able r /x; } ";
        for (int turn = 0; turn < 2; turn++) {
            WardenHouse house = Trial.house(text);
            String due = "2 4000 1 1975 42 1976 " + (turn == 0 ? "1975 0" : "0 1");
            for (int i = 0; i < 440; i++) {
                Trial.run(house, 1, i, 4000, turn == 1);
                if (i % 220 == 0) {
                    Trial.due("results of run " + i, Trial.results(house), due);
                }
            }
            Trial.due("results of the last", Trial.results(house), due);
            Trial.due("its first and its last EVENT", house.event(0, 2) + " " + house.event(199, 2) + " " + house.event(200, 2), "40 1 -1");
            // Another METHOD behind them all: objects, FUNS and frames are found as in the first run.
            Trial.due("run", Trial.run(house, Trial.unitAt(house, text, "b() ="), 0, 100, turn == 1), 0);
            Trial.due("events", Trial.events(house) + ", " + house.thread(0, 1) + " " + house.result(5) + " " + house.result(6), "0:0:39 0:0:1, 0 3 " + (turn == 0 ? 4 : 0));
        }
    }

    // Section 3: a CUT leaves nothing to the next run: cut at each of its STEPS, then run to the end.
    private static void behindACutAtEachStep() {
        String text = "grant /a { r /x; } module m /a { field f; a() = { self.f := 1; spawn fun() { out self.b(3); 4 }; try self.b(2) catch e : out e; under ctx : out self.f; wait 1 };"
            + " b(n) = if n == 0 then { check r /x; fail 6 } else priv [r /x] (try self.b(n - 1) catch e : fail (e + 1)); c() = let x = 1 in { let y = x + 1 in out y; self.f }; }";
        int c = -1;
        for (int turn = 0; turn < 2; turn++) {
            WardenHouse first = Trial.house(text);
            Trial.due("run", Trial.run(first, 0, 0, 100, turn == 1), 0);
            int steps = first.result(1);
            String due = Trial.results(first) + Trial.events(first) + Trial.thread(first, 0) + Trial.thread(first, 1) + Trial.contexts(first);
            c = Trial.unitAt(first, text, "c()");
            Trial.run(first, c, 0, 100, turn == 1);
            String dueOfC = Trial.results(first) + Trial.events(first) + Trial.thread(first, 0) + Trial.thread(first, 1) + Trial.contexts(first);
            for (int n = 1; n < steps; n++) {
                WardenHouse house = Trial.house(text);
                Trial.due("cut at " + n, Trial.run(house, 0, 0, n, turn == 1), 2);
                Trial.due("STEPS", house.result(1), n);
                Trial.run(house, c, 0, 100, turn == 1);
                Trial.due("c behind a CUT at " + n, Trial.results(house) + Trial.events(house) + Trial.thread(house, 0) + Trial.thread(house, 1) + Trial.contexts(house), dueOfC);
                Trial.run(house, 0, 0, n, turn == 0);
                Trial.run(house, 0, 0, 100, turn == 1);
                Trial.due("all behind a CUT at " + n, Trial.results(house) + Trial.events(house) + Trial.thread(house, 0) + Trial.thread(house, 1) + Trial.contexts(house), due);
            }
        }
    }
}

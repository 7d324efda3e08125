/** Promises 4 to 18 on an object that has had other programs, asks and runs: as on a new one. */
public final class ReuseTest {
    private static final String[] TEXTS = {
        "grant /a { r /x; w /-; } grant /b { r /-; } grant /- { w /y; } module m /a { field f; field g; field h;"
            + " a() = { self.f := 1; self.g := ctx; under self.g : self.b(2, 3) }; b(x, y) = priv [r /x, w /y] check r /x;"
            + " c() = let x = 5 in { spawn fun() { x + self.d() }; spawn fun() { wait 1 }; wait 1 }; d() = out 3; }"
            + " module n /b : m { field k; b(x, y) = check w /y [x]; e() = self.a() + new m.a(); }",
        "grant /a { r /x; } module m /a { field f; a() = { self.f := 7; self.g }; b(x) = check r /x;"
            + " c() = let x = 6 in { spawn fun() { x + self.d() }; wait 1 }; d() = 4; }",
        "module m /a { a() = priv [w /x] able w /x; c() = 2; b(x, y) = 1; e() = self.b(1, 2); }",
        "grant /b { w /x; } module k /c { a(x) = 1; } module m /b { field g; a() = { self.f; 1 }; d() = self.b(9, 9); b(x, y) = x * y; }",
        "module m /a { b(x) = priv fun() { check r /x }; }",
        "module m /a { ? }"
    };

    public static void main(String[] args) {
        String[] fresh = new String[TEXTS.length];
        for (int i = 0; i < TEXTS.length; i++) {
            fresh[i] = told(new WardenHouse(), TEXTS[i]);
        }
        for (int i = 0; i < TEXTS.length; i++) {
            WardenHouse house = new WardenHouse();
            for (int j = 0; j < TEXTS.length; j++) {
                told(house, TEXTS[i]);
                Trial.due("program " + j + " behind " + i, told(house, TEXTS[j]), fresh[j]);
            }
        }
        cutShort();
        Trial.end();
    }

    // What a run that was cut has left on its stacks is not there for the next.
    private static void cutShort() {
        for (int steps = 1; steps < 6; steps++) {
            WardenHouse house = Trial.house(TEXTS[0]);
            house.run(4, 0, steps, false);
            Trial.feed(house, TEXTS[1]);
            Trial.due("program", house.program(), 5);
            Trial.due("run", house.run(2, 0, 100, true), 0);
            Trial.due("value behind a cut at " + steps, house.thread(0, 1), 10);
        }
    }

    /** All that a house tells of a text. */
    private static String told(WardenHouse house, String text) {
        StringBuilder all = new StringBuilder();
        Trial.feed(house, text);
        try {
            all.append(house.program());
        } catch (IllegalArgumentException e) {
            all.append("fault ");
        }
        all.append(house.fault(0)).append(' ').append(house.fault(1)).append('\n');
        for (int what = 0; what < 10; what++) {
            all.append(house.count(what)).append(' ');
        }
        for (int what = 0; what < 9; what++) {
            all.append(Trial.units(house, what)).append('\n');
        }
        for (int u = 0; u < house.count(0); u++) {
            all.append(Trial.code(house, u, false)).append('\n').append(Trial.code(house, u, true)).append('\n');
        }
        for (int k = 0; k < 10; k++) {
            all.append(house.number(k)).append(' ').append(house.domain(k)).append(' ');
        }
        for (String asked : new String[] {"r /x", "w /y", "w /y/2", "w /x"}) {
            Trial.asks(house, asked);
            for (int k = 0; k < 4; k++) {
                all.append(house.has(k, false)).append(' ').append(house.has(k, true)).append(' ');
            }
            all.append(Trial.mays(house)).append('\n');
        }
        runs(house, all);
        return all.toString();
    }

    private static void runs(WardenHouse house, StringBuilder all) {
        for (int u = 0; u < house.count(0); u++) {
            for (int turn = 0; turn < 6 && house.unit(u, 0) == 0 && house.unit(u, 3) == 0; turn++) {
                house.run(u, turn - 2, turn < 2 ? 4 : 100, turn % 2 == 1);
                all.append(Trial.results(house)).append('\n').append(Trial.events(house)).append('\n');
                for (int t = 0; t < 4; t++) {
                    all.append(Trial.thread(house, t)).append('\n');
                }
                all.append(Trial.contexts(house)).append('\n');
            }
        }
    }
}

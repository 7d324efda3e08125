/** Promises 6, 7, 9, 10: count, unit, number, domain. */
public final class PlanTest {
    private static final String HOUSE =
        "grant /a/- { r /x; w /-; }\n"
        + "grant /a/b { r /*; }\n"
        + "grant /c { }\n"
        + "module m /a/b { field f; main() = { self.f := 7; self.g(7, 12) + self.f };"
        + " g(x, y) = priv [r /x, w /y] check r /x; }\n"
        + "module n /a/c : m { h() = able r /x [7] + new m.main(); }\n"
        + "module o /a/d { k() = fun() { 12 }; }\n"
        + "module p /c { z() = 2147483647; }\n"
        + "module q /e { }";

    public static void main(String[] args) {
        counts();
        numbers();
        domains();
        units();
        captured();
        needs();
        Trial.end();
    }

    private static void counts() {
        WardenHouse house = Trial.house(HOUSE);
        int[] due = {7, 5, 3, 4, 1, 2, 4, 3, 3, 0};
        for (int what = 0; what < due.length; what++) {
            Trial.due("count(" + what + ")", house.count(what), due[what]);
        }
        Trial.due("count(10)", house.count(10), -1);
        Trial.due("count(-1)", house.count(-1), -1);
        house.feed(0, 0, 0, 0, 0);
        Trial.due("count(9)", house.count(9), 20);
        Trial.due("count(0)", house.count(0), 7);
        try {
            house.program();
            Trial.due("program of zero bytes throws", 0, 1);
        } catch (IllegalArgumentException e) {
            for (int what = 0; what < 10; what++) {
                Trial.due("without a program: count(" + what + ")", house.count(what), 0);
            }
            Trial.due("without a program: count(10)", house.count(10), -1);
            Trial.due("without a program: number(0)", house.number(0), 0);
            Trial.due("without a program: domain(0)", house.domain(0), -1);
        }
    }

    private static void numbers() {
        WardenHouse house = Trial.house(HOUSE);
        Trial.due("number(0)", house.number(0), 7);
        Trial.due("number(1)", house.number(1), 12);
        Trial.due("number(2)", house.number(2), 2147483647);
        Trial.due("number(3)", house.number(3), 0);
        Trial.due("number(-1)", house.number(-1), 0);
        Trial.due("number of the greatest", house.number(Integer.MAX_VALUE), 0);
        // 007 is 7, and digits of STEPS are no NUMBERs.
        house = Trial.house("module m /1/2 { a() = 7 + 007 + 0 + check r /3 [4]; }");
        Trial.due("count(7)", house.count(7), 3);
        Trial.due("number(1)", house.number(1), 0);
        Trial.due("number(2)", house.number(2), 4);
    }

    private static void domains() {
        WardenHouse house = Trial.house(HOUSE);
        int[] due = {0, 1, 1, 2, 3, -1};
        for (int m = 0; m < due.length; m++) {
            Trial.due("domain(" + m + ")", house.domain(m), due[m]);
        }
        Trial.due("domain(-1)", house.domain(-1), -1);
        // Which modules a pattern covers shows in who shares a domain with the uncovered one.
        covered("/a", "1 0 0 0");
        covered("/a/*", "0 1 0 0");
        covered("/a/-", "0 1 1 0");
        covered("/*", "1 0 0 1");
        covered("/-", "1 1 1 1");
        covered("/a/b/c", "0 0 1 0");
        covered("/b/-", "0 0 0 0");
    }

    private static void covered(String pattern, String due) {
        WardenHouse house = Trial.house("grant " + pattern + " { r /x; } grant /none { }"
            + " module z /z/z/z/z { } module m /a { } module n /a/b { } module o /a/b/c { } module p /ab { }");
        Trial.asks(house, "r /x");
        String got = "";
        for (int m = 1; m < 5; m++) {
            got += (m > 1 ? " " : "") + house.has(house.domain(m), false);
        }
        Trial.due("covered by " + pattern, got, due);
    }

    private static void units() {
        WardenHouse house = Trial.house(HOUSE);
        Trial.due("sorts", Trial.units(house, 0), "0 0 3 0 0 1 0");
        Trial.due("modules", Trial.units(house, 1), "0 0 0 1 2 2 3");
        String places = HOUSE.indexOf("main") + " " + HOUSE.indexOf("g(x") + " " + HOUSE.indexOf("priv") + " " + HOUSE.indexOf("h()")
            + " " + HOUSE.indexOf("k()") + " " + HOUSE.indexOf("fun") + " " + HOUSE.indexOf("z()");
        Trial.due("places", Trial.units(house, 2), places);
        Trial.due("parameters", Trial.units(house, 3), "0 2 0 0 0 0 0");
        Trial.due("captured", Trial.units(house, 4), "0 0 0 0 0 0 0");
        Trial.due("locals", Trial.units(house, 5), "1 3 0 1 1 0 1");
        Trial.due("needs", Trial.units(house, 6), "1 1 1 1 0 0 0");
        Trial.due("unit(7, 0)", house.unit(7, 0), -1);
        Trial.due("unit(-1, 0)", house.unit(-1, 0), -1);
        Trial.due("unit(0, 9)", house.unit(0, 9), -1);
        Trial.due("unit(0, -1)", house.unit(0, -1), -1);
    }

    private static void captured() {
        WardenHouse house = Trial.house("module m /a {"
            + " a(p) = let x = 1 in fun(y) { priv (p + self.b(y)) + x };"
            + " b(v) = try v catch e : let w = e in w;"
            + " c(p, q) = under p : { q; let q = self in fun() { q } };"
            + " d() = let x = let y = 1 in y in priv under ctx : x; }");
        Trial.due("sorts", Trial.units(house, 0), "0 1 2 0 0 4 1 0 2 4");
        Trial.due("captured", Trial.units(house, 4), "0 3 3 0 0 2 1 0 1 1");
        Trial.due("locals", Trial.units(house, 5), "3 4 3 4 3 3 1 3 1 1");
        // Each is captured once, and up to twelve variables and self can be.
        house = Trial.house("module m /a { a(x) = fun() { x + x + self.b(self, x) }; c() = "
            + Trial.numbered("let v% = 1 in ", "", 12) + "priv { " + Trial.numbered("v%", "; ", 12) + "; self; v3 }; }");
        Trial.due("captured", Trial.units(house, 4), "0 2 0 13");
        Trial.due("locals", Trial.units(house, 5), "2 2 13 13");
        Trial.due("code", Trial.code(house, 3, false).endsWith("16 2 0 11 16 2 0 12 16 2 0 3 28"), true);
        // An under is numbered ahead of what stands in its first PREFIX.
        house = Trial.house("module m /a { a() = under priv ctx : fun(x) { x }; }");
        Trial.due("sorts", Trial.units(house, 0), "0 4 2 1");
    }

    private static void needs() {
        // Not for a UNIT within, nor for priv or under around one that NEEDS.
        needed("a() = priv check r /x; b() = under self : able r /x; c() = fun(x) { ctx };", "0 1 0 1 0 1");
        needed("a() = priv [r /x] check r /x; b() = priv [r /x] 1; c() = priv priv [r /x] ctx;", "1 1 0 0 0 1 1");
        // A group goes by its NAME and number of parameters, wherever its METHODs are.
        needed("a() = ctx; b() = self.a(); c() = self.a(1); d() = self.b(); e() = self.d;", "1 1 0 1 0");
        needed("a(x) = self.b(x); b(x) = self.a(x); c() = self.a(1);", "0 0 0");
        needed("a(x) = self.b(x); b(x) = { self.a(x); ctx }; c() = self.a(1);", "1 1 1");
        needed("a() = fun(x) { ctx }; b() = fun(x) { 1 }; c() = self(1); d() = self(); e() = fun() { 1 };", "0 1 0 1 1 0 0 0");
        needed("a() = spawn 1; b() = spawn fun(x) { ctx }; c() = fun() { 1 };", "0 0 1 0 0");
        needed("a() = spawn 1; b() = 1(); c() = fun() { self.d() }; d() = able r /x;", "1 1 0 1 1");
        WardenHouse house = Trial.house("module m /a { a() = 1; b() = self.a(); } module n /b : m { a() = check r /x; }");
        Trial.due("needs by an overriding METHOD", Trial.units(house, 6), "1 1 1");
        Trial.due("count(6)", house.count(6), 3);
    }

    private static void needed(String methods, String due) {
        Trial.due("needs: " + methods, Trial.units(Trial.house("module m /a { " + methods + " }"), 6), due);
    }
}

/** Promises 11, 12, 13: asks, has, may. */
public final class AskTest {
    public static void main(String[] args) {
        asking();
        has();
        mayAlone();
        mayOfGroups();
        mayOfContexts();
        without();
        Trial.end();
    }

    private static void asking() {
        WardenHouse house = new WardenHouse();
        for (String text : new String[] {"r /a", "r/a", " r\n/a ", "abcdefgh /a/b/c/d/e", "r /abcdef # c", "# c\nr # c\n/1", "r1 /a"}) {
            Trial.due("asks: " + text, Trial.asks(house, text), true);
            Trial.due("tape behind it", house.count(9), 0);
        }
        for (String text : new String[] {"", "r", "/a", "r /a/*", "r /-", "r /a/", "r /a/b/c/d/e/f", "r /abcdefg", "grant /a",
            "abcdefghi /a", "1 /a", "r /a x", "r /a;", "r r /a", "/a r", "r /a ?", "R /a"}) {
            Trial.due("asks: " + text, Trial.asks(house, text), false);
            Trial.due("tape behind it", house.count(9), 0);
        }
    }

    private static void has() {
        WardenHouse house = new WardenHouse();
        Trial.asks(house, "r /x/1");
        Trial.due("has without a program", house.has(0, false), -1);
        Trial.feed(house, "grant /a { r /x/*; w /-; } grant /b { r /x/1; } grant /c { r /x; r /x/1/-; }"
            + " module m /a { a() = priv [r /x/-, w /y] priv [w /x/1] 1; } module n /b { } module o /c { } module p /d { }");
        Trial.due("program", house.program(), 3);
        hasAll(house, "r /x/1", "1 1 0 0", "1 0");
        hasAll(house, "r /x/a", "1 0 0 0", "1 0");
        hasAll(house, "r /ax", "0 0 0 0", "0 0");
        hasAll(house, "r /x/2", "1 0 0 0", "1 0");
        hasAll(house, "r /x", "0 0 1 0", "0 0");
        hasAll(house, "r /x/1/2", "0 0 1 0", "1 0");
        hasAll(house, "r /x/1/2/3/4", "0 0 1 0", "1 0");
        hasAll(house, "w /x/1", "1 0 0 0", "0 1");
        hasAll(house, "w /y", "1 0 0 0", "1 0");
        hasAll(house, "x /x/1", "0 0 0 0", "0 0");
        // What was asked stays when the next is refused.
        Trial.due("asks", Trial.asks(house, "w /x/-"), false);
        Trial.due("has", house.has(0, false), 0);
        Trial.due("asks", Trial.asks(house, "r /x"), true);
        Trial.due("asks", Trial.asks(house, "r /x x"), false);
        Trial.due("has", house.has(2, false), 1);
        Trial.due("has(4, false)", house.has(4, false), -1);
        Trial.due("has(2, true)", house.has(2, true), -1);
        Trial.due("has(-1, false)", house.has(-1, false), -1);
        Trial.due("has(-1, true)", house.has(-1, true), -1);
        // It stays over programs too.
        Trial.feed(house, "grant /- { r /x; } module m /a { a() = 1; }");
        Trial.due("program", house.program(), 1);
        Trial.due("has", house.has(0, false), 1);
        Trial.due("may", house.may(0), 1);
        Trial.due("has(0, true)", house.has(0, true), -1);
    }

    private static void hasAll(WardenHouse house, String asked, String domains, String limits) {
        Trial.due("asks", Trial.asks(house, asked), true);
        String got = "";
        for (int d = 0; d < 4; d++) {
            got += (d > 0 ? " " : "") + house.has(d, false);
        }
        Trial.due("has of domains: " + asked, got, domains);
        Trial.due("has of limits: " + asked, house.has(0, true) + " " + house.has(1, true), limits);
    }

    // /a has r /x, /b has it not.
    private static void may(String own, String other, String asked, String due) {
        WardenHouse house = Trial.house("grant /a { r /x; } module m /a { " + own + " } module n /b { " + other + " }");
        Trial.due("asks", Trial.asks(house, asked), true);
        Trial.due("may of " + own + " / " + other, Trial.mays(house), due);
    }

    private static void mayAlone() {
        may("a() = 1; b(x) = 1;", "c() = 1; d(x) = 1;", "r /x", "1 0 2 0");
        may("a() = 1; b(x) = 1;", "c() = 1; d(x) = 1;", "r /y", "2 0 2 0");
        may("a() = priv 1;", "c() = priv 1;", "r /x", "1 1 2 2");
        may("a() = fun() { 1 };", "", "r /x", "1 0");
        may("a() = priv [r /x] 1;", "c() = priv [r /x] 1;", "r /x", "1 1 2 2");
        may("a(x) = { priv 1; priv [w /x] 1; priv [r /x] 1 };", "c() = 1.a(1);", "r /x", "2 1 2 1 2");
    }

    private static void mayOfGroups() {
        may("a(x) = 1; a(x, y) = 1;", "c() = self.a(1); a(x) = 1;", "r /x", "2 0 2 2");
        may("a(x) = 1; b() = self.a(1);", "c() = self.a(1); a(x) = 1;", "r /x", "3 1 2 2");
        may("a() = fun(x) { self.b(x) }; b(y) = 1; c() = 1(1);", "d() = fun(x) { 1 };", "r /x", "1 1 1 1 2 2");
        may("a() = fun() { 1 }; b() = 1(1);", "d() = spawn fun() { 1 };", "r /x", "1 2 1 2 2");
        may("a() = fun() { 1 }; b() = spawn 1;", "d() = fun(x) { 1 };", "r /x", "1 1 1 2 0");
        // What is called from a UNIT that no run comes to is not come to either.
        may("a(x) = self.b(x); b(x) = priv 1; c() = 1;", "", "r /x", "0 0 0 1");
    }

    private static void mayOfContexts() {
        may("a() = under 1 : 2;", "", "r /x", "1 0");
        may("a() = under ctx : 2;", "", "r /x", "1 1");
        may("a() = under 1 : 2;", "c() = ctx; d() = under 1 : 2;", "r /x", "1 2 2 2 2");
        may("a() = under 1 : 2; b() = ctx;", "c() = ctx; d() = under 1 : 2;", "r /x", "1 3 1 2 2 2");
        may("a() = under 1 : 2; b(x) = ctx;", "", "r /x", "1 0 0");
        may("a() = under 1 : self.b(1); b(x) = { ctx; priv [w /x] 1 };", "c() = ctx;", "r /x", "1 2 2 2 2");
    }

    private static void without() {
        WardenHouse house = Trial.house("module m /a { a() = 1; }");
        Trial.due("may ahead of asks", house.may(0), -1);
        Trial.due("has ahead of asks", house.has(0, false), -1);
        Trial.due("asks", Trial.asks(house, "r"), false);
        Trial.due("may ahead of asks", house.may(0), -1);
        Trial.due("asks", Trial.asks(house, "r /a"), true);
        Trial.due("may(0)", house.may(0), 2);
        Trial.due("may(1)", house.may(1), -1);
        Trial.due("may(-1)", house.may(-1), -1);
        // Another ASKED, and another program, are worked out anew.
        house = Trial.house("grant /a { r /x; } module m /a { a() = 1; }");
        Trial.asks(house, "r /x");
        Trial.due("may", house.may(0), 1);
        Trial.asks(house, "r /y");
        Trial.due("may", house.may(0), 2);
        Trial.feed(house, "grant /a { r /y; } module m /a { a() = 1; }");
        Trial.due("program", house.program(), 1);
        Trial.due("may", house.may(0), 1);
        Trial.feed(house, "module");
        try {
            house.program();
            Trial.due("program throws", 0, 1);
        } catch (IllegalArgumentException e) {
            Trial.due("may without a program", house.may(0), -1);
            Trial.due("has without a program", house.has(0, false), -1);
        }
    }
}

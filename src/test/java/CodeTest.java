/** Promise 8: code, plain and rewritten. */
public final class CodeTest {
    public static void main(String[] args) {
        atoms();
        operations();
        jumps();
        captured();
        rewritten();
        places();
        without();
        Trial.end();
    }

    /** The code of the first METHOD a(p, q), without its BACK. */
    private static void body(String e, String due) {
        WardenHouse house = Trial.house("module l /l { } module m /a { a(p, q) = " + e + "; }");
        Trial.due("code of " + e, Trial.code(house, 0, false), due + (due.isEmpty() ? "28" : " 28"));
    }

    private static void atoms() {
        body("5", "0 0 0");
        body("5 + 6 + 5", "0 0 0 0 0 1 11 0 0 0 11");
        body("none", "1");
        body("self", "2 0 0");
        body("p", "2 0 1");
        body("q", "2 0 2");
        body("ctx", "27");
        body("new l", "4 0 0");
        body("new m", "4 0 1");
        body("((p))", "2 0 1");
        body("{ p; q; 1 }", "2 0 1 16 2 0 2 16 0 0 0");
        body("check r /x", "25 0 0");
        body("able r /x + check r /y", "26 0 0 25 0 1 11");
        body("check r /x [p + 1]", "2 0 1 0 0 0 11 25 0 0");
        // The one within comes behind in the text, so it has the higher number.
        body("check r /x [able r /y]", "26 0 1 25 0 0");
    }

    private static void operations() {
        body("p + q - p * q", "2 0 1 2 0 2 11 2 0 1 2 0 2 13 12");
        body("p - q - 1", "2 0 1 2 0 2 12 0 0 0 12");
        body("p < q + 1", "2 0 1 2 0 2 0 0 0 11 14");
        body("p == q", "2 0 1 2 0 2 15");
        body("out p + q", "2 0 1 21 2 0 2 11");
        body("fail out p", "2 0 1 21 22");
        body("wait spawn p", "2 0 1 23 24");
        body("p.f", "2 0 1 5 0 0");
        body("p.f.g.f", "2 0 1 5 0 0 5 0 1 5 0 0");
        body("p.f := q", "2 0 1 2 0 2 6 0 0");
        body("p.f := q.g := 1", "2 0 1 2 0 2 0 0 0 6 0 1 6 0 0");
        body("p.f(q, 1)", "2 0 1 2 0 2 0 0 0 7 0 0 0 2");
        body("p.f()", "2 0 1 7 0 0 0 0");
        body("p(q, q, q)", "2 0 1 2 0 2 2 0 2 2 0 2 8 0 3");
        body("(p.f)(q)", "2 0 1 5 0 0 2 0 2 8 0 1");
        body("p()()", "2 0 1 8 0 0 8 0 0");
    }

    private static void jumps() {
        body("if p then 1 else q", "2 0 1 18 0 12 0 0 0 17 0 15 2 0 2");
        body("let x = p in x", "2 0 1 3 0 3 2 0 3");
        body("try p catch e : e", "19 0 10 2 0 1 20 17 0 16 3 0 3 2 0 3");
        // A let has its LOCAL as its word comes, so ahead of those in its first E.
        body("let x = let y = 1 in y in x", "0 0 0 3 0 4 2 0 4 3 0 3 2 0 3");
        body("try let y = 1 in y catch e : e", "19 0 16 0 0 0 3 0 3 2 0 3 20 17 0 22 3 0 4 2 0 4");
        body("if if p then 1 else 0 then 1 else 0", "2 0 1 18 0 12 0 0 0 17 0 15 0 0 1 18 0 24 0 0 0 17 0 27 0 0 1");
        // 100 NUMBERs and 99 DROPs stand ahead: places of two bytes.
        WardenHouse house = Trial.house("module m /a { a() = if { " + Trial.numbered("1", "; ", 100) + " } then 2 else 3; }");
        Trial.due("high byte of a place", house.code(0, false, 400), 1);
        Trial.due("low byte of a place", house.code(0, false, 401), 408 - 256);
    }

    private static void captured() {
        WardenHouse house = Trial.house("module m /a {"
            + " a(p) = let x = 1 in fun(y) { priv (p + self.b(y)) + x };"
            + " b(v) = try v catch e : let w = e in w;"
            + " c(p, q) = under p : { q; let q = self in fun() { q } }; }");
        Trial.due("a", Trial.code(house, 0, false), "0 0 0 3 0 2 2 0 1 2 0 0 2 0 2 9 0 1 28");
        Trial.due("fun in a", Trial.code(house, 1, false), "2 0 0 2 0 1 2 0 3 10 0 2 2 0 2 11 28");
        Trial.due("priv in a", Trial.code(house, 2, false), "2 0 0 2 0 1 2 0 2 7 0 0 0 1 11 28");
        Trial.due("b", Trial.code(house, 3, false), "19 0 10 2 0 1 20 17 0 22 3 0 2 2 0 2 3 0 3 2 0 3 28");
        Trial.due("c", Trial.code(house, 4, false), "2 0 1 2 0 2 2 0 0 10 0 5 28");
        Trial.due("under in c", Trial.code(house, 5, false), "2 0 0 16 2 0 1 3 0 2 2 0 2 9 0 6 28");
        Trial.due("fun in c", Trial.code(house, 6, false), "2 0 0 28");
        for (int u = 0; u < 7; u++) {
            Trial.due("rewritten without need", Trial.code(house, u, true), Trial.code(house, u, false));
        }
    }

    private static void rewritten() {
        WardenHouse house = Trial.house("module k /k { } module m /a {"
            + " a() = { ctx; self.b(1); priv [r /x] self.b(2); priv check r /x; under ctx : able r /y [3];"
            + " spawn fun() { check r /x }; fun() { 1 }() }; b(v) = check r /x; c() = 5; }");
        String[] due = {
            "30 0 0 2 0 1 16 2 0 0 0 0 0 2 0 1 71 0 0 0 1 16 2 0 0 2 0 1 74 0 1 16 10 0 2 16 2 0 1 10 0 3 16"
                + " 9 0 4 2 0 1 87 16 9 0 5 2 0 1 72 0 0 28",
            "32 0 0 0 0 2 0 0 0 0 1 2 0 1 71 0 0 0 1 28",
            "31 0 0 2 0 0 89 0 0 28",
            "33 0 0 0 0 2 2 0 0 90 0 1 28",
            "30 0 0 2 0 0 89 0 2 28",
            "30 0 0 0 0 0 28",
            "30 0 0 2 0 2 89 0 3 28",
            "0 0 3 28"
        };
        for (int u = 0; u < due.length; u++) {
            Trial.due("rewritten " + u, Trial.code(house, u, true), due[u]);
        }
        Trial.due("plain a", Trial.code(house, 0, false),
            "27 16 2 0 0 0 0 0 7 0 0 0 1 16 2 0 0 10 0 1 16 10 0 2 16 27 10 0 3 16 9 0 4 23 16 9 0 5 8 0 0 28");
        Trial.due("plain priv [ ]", Trial.code(house, 1, false), "2 0 0 0 0 1 7 0 0 0 1 28");
        Trial.due("plain c", Trial.code(house, 7, false), "0 0 3 28");
        // DOMAIN and LIMIT stand in what a UNIT begins with.
        house = Trial.house("grant /b { } module m /a { a() = priv [r /x] 1; }"
            + " module n /b { b() = priv [r /x] ctx; c() = priv ctx; d() = under 1 : ctx; }");
        Trial.due("LIMITED", Trial.code(house, 3, true), "32 0 1 0 1 2 0 0 28");
        Trial.due("OWN", Trial.code(house, 5, true), "31 0 1 2 0 0 28");
        Trial.due("BOTH", Trial.code(house, 7, true), "33 0 1 2 0 0 28");
        Trial.due("MEET", Trial.code(house, 2, true), "30 0 1 2 0 1 74 0 3 28");
    }

    private static void places() {
        WardenHouse house = Trial.house("module m /a { d() = if check r /x then 1 else 2; e() = try self.d() catch x : x; }");
        Trial.due("plain if", Trial.code(house, 0, false), "25 0 0 18 0 12 0 0 0 17 0 15 0 0 1 28");
        Trial.due("rewritten if", Trial.code(house, 0, true), "30 0 0 2 0 1 89 0 0 18 0 18 0 0 0 17 0 21 0 0 1 28");
        Trial.due("plain try", Trial.code(house, 1, false), "19 0 15 2 0 0 7 0 0 0 0 20 17 0 21 3 0 1 2 0 1 28");
        Trial.due("rewritten try", Trial.code(house, 1, true),
            "30 0 0 19 0 21 2 0 0 2 0 2 71 0 0 0 0 20 17 0 27 3 0 1 2 0 1 28");
    }

    private static void without() {
        WardenHouse house = Trial.house("module m /a { a() = 1; }");
        Trial.due("code(0, false, 4)", house.code(0, false, 4), -1);
        Trial.due("code(0, false, 3)", house.code(0, false, 3), 28);
        Trial.due("code(0, false, -1)", house.code(0, false, -1), -1);
        Trial.due("code(0, true, 4)", house.code(0, true, 4), -1);
        Trial.due("code(1, false, 0)", house.code(1, false, 0), -1);
        Trial.due("code(-1, true, 0)", house.code(-1, true, 0), -1);
        Trial.due("code of the greatest", house.code(0, true, Integer.MAX_VALUE), -1);
    }
}

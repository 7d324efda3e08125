/** Promises 4 and 5: program and fault, over the words and the grammar of section 1. */
public final class FaultTest {
    public static void main(String[] args) {
        answers();
        words();
        patterns();
        grammar();
        expressions();
        names();
        tails();
        limits();
        depth();
        parts();
        precedence();
        Trial.end();
    }

    private static int program(WardenHouse house, String text) {
        Trial.feed(house, text);
        try {
            return house.program();
        } catch (IllegalArgumentException e) {
            return -1;
        }
    }

    private static void answers() {
        WardenHouse house = new WardenHouse();
        Trial.due("program of nothing", program(house, ""), -1);
        Trial.due("fault(0)", house.fault(0), 1);
        Trial.due("fault(1)", house.fault(1), 0);
        Trial.due("program", program(house, "module m /a { a() = priv fun() { 1 }; }"), 3);
        Trial.due("tape behind it", house.count(9), 0);
        Trial.due("fault(0)", house.fault(0), 0);
        Trial.due("fault(1)", house.fault(1), -1);
        Trial.due("fault(2)", house.fault(2), -1);
        Trial.due("fault(-1)", house.fault(-1), -1);
        Trial.due("run", house.run(0, 0, 10, true), 0);
        Trial.due("program with a fault", program(house, "module m /a { a() = priv fun() { 1 }; } ?"), -1);
        Trial.due("tape behind it", house.count(9), 0);
        Trial.due("fault(0)", house.fault(0), 1);
        Trial.due("fault(1)", house.fault(1), 40);
        Trial.due("no program: count(0)", house.count(0), 0);
        Trial.due("no program: unit", house.unit(0, 0), -1);
        Trial.due("no run: result", house.result(0), -1);
        Trial.due("no run: event", house.event(0, 0), -1);
        Trial.due("no run: thread", house.thread(0, 0), -1);
        Trial.due("no run: context", house.context(0, -1), -1);
        Trial.due("program", program(house, "module m /a { a() = 1; b() = 2; }"), 2);
        Trial.due("run", house.run(1, 0, 10, false), 0);
        Trial.due("program", program(house, "module m /a { }"), 0);
        Trial.due("no run behind program()", house.result(0), -1);
    }

    private static String body(String e) {
        return "module m /a { field f; a(p, q) = " + e + "; }";
    }

    private static void words() {
        Trial.noFault("module abcdefgh /a { }");
        Trial.fault(1, "module ^abcdefghi /a { }");
        Trial.fault(1, "module ^Abc /a { }");
        Trial.fault(1, "module ^1a /a { }");
        Trial.fault(1, "module ^let /a { }");
        Trial.noFault("module letx /a { }");
        Trial.noFault(body("2147483647"));
        Trial.noFault(body("0000000000000000000000000000012"));
        Trial.fault(1, body("^2147483648"));
        Trial.fault(1, body("^99999999999999999999999999999999"));
        Trial.fault(1, body("12^ab"));
        Trial.noFault("# all of this\n module #x\n m/a#\n{#}\n}#");
        Trial.noFault("\n\nmodule m /a\n{\n}\n\n");
        Trial.fault(1, "module^\tm /a { }");
        Trial.fault(1, "module m /a { } ^\r");
        Trial.fault(1, body("p ^> q"));
        Trial.fault(1, body("p ^!= q"));
        Trial.fault(1, body("p ^= q"));
        Trial.fault(1, body("p ==^= q"));
        Trial.noFault(body("p==q"));
        Trial.noFault(body("self.f:=p"));
        Trial.fault(1, body("self.f ^: = p"));
        Trial.fault(1, "module m /a { } # no end\n ^\u00ff");
        for (char c : new char[] {0, 1, 2, 3, 4, 9, 13, 31, '!', '"', '&', '>', '_', '|', 127, 128, 200, 201, 210, 211, 255}) {
            Trial.fault(1, "module ^" + c + " /a { }");
            Trial.fault(1, "^" + c + " /a { }");
            Trial.fault(1, "module m ^" + c + " { }");
            Trial.fault(1, body("^" + c));
            Trial.fault(1, body("self.f ^" + c + " 1"));
            Trial.fault(1, "module m /a { } ^" + c);
        }
    }

    private static void patterns() {
        Trial.noFault("grant /a/b/c/d { } grant /a/b/c/d/* { } grant /a/b/c/d/- { } grant /* { } grant /- { } module m /1/2x/abcdef { }");
        Trial.fault(1, "grant ^/a/b/c/d/e { } module m /a { }");
        Trial.fault(1, "grant ^/a/b/c/d/e/* { } module m /a { }");
        Trial.fault(1, "grant ^/abcdefg { } module m /a { }");
        Trial.fault(1, "grant ^/a/abcdefg/b { } module m /a { }");
        Trial.fault(1, "grant ^/ { } module m /a { }");
        Trial.fault(1, "grant /a^/ { } module m /a { }");
        Trial.fault(1, "grant /a^/A { } module m /a { }");
        Trial.fault(1, "grant /a/*^/b { } module m /a { }");
        Trial.fault(1, "grant /a/-^b { } module m /a { }");
        Trial.fault(1, "grant ^a { } module m /a { }");
        Trial.fault(1, body("check r /a^/"));
        Trial.noFault(body("check r /a*2-1"));
    }

    private static void grammar() {
        Trial.fault(1, "^");
        Trial.fault(1, "   \n^");
        Trial.fault(1, "grant /a { }^");
        Trial.fault(1, "grant /a { r /x ^} module m /a { }");
        Trial.fault(1, "grant /a { r ^; } module m /a { }");
        Trial.fault(1, "grant /a { r /x^, w /x; } module m /a { }");
        Trial.fault(1, "module m /a { } ^grant /a { }");
        Trial.fault(1, "module m /a { } ^m");
        Trial.fault(1, "module m /a { ^");
        Trial.fault(1, "module m ^{ }");
        Trial.fault(1, "module m /a : ^{ }");
        Trial.fault(1, "module m /a { field f^, g; }");
        Trial.fault(1, "module m /a { field ^1; }");
        Trial.fault(1, "module m /a { field ^let; }");
        Trial.fault(1, "module m /a { a() = 1; ^field f; }");
        Trial.fault(1, "module m /a { a() = 1 ^}");
        Trial.fault(1, "module m /a { a(^1) = 1; }");
        Trial.fault(1, "module m /a { a(x,^) = 1; }");
        Trial.fault(1, "module m /a { a(x ^y) = 1; }");
        Trial.fault(1, "module m /a { a() ^== 1; }");
        Trial.fault(1, "module m /a { a() = ^; }");
        Trial.noFault("module m /a { } module n /b : m { }");
    }

    private static void expressions() {
        Trial.noFault(body("let x = let y = 1 in y in if x then 1 else try x catch e : e"));
        Trial.noFault(body("p + q * p - q < p"));
        Trial.fault(1, body("p < q ^< p"));
        Trial.fault(1, body("p == q ^== p"));
        Trial.fault(1, body("1 + ^let x = 1 in x"));
        Trial.fault(1, body("out ^if 1 then 2 else 3"));
        Trial.fault(1, body("let x = 1 ^; x"));
        Trial.fault(1, body("let ^1 = 1 in 1"));
        Trial.fault(1, body("if 1 then 2 ^"));
        Trial.fault(1, body("try 1 catch ^3 : 4"));
        Trial.fault(1, body("^- 1"));
        Trial.fault(1, body("1 + ^"));
        Trial.fault(1, body("priv [^] 1"));
        Trial.fault(1, body("priv [r /x ^1"));
        Trial.fault(1, body("priv [r /x, ^] 1"));
        Trial.noFault(body("priv [r /x, w /-] priv 1"));
        Trial.fault(1, body("under ctx ^1"));
        Trial.noFault(body("under ctx : under priv ctx : 1"));
        Trial.noFault(body("self.f := self.f := out p.f(1, 2, 3)(4).f"));
        Trial.fault(1, body("(self.f) ^:= 1"));
        Trial.fault(1, body("self.a() ^:= 1"));
        Trial.fault(1, body("self.^1"));
        Trial.fault(1, body("self.^let"));
        Trial.fault(1, body("self.f := ^let x = 1 in x"));
        Trial.fault(1, body("p(1, ^)"));
        Trial.fault(1, body("p(1 ^2)"));
        Trial.fault(1, body("new ^1"));
        Trial.fault(1, body("fun(x) ^x"));
        Trial.fault(1, body("fun(x) { ^}"));
        Trial.fault(1, body("{ p; ^}"));
        Trial.fault(1, body("{ ^}"));
        Trial.fault(1, body("(^)"));
        Trial.fault(1, body("check ^/a"));
        Trial.fault(1, body("check r ^p"));
        Trial.fault(1, body("check r /a [^]"));
        Trial.noFault(body("able r /a [let x = 1 in x](p).f"));
    }

    private static void names() {
        Trial.fault(2, "module m /a { } module ^m /b { }");
        Trial.fault(2, "module m /a { field f; field ^f; }");
        Trial.fault(2, "module m /a { field f; } module n /a : m { } module o /a : n { field g; field ^f; }");
        Trial.noFault("module m /a { field f; } module n /a { field f; f() = 1; f(f) = f; }");
        Trial.fault(2, "module m /a { a(x, y, ^x) = 1; }");
        Trial.fault(2, "module m /a { a() = fun(x, ^x) { 1 }; }");
        Trial.noFault("module m /a { a(x) = fun(x) { let x = x in x }; }");
        Trial.fault(2, "module m /a { a(x) = 1; a() = 2; ^a(y) = 3; }");
        Trial.fault(1, "module m /a { a(x) = 1; a(y ^= 3; }");
        Trial.fault(2, "module m /a { a(x) = 1; ^a(y) + 3; }");
        Trial.noFault("module m /a { a(x) = 1; } module n /a : m { a(x) = 1; }");
        Trial.noFault("module a /a { field a; field aa; field a0; field a00; } module aa /a { } module aaa /a { } module a0 /a { }");
        Trial.fault(3, "module m /a { a(x) = ^y; }");
        Trial.fault(3, "module m /a { a(aa) = ^a; }");
        Trial.fault(3, "module m /a { a(x) = 1; b() = ^x; }");
        Trial.fault(3, "module m /a { a() = let x = ^x in x; }");
        Trial.fault(3, "module m /a { a() = (let x = 1 in x) + ^x; }");
        Trial.fault(3, "module m /a { a() = try ^e catch e : e; }");
        Trial.fault(3, "module m /a { a() = { fun(x) { x }; ^x }; }");
        Trial.fault(3, "module m /a : ^m { }");
        Trial.fault(3, "module m /a : ^n { } module n /a { }");
        Trial.fault(3, "module m /a { a() = new ^n; } module n /a { }");
        Trial.noFault("module m /a { a() = new m; } module n /a { a() = new m; }");
        Trial.noFault("module m /a { a() = self.nowhere.b(new m.c); }");
    }

    private static void tails() {
        Trial.fault(5, "module m ^/a/* { }");
        Trial.fault(5, "module m ^/- { }");
        Trial.fault(5, body("check r ^/a/-"));
        Trial.fault(5, body("able r ^/*"));
        Trial.fault(1, body("check r ^/a/b/c/d/e/-"));
    }

    private static void limits() {
        Trial.noFault(Trial.times("grant /a { } ", 8) + "module m /a { }");
        Trial.fault(4, Trial.times("grant /a { } ", 8) + "^grant /a { } module m /a { }");
        Trial.noFault("grant /a { " + Trial.times("r /x; ", 8) + "} module m /a { }");
        Trial.fault(4, "grant /a { " + Trial.times("r /x; ", 8) + "^r /x; } module m /a { }");
        Trial.noFault(Trial.numbered("module m% /a { }", " ", 8));
        Trial.fault(4, Trial.numbered("module m% /a { }", " ", 8) + " module ^m1 /a { }");
        Trial.noFault("module m /a { " + Trial.numbered("field f%; ", "", 4) + "}");
        Trial.fault(4, "module m /a { " + Trial.numbered("field f%; ", "", 4) + "field ^f1; }");
        Trial.noFault("module m /a { " + Trial.numbered("a%() = 1; ", "", 12) + "}");
        Trial.fault(4, "module m /a { " + Trial.numbered("a%() = 1; ", "", 12) + "^b() = 1; }");
        Trial.noFault("module m /a { a(x, y, z) = fun(x, y, z) { 1 }(1, 2, 3).b(1, 2, 3); }");
        Trial.fault(4, "module m /a { a(x, y, z, ^x) = 1; }");
        Trial.fault(4, "module m /a { a() = fun(x, y, z, ^x) { 1 }; }");
        Trial.fault(4, "module m /a { a() = self(1, 2, 3, ^4); }");
        Trial.fault(4, "module m /a { a() = self.a(1, 2, 3, ^nowhere); }");
        Trial.fault(1, "module m /a { a() = self.a(1, 2, 3, ^); }");
        Trial.noFault("module m /a { a() = priv [" + Trial.numbered("r /x", ", ", 8) + "] 1; }");
        Trial.fault(4, "module m /a { a() = priv [" + Trial.numbered("r /x", ", ", 8) + ", ^r /x] 1; }");
        Trial.noFault("module m /a { a() = " + Trial.numbered("priv [r /x] 1", " + ", 12) + "; }");
        Trial.fault(4, "module m /a { a() = " + Trial.numbered("priv [r /x] 1", " + ", 12) + " + priv ^[r /x] 1; }");
        Trial.noFault("module m /a { a() = " + Trial.numbered("check r /x", " + ", 24) + "; }");
        Trial.fault(4, "module m /a { a() = " + Trial.numbered("check r /x", " + ", 24) + " + ^able r /x; }");
        units();
        variables();
    }

    private static void units() {
        String five = "";
        for (int m = 0; m < 4; m++) {
            five += "module m" + m + " /a { " + Trial.numbered("a%() = 1; ", "", 12) + "} ";
        }
        Trial.noFault(five + "module n /a { " + Trial.numbered("a%() = 1; ", "", 12) + "}");
        Trial.fault(4, five + "module n /a { " + Trial.numbered("a%() = 1; ", "", 12) + "} module o /a { ^a() = 1; }");
        Trial.noFault("module m /a { a() = { " + Trial.numbered("priv 1", "; ", 59) + " }; }");
        Trial.fault(4, "module m /a { a() = { " + Trial.numbered("priv 1", "; ", 59) + "; ^priv 1 }; }");
        Trial.fault(4, "module m /a { a() = { " + Trial.numbered("fun() { 1 }", "; ", 59) + "; ^fun() { 1 } }; }");
        Trial.fault(4, "module m /a { a() = { " + Trial.numbered("under ctx : 1", "; ", 59) + "; ^under 1 : 1 }; }");
    }

    private static void variables() {
        String twelve = Trial.numbered("let v% = 1 in ", "", 12);
        Trial.noFault("module m /a { a() = " + twelve + "v0; }");
        Trial.fault(4, "module m /a { a() = " + twelve + "let ^v0 = 1 in 1; }");
        Trial.fault(4, "module m /a { a() = " + twelve + "try 1 catch ^e : 1; }");
        Trial.fault(4, "module m /a { a() = " + twelve + "fun(^x) { 1 }; }");
        Trial.noFault("module m /a { a(x, y, z) = " + Trial.numbered("let v% = 1 in ", "", 9) + "v0; }");
        Trial.fault(4, "module m /a { a(x, y, z) = " + Trial.numbered("let v% = 1 in ", "", 9) + "let ^w = 1 in w; }");
        Trial.noFault("module m /a { a() = " + Trial.numbered("let v% = 1 in ", "", 11) + "(let x = 1 in x) + (let y = 1 in y); }");
        // The variable of a let is not around its own first E.
        Trial.noFault("module m /a { a() = " + Trial.numbered("let v% = ", "", 13) + "1" + Trial.times(" in 1", 13) + "; }");
    }

    private static void depth() {
        deepest("(", "1", ")");
        deepest("out ", "1", "");
        deepest("spawn ", "1", "");
        deepest("priv ", "1", "");
        deepest("under ", "1", " : ctx");
        deepest("self.f := ", "1", "");
        deepest("self(", "1", ")");
        deepest("self.a(", "1", ")");
        deepest("{ ", "1", " }");
        deepest("fun() { ", "1", " }");
        deepest("if ", "1", " then 1 else 1");
        deepest("try ", "1", " catch e : e");
        deepest("let x = ", "1", " in x");
        Trial.noFault("module m /a { a() = " + Trial.times("check r /x [", 23) + "1" + Trial.times("]", 23) + "; }");
        Trial.fault(4, "module m /a { a() = " + Trial.times("check r /x [", 24) + "^1" + Trial.times("]", 24) + "; }");
        Trial.noFault("module m /a { a() = " + Trial.times("priv [r /x] ", 12) + Trial.times("(", 11) + "1" + Trial.times(")", 11) + "; }");
        Trial.fault(4, "module m /a { a() = " + Trial.times("(", 12) + Trial.times("priv [r /x] ", 12) + "^1" + Trial.times(")", 12) + "; }");
        Trial.noFault("module m /a { a() = " + Trial.times("under ctx : ", 23) + "1; }");
        Trial.fault(4, "module m /a { a() = " + Trial.times("under ctx : ", 23) + "under ^ctx : 1; }");
        Trial.noFault("module m /a { a() = " + Trial.times("if 1 then 2 else ", 23) + "1; }");
        Trial.fault(4, "module m /a { a() = " + Trial.times("if 1 then 2 else ", 23) + "if ^1 then 2 else 3; }");
        // The later parts of one are as deep as the first.
        for (String e : new String[] {"let x = 1 in (^1)", "if 1 then (^1) else 1", "if 1 then 1 else (^1)", "try 1 catch e : (^1)",
            "{ 1; (^1) }", "self(1, (^1))", "self.a(1, 2, (^1))", "fun() { 1; (^1) }", "1 + out (^1)", "under 1 : (^1)"}) {
            Trial.fault(4, "module m /a { a() = " + Trial.times("(", 22) + e + Trial.times(")", 22) + "; }");
            Trial.noFault("module m /a { a() = " + Trial.times("(", 21) + e.replace("^", "") + Trial.times(")", 21) + "; }");
        }
        // A PREFIX between signs is none of its own.
        Trial.noFault("module m /a { a() = " + Trial.times("(", 23) + "1 + 2 * 3 < 4" + Trial.times(")", 23) + "; }");
    }

    private static void deepest(String before, String inner, String behind) {
        Trial.noFault("module m /a { a() = " + Trial.times(before, 23) + inner + Trial.times(behind, 23) + "; }");
        Trial.fault(4, "module m /a { a() = " + Trial.times(before, 24) + "^" + inner + Trial.times(behind, 24) + "; }");
        Trial.fault(4, "module m /a { a() = " + Trial.times(before, 24) + "^nowhere" + Trial.times(behind, 24) + "; }");
        Trial.fault(1, "module m /a { a() = " + Trial.times(before, 24) + "^;" + Trial.times(behind, 24) + "; }");
    }

    // 399 PARTS stand ahead of what is tried.
    private static void parts() {
        String ahead = "module m /a { field f; a() = { " + Trial.numbered("1", "; ", 199) + "; self";
        Trial.noFault(ahead + ".f }; }");
        Trial.noFault(ahead + "() }; }");
        Trial.noFault(ahead + ".a() }; }");
        Trial.fault(4, ahead + ".f^.f }; }");
        Trial.fault(4, ahead + ".f := ^1 }; }");
        Trial.fault(4, ahead + ".a()^() }; }");
        Trial.fault(4, ahead + ".a(^1) }; }");
        Trial.fault(4, ahead + ".f ^+ 1 }; }");
        Trial.fault(4, ahead + ".f ^* 1 }; }");
        Trial.fault(4, ahead + ".f ^- 1 }; }");
        Trial.fault(4, ahead + ".f ^< 1 }; }");
        Trial.fault(4, ahead + ".f ^== 1 }; }");
        Trial.fault(4, ahead + ".f^; 1 }; }");
        Trial.fault(1, ahead + ".f ^: 1 }; }");
        for (String word : new String[] {"none", "self", "ctx", "new m", "let x = 1 in x", "if 1 then 1 else 1", "try 1 catch e : 1",
            "out 1", "fail 1", "spawn 1", "wait 1", "priv 1", "under 1 : 1", "fun() { 1 }", "check r /x", "able r /x", "7", "nowhere"}) {
            Trial.fault(4, "module m /a { a() = { " + Trial.numbered("1", "; ", 200) + " }; b() = 1; c() = ^" + word + "; }");
        }
    }

    private static void precedence() {
        // 4 is ahead of 2, 3 and 5 at one word, 1 ahead of all.
        Trial.fault(4, Trial.numbered("module m% /a { }", " ", 8) + " module ^m0 /a { }");
        Trial.fault(4, "module m /a { a() = self.a(1, 2, 3, ^x); }");
        Trial.fault(4, "module m /a { a(x, y, z, ^x) = 1; }");
        // The first word with a fault counts, not the gravest.
        Trial.fault(3, "module m /a { a() = ^x ?; }");
        Trial.fault(2, "module m /a { a(x, ^x, ?) = 1; }");
        Trial.fault(2, "module m /a { a() = 1; ^a() ? 1; }");
        Trial.fault(5, "module m ^/a/* ? { }");
        Trial.fault(1, "module m /a { a() = 1; a(^? = 1; }");
    }
}

/** Boundary cases of section 1: how many there may be of each, and FAULT 4, and where, at one more. */
public final class EdgeLimitTest {
    public static void main(String[] args) {
        grants();
        rightsOfAGrant();
        rightsOfALimit();
        modules();
        fields();
        methods();
        parameters();
        argumentsOfSendAndApply();
        units();
        limits();
        askings();
        variables();
        variablesThatAreNotAround();
        parts();
        partsByTheirWords();
        expressionsInOneAnother();
        prefixesInOneAnother();
        expressionsBesideOneAnother();
        Trial.end();
    }

    private static int count(String text, int what) {
        return Trial.house(text).count(what);
    }

    // Section 1: "At most 8 GRANTs"; FAULT 4 "of GRANTs at grant"; none at all may be, too.
    private static void grants() {
        for (int n = 0; n <= 8; n++) {
            Trial.due("count(2) of " + n, count(Trial.times("grant /a { } ", n) + "module m /a { }", 2), n);
        }
        String eight = Trial.times("grant /a { r /x; } ", 8);
        Trial.fault(4, eight + "^grant /a { } module m /a { }");
        Trial.fault(4, eight + "^grant");
        Trial.fault(4, eight + "^grant ?");
        Trial.fault(1, eight + "^grants");
        Trial.fault(1, Trial.times("grant /a { } ", 7) + "grant ^? grant /a { }");
    }

    // Section 1: "any number of RIGHTs", "8 RIGHTs of one"; FAULT 4 "of RIGHTs at the KIND".
    private static void rightsOfAGrant() {
        for (int n = 0; n <= 8; n++) {
            Trial.noFault("grant /a { " + Trial.times("r /x; ", n) + "} module m /a { }");
        }
        String eight = "grant /a { " + Trial.times("r /x; ", 8);
        Trial.fault(4, eight + "^r /x; } module m /a { }");
        Trial.fault(4, eight + "^r ?");
        Trial.fault(4, eight + "^r");
        Trial.fault(1, eight + "^/x; } module m /a { }");
        Trial.fault(1, eight + "^grant");
        Trial.fault(1, eight + "^abcdefghi");
        // Each has 8 of its own.
        Trial.noFault(Trial.times(eight + "} ", 8) + "module m /a { }");
        Trial.fault(4, eight + "} " + eight + "^r /x; } module m /a { }");
    }

    // Section 1: "RIGHTs, one at least", "8 .. in one [ ]"; FAULT 4 "of RIGHTs at the KIND".
    private static void rightsOfALimit() {
        Trial.fault(1, "module m /a { a() = priv [^] 1; }");
        for (int n = 1; n <= 8; n++) {
            Trial.noFault("module m /a { a() = priv [" + Trial.numbered("r /x", ", ", n) + "] 1; }");
        }
        String eight = "module m /a { a() = priv [" + Trial.numbered("r /x", ", ", 8);
        Trial.fault(4, eight + ", ^r /x] 1; }");
        Trial.fault(4, eight + ", ^r ?");
        Trial.fault(1, eight + ", ^] 1; }");
        Trial.fault(1, eight + ", ^priv");
        Trial.fault(1, eight + "^; 1; }");
        Trial.noFault(eight + "] priv [" + Trial.numbered("r /x", ", ", 8) + "] 1; }");
    }

    // Section 1: "one or more MODULEs", "8 modules"; FAULT 4 "of modules .. at the NAME".
    private static void modules() {
        Trial.fault(1, "grant /a { } ^");
        for (int n = 1; n <= 8; n++) {
            Trial.due("count(1) of " + n, count(Trial.numbered("module m% /a { }", " ", n), 1), n);
        }
        String eight = Trial.numbered("module m% /a { }", " ", 8);
        Trial.fault(4, eight + " module ^m8 /a { }");
        Trial.fault(4, eight + " module ^m0 /a { }");
        Trial.fault(4, eight + " module ^m8");
        Trial.fault(1, eight + " module ^");
        Trial.fault(1, eight + " module ^/a { }");
        Trial.fault(1, eight + " module ^let /a { }");
        Trial.fault(1, eight + " ^grant /a { }");
    }

    // Section 1: "4 fields .. of a module (its own)"; FAULT 4 "of .. fields .. at the NAME".
    private static void fields() {
        for (int n = 0; n <= 4; n++) {
            Trial.noFault("module m /a { " + Trial.numbered("field f%; ", "", n) + "a() = 1; }");
        }
        String four = "module m /a { " + Trial.numbered("field f%; ", "", 4);
        Trial.fault(4, four + "field ^g; }");
        Trial.fault(4, four + "field ^f3; }");
        Trial.fault(4, four + "field ^g");
        Trial.fault(1, four + "field ^; }");
        Trial.fault(1, four + "field ^self; }");
        // Those above are not its own: four in each of eight modules, each of them in the one object.
        StringBuilder text = new StringBuilder();
        StringBuilder sum = new StringBuilder("0");
        StringBuilder puts = new StringBuilder();
        for (int m = 0; m < 8; m++) {
            text.append("module m").append(m).append(" /a ").append(m > 0 ? ": m" + (m - 1) + " " : "").append("{ ");
            for (int f = 0; f < 4; f++) {
                text.append("field f").append(m).append(f).append("; ");
                puts.append("self.f").append(m).append(f).append(" := ").append(1 << (m * 4 + f) % 30).append("; ");
                sum.append(" + self.f").append(m).append(f);
            }
            text.append(m < 7 ? "} " : "");
        }
        WardenHouse house = Trial.house(text + "a() = { " + puts + sum + " }; }");
        Trial.due("run", house.run(0, 0, 1, false), 0);
        Trial.due("32 fields", house.thread(0, 1), (1 << 30) - 1 + 3);
        Trial.fault(4, text + "field ^f00; }");
        Trial.fault(2, text.toString().replace("field f73", "field ^f00") + "}");
        Trial.fault(2, text.toString().replace("field f73", "field ^f63") + "}");
        Trial.fault(2, text.toString().replace("field f73", "field ^f72") + "}");
    }

    // Section 1: "12 METHODs of a module (its own)"; FAULT 4 "of .. METHODs .. at the NAME".
    private static void methods() {
        for (int n = 0; n <= 12; n++) {
            Trial.due("METHODs", count("module m /a { " + Trial.numbered("a%() = 1; ", "", n) + "}", 0), n);
        }
        String twelve = "module m /a { " + Trial.numbered("a%() = 1; ", "", 12);
        Trial.fault(4, twelve + "^b() = 1; }");
        Trial.fault(4, twelve + "^a0() = 1; }");
        Trial.fault(4, twelve + "^b ?");
        Trial.fault(1, twelve + "^field f; }");
        Trial.fault(1, twelve + "^1() = 1; }");
        Trial.noFault(twelve + "} module n /a : m { " + Trial.numbered("a%() = 1; ", "", 12) + "}");
        // Of one NAME by their number of parameters: none to three are four METHODs.
        Trial.noFault("module m /a { a() = 1; a(x) = 1; a(x, y) = 1; a(x, y, z) = 1; }");
    }

    // Section 1: "NAMEs with , between, three at most"; FAULT 4 "of .. parameters at the NAME".
    private static void parameters() {
        String[] names = {"", "x", "x, y", "x, y, z"};
        for (int n = 0; n <= 3; n++) {
            WardenHouse house = Trial.house("module m /a { a(" + names[n] + ") = fun(" + names[n] + ") { 1 }; }");
            Trial.due("parameters", house.unit(0, 3) + " " + house.unit(1, 3), n + " " + n);
        }
        for (String head : new String[] {"module m /a { a(", "module m /a { a() = fun("}) {
            Trial.fault(4, head + "x, y, z, ^v) = 1; }");
            Trial.fault(4, head + "x, y, z, ^x) = 1; }");
            Trial.fault(4, head + "x, y, z, ^v");
            Trial.fault(1, head + "x, y, z, ^) = 1; }");
            Trial.fault(1, head + "x, y, z, ^1) = 1; }");
            Trial.fault(1, head + "x, y, z, ^fun) = 1; }");
            Trial.fault(1, head + "x, y, z ^v) = 1; }");
            Trial.fault(1, head + "^, x) = 1; }");
            Trial.fault(1, head + "x, ^, y) = 1; }");
        }
    }

    // Section 1: "Es with , between, three at most"; FAULT 4 "of Es of a SEND, an APPLY at the fourth's first word".
    private static void argumentsOfSendAndApply() {
        for (String head : new String[] {"module m /a { a(x) = self.a(", "module m /a { a(x) = self(", "module m /a { a(x) = x.f.g(", "module m /a { a(x) = 1(2)("}) {
            Trial.noFault(head + "); }");
            Trial.noFault(head + "1); }");
            Trial.noFault(head + "1, 2); }");
            Trial.noFault(head + "1, 2, 3); }");
            for (String fourth : new String[] {"4", "none", "x", "nowhere", "let v = 1 in v", "if 1 then 2 else 3", "try 1 catch e : 2", "out 1", "priv 1",
                "under 1 : 1", "(4)", "{ 4 }", "fun() { 1 }", "new m", "new nowhere", "check r /x", "able r /x", "4"}) {
                Trial.fault(4, head + "1, 2, 3, ^" + fourth + "); }");
            }
            Trial.fault(1, head + "1, 2, 3, ^); }");
            Trial.fault(1, head + "1, 2, 3, ^; }");
            Trial.fault(1, head + "1, 2, 3, ^then); }");
            Trial.fault(1, head + "1, 2, 3, ^");
            Trial.fault(1, head + "1, 2, 3 ^4); }");
            Trial.fault(1, head + "^, 1); }");
            // Each has three of its own.
            Trial.noFault(head + "self(1, 2, 3), self.a(1, 2, 3), self(1, 2, 3)(1, 2, 3)); }");
            Trial.fault(4, head + "1, 2, self(1, 2, 3, ^4)); }");
        }
    }

    // Section 1: "60 UNITS (each METHOD, fun, priv, under is one ..)"; FAULT 4 "at the word by which it is one".
    private static void units() {
        String[] one = {"fun() { 1 }", "priv 1", "priv [r /x] 1", "under 1 : 1"};
        for (int sort = 0; sort < 4; sort++) {
            String row = "module m /a { a() = { " + Trial.numbered("fun() { 1 }", "; ", 58) + "; ";
            Trial.due("count(0) of 60", count(row + one[sort] + " }; }", 0), 60);
            Trial.due("count(0) of 60, the last a METHOD", count(row + "1 }; b() = 1; }", 0), 60);
            Trial.fault(4, row + one[sort] + "; ^" + one[sort] + " }; }");
            Trial.fault(4, row + one[sort] + " }; ^b() = 1; }");
            Trial.fault(4, row + "1 }; b() = ^" + one[sort] + "; }");
        }
        // The last of them within one another: 4 METHODs of 12, then funs around funs.
        StringBuilder text = new StringBuilder();
        for (int m = 0; m < 4; m++) {
            text.append("module m").append(m).append(" /a { ").append(Trial.numbered("a%() = 1; ", "", 12)).append("} ");
        }
        Trial.due("count(0)", count(text + "module n /a { a() = " + Trial.times("fun() { ", 11) + "1" + Trial.times(" }", 11) + "; }", 0), 60);
        Trial.fault(4, text + "module n /a { a() = " + Trial.times("fun() { ", 11) + "^priv 1" + Trial.times(" }", 11) + "; }");
        Trial.fault(4, text + "module n /a { a() = " + Trial.times("priv ", 11) + "^under 1 : 1; }");
        // UNITS are 4 at the NAME, ahead of a METHOD that is there already (2, told behind it).
        Trial.fault(4, text + "module n /a { " + Trial.numbered("a%() = 1; ", "", 11) + "b() = 1; } module o /a { ^b() = 1; }");
    }

    // Section 1: "12 LIMITS (priv with [ ])"; FAULT 4 "of LIMITS at the [".
    private static void limits() {
        for (int n = 0; n <= 12; n++) {
            Trial.due("count(4)", count("module m /a { a() = 1" + Trial.times(" + priv [r /x] 1", n) + "; }", 4), n);
        }
        String twelve = "module m /a { a() = 1" + Trial.times(" + priv [r /x] 1", 12);
        Trial.fault(4, twelve + " + priv ^[r /x] 1; }");
        Trial.fault(4, twelve + " + priv ^[] 1; }");
        Trial.fault(4, twelve + " + priv ^[");
        Trial.noFault(twelve + " + priv 1; }");
        Trial.noFault(twelve + " + check r /x [1]; }");
        Trial.fault(1, twelve + " + priv ^]; }");
        Trial.fault(4, twelve + "; } module n /a { b() = priv ^[r /x] 1; }");
    }

    // Section 1: "24 ASKINGS (check, able; numbered)"; FAULT 4 at the word.
    private static void askings() {
        for (int n = 0; n <= 24; n++) {
            String text = "module m /a { a() = 1" + Trial.times(" + check r /x", n / 2) + Trial.times(" + able r /x", n - n / 2) + "; }";
            Trial.due("count(5)", count(text, 5), n);
        }
        String ahead = "module m /a { a() = 1" + Trial.times(" + check r /x + able r /x", 12);
        Trial.fault(4, ahead + " + ^check r /x; }");
        Trial.fault(4, ahead + " + ^able r /x; }");
        Trial.fault(4, ahead + " + ^able ?");
        Trial.fault(4, ahead + "; } module n /a { b() = ^check r /x; }");
        // One that stands within the [ ] of another is one more.
        Trial.fault(4, "module m /a { a() = 1" + Trial.times(" + check r /x", 23) + " + check r /x [^able r /x]; }");
        Trial.noFault("module m /a { a() = 1" + Trial.times(" + check r /x", 22) + " + check r /x [able r /x]; }");
    }

    // Section 1: "12 variables around one another"; FAULT 4 "of .. variables .. at the NAME".
    private static void variables() {
        String[] names = {"", "x", "x, y", "x, y, z"};
        for (int p = 0; p <= 3; p++) {
            String eleven = "module m /a { a(" + names[p] + ") = " + Trial.numbered("let v% = 1 in ", "", 11 - p);
            Trial.noFault(eleven + "let w = 1 in w; }");
            Trial.noFault(eleven + "try 1 catch w : w; }");
            Trial.noFault(eleven + "fun(w) { w }; }");
            Trial.fault(4, eleven + "fun(w, ^u) { w }; }");
            Trial.fault(4, eleven + "fun(w, ^w) { w }; }");
            for (String one : new String[] {"let w = 1 in ", "try 1 catch w : ", "try fail 1 catch v0 : "}) {
                Trial.noFault(eleven + one + "fun() { self }; }");
                Trial.fault(4, eleven + one + "let ^w = 1 in w; }");
                Trial.fault(4, eleven + one + "let ^v0 = 1 in v0; }");
                Trial.fault(4, eleven + one + "try 1 catch ^w : w; }");
                Trial.fault(4, eleven + one + "fun(^w) { w }; }");
                Trial.fault(4, eleven + one + "priv fun() { under 1 : (let ^w = 1 in w) }; }");
                Trial.fault(4, eleven + one + "let ^w");
                Trial.fault(1, eleven + one + "let ^1 = 1 in 1; }");
                Trial.fault(1, eleven + one + "try 1 catch ^in : 1; }");
                Trial.fault(1, eleven + one + "fun(^;) { 1 }; }");
                Trial.fault(1, eleven + one + "let ^");
            }
        }
        Trial.fault(4, "module m /a { a() = " + Trial.numbered("let v% = 1 in ", "", 10) + "fun(x, y, ^z) { 1 }; }");
        Trial.noFault("module m /a { a() = " + Trial.numbered("let v% = 1 in ", "", 9) + "fun(x, y, z) { 1 }; }");
        Trial.noFault("module m /a { a(x, y, z) = " + Trial.times("fun(x, y, z) { ", 3) + "x" + Trial.times(" }", 3) + "; }");
        Trial.fault(4, "module m /a { a(x, y, z) = " + Trial.times("fun(x, y, z) { ", 3) + "fun(^x) { 1 }" + Trial.times(" }", 3) + "; }");
    }

    // Section 1: "a let's NAME is one in its second E, a catch's in the E behind it"; behind it there is room again.
    private static void variablesThatAreNotAround() {
        String twelve = "module m /a { a() = " + Trial.numbered("let v% = 1 in ", "", 11);
        Trial.noFault(twelve + "(let x = 1 in x) + (let y = 1 in y) + (try 1 catch e : e) + fun(z) { z }(1); }");
        Trial.noFault(twelve + "{ let x = 1 in x; fun(y) { y }; try 1 catch z : z }; }");
        Trial.noFault(twelve + "if (let x = 1 in x) then let y = 1 in y else let z = 1 in z; }");
        Trial.noFault(twelve + "try let x = 1 in x catch e : e; }");
        Trial.noFault(twelve + "let x = let y = 1 in y in x; }");
        Trial.noFault(twelve + "let x = fun(y) { y } in x; }");
        Trial.fault(4, twelve + "let x = 1 in let ^y = 1 in y; }");
        Trial.fault(4, twelve + "let x = fun(y) { let ^z = 1 in z } in x; }");
        Trial.noFault("module m /a { a() = " + Trial.numbered("let v% = ", "", 22) + "1" + Trial.times(" in 1", 22) + "; }");
        Trial.noFault("module m /a { a() = " + Trial.times("try ", 22) + "1" + Trial.numbered(" catch v% : 1", "", 22) + "; }");
        // A METHOD begins with none of those ahead of it.
        Trial.noFault(twelve + "let x = 1 in x; b() = " + Trial.numbered("let v% = 1 in ", "", 12) + "1; }");
    }

    // 2 * n - 1 PARTS: n NUMBERs and the ; between them.
    private static String row(int n) {
        return Trial.numbered("1", ";", n);
    }

    // Section 1: "400 PARTS", over all the program.
    private static void parts() {
        Trial.noFault("module m /a { a() = { " + row(200) + " }; b() = 1; }");
        Trial.fault(4, "module m /a { a() = { " + row(200) + " }; b() = 1; c() = ^1; }");
        Trial.noFault("module m /a { a() = out { " + row(200) + " }; }");
        Trial.fault(4, "module m /a { a() = { " + row(200) + ";^1 }; }");
        Trial.fault(4, "module m /a { a() = out { " + row(200) + "^;1 }; }");
        Trial.noFault("module m /a { a() = { " + row(100) + " }; b() = 1; } module n /a { a() = { " + row(100) + " }; b() = 1; }");
        Trial.fault(4, "module m /a { a() = { " + row(100) + " }; b() = 1; } module n /a { a() = { " + row(100) + " }; b() = 1; c() = ^1; }");
        // What is no PART: { } ( ) around an E, [ ], a KIND, a PLACE, a METHOD, its parameters, NAMES of let and catch.
        Trial.noFault("grant /a { r /x; } module m /a { field f; a(x, y) = { " + row(197) + "; ({ (check r /x [(1)]) }); (let v = 1 in 1) }; }");
        Trial.fault(4, "grant /a { r /x; } module m /a { field f; a(x, y) = { " + row(197) + "; ({ (check r /x [(1)]) }); (let v = 1 in 1) ^+ 1 }; }");
    }

    // Section 1: PARTS one by one; FAULT 4 at the word, "a SEND's, READ's, WRITE's: its . ; an APPLY's: its (".
    private static void partsByTheirWords() {
        // Each % is where a PART is; what stands ahead of it, itself included, is counted down from 400.
        for (String e : new String[] {"%1", "%none", "%self", "%ctx", "%x", "%new m", "%let v = %1 in %2", "%if %1 then %2 else %3", "%try %1 catch e : %2",
            "%1 %< %2", "%1 %== %2", "%1 %+ %2 %+ %3", "%1 %- %2", "%1 %* %2 %* %3", "%out %1", "%fail %1", "%spawn %1", "%wait %1", "%priv %1",
            "%priv [r /x, r /y] %1", "%under %1 : %2", "%x%.f%.f", "%x%.f := %1", "%x%.f%.f := %x%.f := %1", "%x%.f()", "%x%.f(%1, %2, %3)", "%x%()",
            "%x%(%1, %2, %3)%()", "%fun() { %1 }", "%fun(p, q) { %p %; %q }", "%check r /x", "%able r /x", "%check r /x [%1]", "%able r /x [%1 %+ %1]",
            "{ %1 %; %2 %; %3 }", "(%1)", "{ %1 }"}) {
            String plain = e.replace("%", "");
            int parts = e.length() - plain.length();
            Trial.noFault("module m /a { a(x) = " + plain + "; b() = " + filled(400 - parts) + "; }");
            Trial.fault(4, "module m /a { a(x) = " + plain + "; b() = " + filled(400 - parts) + "; c() = ^1; }");
            int at = -1;
            for (int k = 0; k < parts; k++) {
                at = e.indexOf('%', at + 1);
                String marked = e.substring(0, at).replace("%", "") + "^" + e.substring(at).replace("%", "");
                Trial.fault(4, "module m /a { b() = " + filled(400 - k) + "; a(x) = " + marked + "; }");
            }
            Trial.noFault("module m /a { b() = " + filled(400 - parts) + "; a(x) = " + plain + "; }");
        }
    }

    // An E of so many PARTS, more than two.
    private static String filled(int parts) {
        return parts % 2 == 1 ? "{ " + row((parts + 1) / 2) + " }" : "out { " + row(parts / 2) + " }";
    }

    private static void deepest(String before, String behind) {
        Trial.noFault("module m /a { field f; a(x) = " + Trial.times(before, 23) + "1" + Trial.times(behind, 23) + "; }");
        for (String first : new String[] {"1", "x", "nowhere", "self", "none"}) {
            Trial.fault(4, "module m /a { field f; a(x) = " + Trial.times(before, 24) + "^" + first + Trial.times(behind, 24) + "; }");
        }
        Trial.fault(4, "module m /a { field f; a(x) = " + Trial.times(before, 24) + "^1");
        Trial.fault(1, "module m /a { field f; a(x) = " + Trial.times(before, 24) + "^");
        Trial.fault(1, "module m /a { field f; a(x) = " + Trial.times(before, 24) + "^then");
    }

    // As above, where the first E of each, a 1, is as deep as the one that has the next: the FAULT is at that 1.
    private static void deepestBehind(String before, String behind) {
        Trial.noFault("module m /a { field f; a(x) = " + Trial.times(before, 23) + "1" + Trial.times(behind, 23) + "; }");
        Trial.fault(4, "module m /a { field f; a(x) = " + Trial.times(before, 23) + before.replaceFirst("1", "^1") + "1" + Trial.times(behind, 24) + "; }");
        Trial.fault(4, "module m /a { field f; a(x) = " + Trial.times(before, 22) + before + "(^1)" + Trial.times(behind, 23) + "; }");
        Trial.fault(1, "module m /a { field f; a(x) = " + Trial.times(before, 23) + "^then");
    }

    // Section 1: "24 Es in one another (a METHOD's is the first; each E within ..)"; FAULT 4 "at the first word".
    private static void expressionsInOneAnother() {
        deepest("(", ")");
        deepest("{", "}");
        deepestBehind("{ 1; ", "}");
        deepest("if ", " then 1 else 1");
        deepestBehind("if 1 then ", " else 1");
        deepestBehind("if 1 then 1 else ", "");
        deepest("try ", " catch e : 1");
        deepest("let v = ", " in 1");
        deepest("fun() { ", " }");
        deepestBehind("fun() { 1; ", " }");
        deepest("x(", ")");
        deepestBehind("x(1, ", ")");
        deepestBehind("x(1, 2, ", ")");
        deepest("x.f(", ")");
        deepestBehind("x.f(1, 2, ", ")");
        deepest("1 + (", ")");
        deepest("1 < (", ")");
        // Of these no 23 can be, as there are 12 variables: the other Es are ( ) around.
        for (String e : new String[] {"let v = 1 in @", "try 1 catch v : @", "check r /x [@]", "able r /x [@]"}) {
            Trial.noFault("module m /a { a() = " + Trial.times("(", 22) + e.replace("@", "1") + Trial.times(")", 22) + "; }");
            Trial.fault(4, "module m /a { a() = " + Trial.times("(", 23) + e.replaceFirst("[1@]", "^1").replace("@", "1") + Trial.times(")", 23) + "; }");
            Trial.fault(4, "module m /a { a() = " + Trial.times("(", 22) + e.replace("@", "(^1)") + Trial.times(")", 22) + "; }");
        }
        // An E at depth 25 may begin with any word that begins one.
        for (String e : new String[] {"let v = 1 in 1", "if 1 then 1 else 1", "try 1 catch e : 1", "out 1", "priv 1", "under 1 : 1", "{ 1 }", "(1)", "fun() { 1 }",
            "new nowhere", "check r /x", "able ?", "ctx"}) {
            Trial.fault(4, "module m /a { a() = " + Trial.times("(", 24) + "^" + e + Trial.times(")", 24) + "; }");
        }
    }

    // Section 1: "each PREFIX behind a word of a PREFIX, a ] of priv, a : of under, or := is one".
    private static void prefixesInOneAnother() {
        deepest("out ", "");
        deepest("fail ", "");
        deepest("spawn ", "");
        deepest("wait ", "");
        deepest("priv ", "");
        deepest("under ", " : 1");
        deepestBehind("under 1 : ", "");
        deepest("x.f := ", "");
        Trial.noFault("module m /a { a() = " + Trial.times("(", 11) + Trial.times("priv [r /x] ", 12) + "1" + Trial.times(")", 11) + "; }");
        Trial.fault(4, "module m /a { a() = " + Trial.times("(", 12) + Trial.times("priv [r /x] ", 12) + "^1" + Trial.times(")", 12) + "; }");
        // Words, then signs, then words: each is one.
        Trial.noFault("module m /a { a(x) = " + Trial.times("out (x.f := { priv ", 4) + "out out out 1" + Trial.times(" })", 4) + "; }");
        Trial.fault(4, "module m /a { a(x) = " + Trial.times("out (x.f := { priv ", 4) + Trial.times("out ", 4) + "^1" + Trial.times(" })", 4) + "; }");
    }

    // Section 1: what stands beside one another is as deep as the first of it, and SUMs and PRODUCTs are no Es.
    private static void expressionsBesideOneAnother() {
        String deep = Trial.times("(", 22);
        String back = Trial.times(")", 22);
        for (String e : new String[] {"@ + @ * @ - @ < @ + @", "{ @; @; @ }", "if @ then @ else @", "let v = @ in @", "try @ catch e : @", "x(@, @, @)(@)(@)",
            "x.f(@, @, @).f(@).f(@)", "under @ : @", "fun() { @; @ }"}) {
            boolean flat = e.startsWith("@");
            String fits = "module m /a { a(x) = " + deep + e.replace("@", flat ? "(1)" : "1") + back + "; }";
            Trial.noFault(fits);
            int at = -1;
            while ((at = e.indexOf('@', at + 1)) >= 0) {
                String marked = e.substring(0, at).replace("@", "1") + (flat ? "((^1))" : "(^1)") + e.substring(at + 1).replace("@", "1");
                Trial.fault(4, "module m /a { a(x) = " + deep + marked + back + "; }");
            }
        }
        // The next METHOD begins anew.
        Trial.noFault("module m /a { a() = (" + deep + "1" + back + "); b() = (" + deep + "1" + back + "); }");
    }
}

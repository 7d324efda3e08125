/** Boundary cases of the FAULT of section 1 (which one, and where) and of promises 4 and 5. */
public final class EdgeFaultTest {
    // Every form of the grammar, word by word.
    private static final String[] WORDS = ("grant /a/- { r /x ; w /- ; } grant /* { } module m /a/b { field f ; field g ; a ( ) = let v = 1 in if v then 2 else 3 ;"
        + " b ( x , y , z ) = try x + y - z * 4 < 5 catch e : e == 6 ; c ( x ) = out fail spawn wait priv priv [ r /x , w /y/* ] under ctx : x . f := self . g ;"
        + " d ( ) = self . b ( 1 , none , { 2 ; new m } ) ( ) ( 7 ) . f ; e ( x ) = fun ( p , q ) { p ; fun ( ) { q } } ; }"
        + " module n /c : m { h ( ) = ( check r /x ) + able w /y [ 8 ] ; }").split(" ");

    public static void main(String[] args) {
        endAtEachWord();
        noWordAtEachWord();
        wordThatNeverStandsThere();
        atLeastAndAtMost();
        firstFaultCounts();
        oneAheadOfFourAheadOfOthers();
        nameTwice();
        methodTwice();
        nameThatIsNone();
        tailWhereAPlaceMustStand();
        answersOfProgram();
        answersOfFault();
        noProgramBehindAFault();
        Trial.end();
    }

    private static String joined(int from, int to) {
        StringBuilder text = new StringBuilder();
        for (int i = from; i < to; i++) {
            text.append(WORDS[i]).append(' ');
        }
        return text.toString();
    }

    private static boolean isWhole(int words) {
        return words == WORDS.length || words < WORDS.length && WORDS[words].equals("module") && WORDS[words - 1].equals("}") && words > 20;
    }

    // Section 1: FAULT 1 "can't stand there (.. the end at n)": of all texts that end ahead of one of their words.
    private static void endAtEachWord() {
        Trial.noFault(joined(0, WORDS.length));
        for (int i = 0; i < WORDS.length; i++) {
            String text = joined(0, i);
            if (isWhole(i)) {
                Trial.noFault(text);
            } else {
                Trial.fault(1, text + "^");
                Trial.fault(1, text + "#no more words^");
                Trial.fault(1, text + "\n\n  ^");
            }
        }
    }

    // Section 1: FAULT 1 "what is no word .. (at its first byte)": ahead of each word, behind which all is as before.
    private static void noWordAtEachWord() {
        for (int i = 0; i <= WORDS.length; i++) {
            Trial.fault(1, joined(0, i) + "^? " + joined(i, WORDS.length));
            Trial.fault(1, joined(0, i) + "^abcdefghi " + joined(i, WORDS.length));
            Trial.fault(1, joined(0, i) + "^2147483648 " + joined(i, WORDS.length));
            Trial.fault(1, joined(0, i) + "^/a/b/c/d/e " + joined(i, WORDS.length));
            Trial.fault(1, joined(0, i) + "^/ " + joined(i, WORDS.length));
        }
    }

    // Section 1: FAULT 1 "can't stand there": a word behind which there is none of it, in place of each word.
    private static void wordThatNeverStandsThere() {
        for (int i = 0; i < WORDS.length; i++) {
            if (!WORDS[i].equals("grant") && !(i > 0 && WORDS[i - 1].equals("}"))) {
                Trial.fault(1, joined(0, i) + "^grant " + joined(i + 1, WORDS.length));
            }
            if (!WORDS[i].equals("in") && !WORDS[i].equals("then")) {
                Trial.fault(1, joined(0, i) + "^in " + joined(i + 1, WORDS.length));
                Trial.fault(1, joined(0, i) + "^then " + joined(i + 1, WORDS.length));
            }
        }
    }

    private static String within(String e) {
        return "module m /a { field f; a(p, q) = " + e + "; }";
    }

    // Section 1: where the grammar says none, one, two, one at least, any number, or that something ends there.
    private static void atLeastAndAtMost() {
        // "a SUM, or two with < or == between".
        Trial.noFault(within("p < q"));
        Trial.fault(1, within("p < q ^< p"));
        Trial.fault(1, within("p < q ^== p"));
        Trial.fault(1, within("p == q ^< p"));
        Trial.fault(1, within("p == q ^== p"));
        Trial.noFault(within("(p < q) < (p == q)"));
        Trial.fault(1, within("^< p"));
        Trial.fault(1, within("p < ^"));
        // "ROW: Es with ; between, one at least".
        Trial.fault(1, within("{ ^}"));
        Trial.fault(1, within("{ ^; p }"));
        Trial.fault(1, within("{ p; ^}"));
        Trial.fault(1, within("{ p; ^; p }"));
        Trial.fault(1, within("fun() { ^}"));
        Trial.fault(1, within("fun() { p; ^}"));
        Trial.noFault(within("{ p }"));
        Trial.noFault(within("{ { { p; q }; p }; q }"));
        // "check KIND PLACE or able KIND PLACE, perhaps with [ E ] behind it": one, of one E, right behind it.
        Trial.fault(1, within("check r /x [1] ^[2]"));
        Trial.fault(1, within("able r /x [^]"));
        Trial.fault(1, within("able r /x [1^, 2]"));
        Trial.fault(1, within("able r /x [1^; 2]"));
        Trial.fault(1, within("(able r /x) ^[1]"));
        Trial.fault(1, within("p ^[1]"));
        // "behind a READ may stand :=", and behind nothing else; "and the POSTFIX ends".
        Trial.noFault(within("p.f := q.f := 1"));
        Trial.noFault(within("p(1).f.g := 1"));
        for (String no : new String[] {"p", "self", "(p.f)", "p.f()", "p()", "p.f(1).g(2)", "1", "none", "{ p.f }", "new m", "fun() { 1 }", "check r /x", "1 + p", "out p"}) {
            Trial.fault(1, within(no + " ^:= 1"));
        }
        Trial.fault(1, within("p.f := 1 ^:= 2"));
        Trial.fault(1, within("p.f := ^let x = 1 in x"));
        Trial.fault(1, within("p.f := ^if 1 then 2 else 3"));
        Trial.fault(1, within("p.f := ^try 1 catch e : 2"));
        // let, if and try are Es, no PREFIXes: behind a sign or a word they stand in ( ) alone.
        for (String e : new String[] {"let x = 1 in x", "if 1 then 2 else 3", "try 1 catch e : 2"}) {
            for (String ahead : new String[] {"1 + ", "1 - ", "1 * ", "1 < ", "1 == ", "out ", "fail ", "spawn ", "wait ", "priv ", "priv [r /x] ", "under ", "under 1 : "}) {
                Trial.fault(1, within(ahead + "^" + e));
                Trial.noFault(within(ahead + "(" + e + ")" + (ahead.equals("under ") ? " : 1" : "")));
            }
        }
        // PREFIXes are none of what an ATOM or a PRODUCT begins with behind another.
        Trial.fault(1, within("p ^out 1"));
        Trial.fault(1, within("p ^q"));
        Trial.fault(1, within("1 ^1"));
        Trial.fault(1, within("p.f ^priv 1"));
        Trial.fault(1, within("^* p"));
        Trial.fault(1, within("^- p"));
        Trial.fault(1, within("p + ^+ q"));
        Trial.fault(1, within("p - ^- q"));
        // All else that may not be empty, and what may.
        Trial.fault(1, within("(^)"));
        Trial.fault(1, within("new ^; }"));
        Trial.fault(1, within("check ^; }"));
        Trial.fault(1, within("check r ^; }"));
        Trial.fault(1, within("priv ^; }"));
        Trial.fault(1, within("under 1 ^; }"));
        Trial.fault(1, within("under 1 : ^; }"));
        Trial.fault(1, within("p. ^; }"));
        Trial.noFault(within("p()"));
        Trial.noFault(within("p.f()"));
        Trial.fault(1, "grant ^{ } module m /a { }");
        Trial.fault(1, "module ^/a { }");
        Trial.fault(1, "module m ^{ }");
        Trial.fault(1, "module m /a : ^{ }");
        Trial.fault(1, "module m /a ^");
        Trial.fault(1, "module m /a { field ^; }");
        Trial.fault(1, "module m /a { a ^= 1; }");
        Trial.fault(1, "module m /a { a() ^1; }");
        Trial.fault(1, "module m /a { a() = ^; }");
        Trial.fault(1, "module m /a { a() = 1; ^; }");
        Trial.fault(1, "module m /a { ^; }");
        // fields, then METHODs; GRANTs, then modules.
        Trial.fault(1, "module m /a { field f; a() = 1; ^field g; }");
        Trial.fault(1, "module m /a { } ^grant /a { }");
        Trial.fault(1, "module m /a { } ^field f;");
        Trial.fault(1, "module m /a { } ^}");
    }

    // Section 1: "THE FAULT is the first one, word by word", not the gravest.
    private static void firstFaultCounts() {
        Trial.fault(2, "module m /a { } module ^m /a/* { a() = x ?; }");
        Trial.fault(3, "module m /a { a() = ^x + x; b(y, y) = ?; }");
        Trial.fault(3, "module m /a : ^n { field f; field f; }");
        Trial.fault(5, "module m ^/a/* : n { ? }");
        Trial.fault(5, "module m /a { a() = check r ^/- [x]; }");
        Trial.fault(1, "module m /a { a() = let ^= x in x; }");
        Trial.fault(4, "module m /a { a(x, y, z, ^u ? }");
        Trial.fault(1, "module m /a { a() = ^then; b() = x; }");
        // Of a word too long the first byte, though all up to its ninth is a NAME.
        Trial.fault(1, "module m /a { a(x) = ^abcdefghi.x; }");
    }

    // Section 1: "Of one word 1 is ahead of 4, 4 of the others."
    private static void oneAheadOfFourAheadOfOthers() {
        String parts = "module m /a { a() = { " + Trial.numbered("1", ";", 200) + " }; b() = 1; ";
        Trial.fault(4, parts + "c() = ^x; }");
        Trial.fault(1, parts + "c() = ^; }");
        Trial.fault(1, parts + "c() = ^abcdefghi; }");
        Trial.fault(1, parts + "c() = ^2147483648; }");
        Trial.fault(1, parts + "c() = ^in; }");
        // new is the word of the PART, so it comes ahead of the NAME that is none.
        Trial.fault(4, parts + "c() = ^new nowhere; }");
        Trial.fault(4, parts + "c() = ^check r /x/*; }");
        Trial.fault(4, Trial.numbered("module m% /a { }", " ", 8) + " module ^m7 /a { }");
        Trial.fault(4, "module m /a { " + Trial.numbered("field f%; ", "", 4) + "field ^f0; }");
        Trial.fault(4, "module m /a { a(x, y, z, ^z) = 1; }");
        Trial.fault(4, "module m /a { a() = 1(1, 2, 3, ^nowhere); }");
        Trial.fault(4, "module m /a { a() = " + Trial.times("(", 24) + "^nowhere; }");
        Trial.fault(4, "module m /a { a() = " + Trial.numbered("let v% = 1 in ", "", 11) + "fun(x, ^x) { 1 }; }");
        // At the ) of a METHOD that is there already: the ) stands there, and it is told though the next can't.
        Trial.fault(2, "module m /a { a() = 1; ^a()");
        Trial.fault(2, "module m /a { a() = 1; ^a() }");
    }

    // Section 1: FAULT 2 "a NAME (at it) that is there already: a module's, a field's (of its module, or one above), a parameter's".
    private static void nameTwice() {
        for (int n = 1; n < 8; n++) {
            Trial.fault(2, Trial.numbered("module m% /a { }", " ", n) + " module ^m0 /a { }");
            Trial.fault(2, Trial.numbered("module m% /a { }", " ", n) + " module ^m" + (n - 1) + " /a { }");
        }
        Trial.noFault("module m /a { field m; m(m) = m.m(m); }");
        for (int n = 1; n < 4; n++) {
            Trial.fault(2, "module m /a { " + Trial.numbered("field f%; ", "", n) + "field ^f0; }");
            Trial.fault(2, "module m /a { " + Trial.numbered("field f%; ", "", n) + "field ^f" + (n - 1) + "; }");
            Trial.fault(2, "module m /a { " + Trial.numbered("field f%; ", "", n) + "} module n /a : m { field ^f" + (n - 1) + "; }");
        }
        Trial.noFault("module m /a { field f; } module n /a { field f; } module o /a : n { field g; } module p /a : m { field g; }");
        // One below is not above: the module ahead may have it too.
        Trial.noFault("module m /a { } module n /a : m { field f; } module o /a : m { field f; }");
        for (String head : new String[] {"module m /a { a(", "module m /a { a() = fun("}) {
            Trial.fault(2, head + "x, ^x) = 1; }");
            Trial.fault(2, head + "x, y, ^x) = 1; }");
            Trial.fault(2, head + "x, y, ^y) = 1; }");
            Trial.fault(2, head + "x, ^x, y) = 1; }");
        }
        // Around it may be others of its NAME, and a let's or a catch's is never there already.
        Trial.noFault("module m /a { a(x) = fun(x) { fun(y, x) { let x = x in try let y = x in y catch x : let x = x in x } }; }");
        // A variable of an ended E is not there.
        Trial.noFault("module m /a { a() = (let x = 1 in x) + fun(x) { x }(1); b(x) = 1; c(x) = x; }");
    }

    // Section 1: "a METHOD's whose module has one of this NAME and number of parameters (told when the ) is at hand)".
    private static void methodTwice() {
        String[] names = {"", "x", "x, y", "x, y, z"};
        for (int had = 0; had <= 3; had++) {
            for (int n = 0; n <= 3; n++) {
                String ahead = "module m /a { a(" + names[had] + ") = 1; ";
                if (had == n) {
                    Trial.fault(2, ahead + "^a(" + names[n] + ") = 1; }");
                    Trial.fault(2, ahead + "^a(" + names[n] + ") ?");
                    Trial.fault(1, ahead + "a(" + names[n] + "^");
                    Trial.fault(1, ahead + "a(" + names[n] + " ^; 1; }");
                    Trial.fault(2, ahead + "b() = 1; ^a(" + names[n] + ") = 1; }");
                } else {
                    Trial.noFault(ahead + "a(" + names[n] + ") = 1; }");
                }
            }
        }
        // A FAULT between the NAME and the ) comes first.
        Trial.fault(2, "module m /a { a(x, y) = 1; a(x, ^x) = 1; }");
        Trial.fault(4, "module m /a { a(x, y, z) = 1; a(x, y, z, ^u) = 1; }");
        // Of another module it is none, above or not.
        Trial.noFault("module m /a { a() = 1; } module n /a { a() = 1; } module o /a : m { a() = 1; }");
        Trial.noFault("module m /a { field a; a() = 1; }");
    }

    // Section 1: FAULT 3 "a NAME (at it) that is none there: a variable's, a SUPER's, a new's".
    private static void nameThatIsNone() {
        for (String e : new String[] {"^x", "1 + ^x", "^x.f", "^x()", "^x.f := 1", "self.f := ^x", "self.f(^x)", "let y = ^x in 1", "let x = ^x in 1", "try ^x catch x : 1",
            "(let x = 1 in 1) + ^x", "{ fun(x) { 1 }; ^x }", "fun(x) { 1 }(^x)", "(try 1 catch x : x) + ^x", "if ^x then 1 else 1", "check r /x [^x]", "priv ^x",
            "under ^x : 1", "under 1 : ^x", "fun() { ^x }", "^m", "^a", "^f", "^r"}) {
            Trial.fault(3, "module m /a { field f; z(x) = 1; a() = " + e + "; }");
        }
        // A variable of around its UNIT is one there.
        Trial.noFault("module m /a { a(x) = fun() { priv { under x : x; fun(y) { x + y } } }; }");
        Trial.fault(3, "module m /a : ^m { }");
        Trial.fault(3, "module m /a { } module n /a : ^o { } module o /a { }");
        Trial.fault(3, "module m /a { field f; } module n /a : ^f { }");
        Trial.noFault(Trial.numbered("module m% /a { }", " ", 7) + " module n /a : m0 { }");
        Trial.noFault(Trial.numbered("module m% /a { }", " ", 7) + " module n /a : m6 { }");
        Trial.fault(3, "module m /a { a() = new ^n; } module n /a { }");
        Trial.fault(3, "module m /a { a(x) = new ^x; }");
        Trial.noFault("module m /a { a() = new m; } module n /a { a() = new m + new n; }");
        // A field or METHOD that no module has is no FAULT.
        Trial.noFault("module m /a { a() = self.nowhere + self.nowhere() + (self.nowhere := 1); }");
    }

    // Section 1: FAULT 5 "a tail where a PLACE must stand (at the PATTERN's first byte)".
    private static void tailWhereAPlaceMustStand() {
        for (String tail : new String[] {"/*", "/-", "/a/*", "/a/-", "/a/b/c/d/*", "/a/b/c/d/-"}) {
            Trial.fault(5, "module m ^" + tail + " { }");
            Trial.fault(5, "module m   ^" + tail + "");
            Trial.fault(5, "module m /a { a() = check r ^" + tail + "; }");
            Trial.fault(5, "module m /a { a() = able r ^" + tail + " [1]; }");
            Trial.noFault("grant " + tail + " { r " + tail + "; } module m /a { a() = priv [r " + tail + "] 1; }");
        }
        Trial.noFault("module m /a/b/c/d { a() = check r /a/b/c/d; }");
    }

    // Promise 4: "how many UNITS": from none to 60.
    private static void answersOfProgram() {
        for (int n = 0; n < 60; n++) {
            WardenHouse house = new WardenHouse();
            Trial.feed(house, "module m /a { " + (n == 0 ? "" : "a() = 1" + Trial.times(" + priv 1", n - 1) + "; ") + "}");
            Trial.due("program of " + n, Trial.program(house), n);
            Trial.due("count(0)", house.count(0), n);
        }
        WardenHouse house = new WardenHouse();
        Trial.feed(house, "module m /a { a() = 1" + Trial.times(" + priv 1", 59) + "; }");
        Trial.due("program of 60", Trial.program(house), 60);
        Trial.feed(house, "module m /a { a() = 1" + Trial.times(" + priv 1", 60) + "; }");
        Trial.due("program of 61", Trial.program(house), -1);
    }

    // Promise 5: "Of the latest program(): what 0 the FAULT (0 without, or ahead of any), 1 its place (NONE). NONE for another what."
    private static void answersOfFault() {
        WardenHouse house = new WardenHouse();
        tells(house, 0, -1);
        String[] texts = {"", "module m /a { }", "module m /a { } module m /a { }", "module m /a { a() = x; }", "module m /a { a(x, y, z, u) = 1; }",
            "module m /* { }", "module m /a { a() = 1; }", "?"};
        String[] due = {"1 0", "0 -1", "2 23", "3 20", "4 25", "5 9", "0 -1", "1 0"};
        for (int i = 0; i < texts.length; i++) {
            Trial.feed(house, texts[i]);
            Trial.program(house);
            tells(house, Integer.parseInt(due[i].substring(0, 1)), Integer.parseInt(due[i].substring(2)));
            // Neither another text on the tape nor asks() is a program().
            Trial.asks(house, "?");
            tells(house, Integer.parseInt(due[i].substring(0, 1)), Integer.parseInt(due[i].substring(2)));
        }
        // At place 0 and at place 3000 alike.
        Trial.feed(house, Trial.times(" ", 3000));
        Trial.program(house);
        tells(house, 1, 3000);
    }

    private static void tells(WardenHouse house, int kind, int place) {
        Trial.due("fault(0)", house.fault(0), kind);
        Trial.due("fault(1)", house.fault(1), place);
        for (int what : new int[] {-1, 2, 3, Integer.MIN_VALUE, Integer.MAX_VALUE}) {
            Trial.due("fault(" + what + ")", house.fault(what), -1);
        }
    }

    // Promise 4: "IllegalArgumentException at a FAULT (there is no program then). There is no run then."
    private static void noProgramBehindAFault() {
        for (String bad : new String[] {"", "module m /a { a() = priv [r /x] check r /x; } ?", "grant /a { r /x; } module m /a { a() = x; }"}) {
            WardenHouse house = Trial.house("grant /a { r /x; } module m /a { a() = priv [r /x] check r /x; }");
            Trial.asks(house, "r /x");
            Trial.due("run", Trial.run(house, 0, 0, 10, true), 0);
            Trial.due("result(7)", house.result(7), 1);
            Trial.feed(house, bad);
            Trial.due("program", Trial.program(house), -1);
            for (int what = 0; what < 10; what++) {
                Trial.due("count(" + what + ") behind a FAULT", house.count(what), 0);
                Trial.due("unit", house.unit(0, what), -1);
                Trial.due("result", house.result(what), -1);
                Trial.due("event", house.event(0, what), -1);
                Trial.due("thread", house.thread(0, what), -1);
                Trial.due("context", house.context(0, what - 1), -1);
            }
            Trial.due("code", house.code(0, false, 0) + house.code(0, true, 0), -2);
            Trial.due("number", house.number(0), 0);
            Trial.due("domain", house.domain(0), -1);
            Trial.due("has", house.has(0, false) + house.has(0, true), -2);
            Trial.due("may", house.may(0), -1);
            Trial.due("run", Trial.run(house, 0, 0, 10, false), -1);
            // The next text has all again, and what is ASKED has stayed.
            Trial.feed(house, "grant /a { r /x; } module m /a { a() = priv [r /x] check r /x; }");
            Trial.due("program", Trial.program(house), 2);
            Trial.due("result behind a program", house.result(0), -1);
            Trial.due("has", house.has(0, false), 1);
            Trial.due("run", Trial.run(house, 0, 0, 10, false), 0);
            Trial.due("result", house.result(6), 1);
        }
    }
}

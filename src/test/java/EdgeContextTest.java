/** Boundary cases of sections 4, 5 and 6 and of promises 13 and 18. */
public final class EdgeContextTest {
    public static void main(String[] args) {
        lookedAtUpToTheFirstThatHasNot();
        lookedAtUpToPriv();
        lookedAtBelowALimit();
        lookedAtInAContext();
        belowThreads();
        belowStaysAsItWas();
        deepestWalk();
        firstContexts();
        mostProducts();
        everyDomainInOneProduct();
        productsThatGo();
        fourteenProductsReduced();
        limitsAndDomainsAgree();
        noContextWithoutNeed();
        allUnitsNeed();
        contextCalls();
        mayOfEachSort();
        mayOfNoRun();
        mayTheLongestWay();
        mayCalls();
        Trial.end();
    }

    /** Runs head both ways: its first thread's INT, frames looked at, contexts as "{products} .." . */
    private static void guarded(String text, String head, int value, int looked, String contexts) {
        WardenHouse house = Trial.house(text);
        int u = Trial.unitAt(house, text, head);
        Trial.due("run of " + head, Trial.run(house, u, 0, 4000, false), 0);
        Trial.due("value of " + head + " in " + text, house.thread(0, 1), value);
        Trial.due("looked at by " + head, house.result(6), looked);
        Trial.due("no contexts in a walk", house.result(7) + " " + house.context(0, -1) + " " + house.context(0, 0), "0 -1 -1");
        String events = Trial.events(house);
        Trial.due("run of " + head, Trial.run(house, u, 0, 4000, true), 0);
        Trial.due("rewritten value of " + head, house.thread(0, 1), value);
        Trial.due("rewritten events of " + head, Trial.events(house), events);
        Trial.due("nothing looked at when rewritten", house.result(6), 0);
        Trial.due("contexts of " + head, Trial.contexts(house), contexts);
    }

    // a has r /x, b has it not, c has all.
    private static final String THREE = "grant /a { r /x; } grant /c { r /-; w /-; } ";

    // Section 4: "f is LOOKED AT; if its UNIT's DOMAIN has it not: no": that one is the last.
    private static void lookedAtUpToTheFirstThatHasNot() {
        String text = THREE + "module a /a { get() = able r /x; two() = self.get(); } module b /b { one() = able r /x; get2() = new a.get(); get3() = new a.two(); }"
            + " module c /c { q() = new a.get(); p() = new b.one(); s() = new b.get3(); }";
        guarded(text, "one() =", 0, 1, "{2}");
        guarded(text, "get() =", 1, 1, "{1}");
        guarded(text, "two() =", 1, 2, "{1}");
        guarded(text, "get2() =", 0, 2, "{2} {3}");
        guarded(text, "get3() =", 0, 3, "{2} {3}");
        guarded(text, "q() =", 1, 2, "{4} {5}");
        guarded(text, "p() =", 0, 1, "{4} {6}");
        guarded(text, "s() =", 0, 3, "{4} {6} {7}");
    }

    // Section 4: "f being of priv: yes" - behind its own DOMAIN, ahead of all BELOW.
    private static void lookedAtUpToPriv() {
        String text = THREE + "module a /a { get() = able r /x; own() = priv able r /x; far() = priv self.get(); two() = priv priv able r /x; } module b /b { o() = new a.own(); f() = new a.far();"
            + " t() = new a.two(); n() = priv able r /x; g() = priv new a.get(); }";
        guarded(text, "o() =", 1, 1, "{1}");
        guarded(text, "f() =", 1, 2, "{1}");
        guarded(text, "t() =", 1, 1, "{1}");
        guarded(text, "n() =", 0, 1, "{2}");
        guarded(text, "g() =", 0, 2, "{2} {3}");
    }

    // Section 4: "of priv with [ ]: yes if the LIMIT has it, else as asked for BELOW" - and its DOMAIN must have it first.
    private static void lookedAtBelowALimit() {
        String text = THREE + "module a /a { inn() = priv [r /x] able r /x; out1() = priv [r /y] able r /x; last() = priv [w /x, r /z, r /*] able r /x; } module b /b { i() = new a.inn(); o() = new a.out1();"
            + " l() = new a.last(); n() = priv [r /x] able r /x; } module c /c { h() = new a.out1(); }";
        guarded(text, "i() =", 1, 1, "{2} {3} {3 257}");
        guarded(text, "o() =", 0, 3, "{2} {3} {3 513}");
        guarded(text, "l() =", 1, 1, "{2} {3} {3 1025}");
        guarded(text, "n() =", 0, 1, "{2}");
        guarded(text, "out1() =", 1, 2, "{1}");
        guarded(text, "h() =", 1, 3, "{4} {5} {5 513}");
    }

    // Section 4: "of under: as asked for in that CONTEXT", not BELOW it.
    private static void lookedAtInAContext() {
        String text = THREE + "module a /a { field k; keep() = self.k := ctx; use() = under self.k : able r /x; with(c) = under c : able r /x; both(c) = under c : under ctx : able r /x; }"
            + " module b /b { x() = new a.with(ctx); y() = let o = new a in { priv o.keep(); o.use() }; z() = under ctx : able r /x; }"
            + " module c /c { s() = let o = new a in { o.keep(); new d.t(o) }; v() = new a.with(ctx); w() = new a.both(ctx); } ";
        text = text.replace("module c /c {", "module d /b { t(o) = o.use(); } module c /c {");
        guarded(text, "x() =", 0, 2, "{2} {3}");
        // The priv's own DOMAIN, b, has it not.
        guarded(text, "y() =", 0, 3, "{2} {3}");
        guarded(text, "z() =", 0, 1, "{2}");
        // The CONTEXT is one of a and c alone; that b leads to the under is not asked, and t and use NEED none.
        guarded(text, "s() =", 1, 3, "{4} {5}");
        guarded(text, "v() =", 1, 2, "{4} {5}");
        guarded(text, "w() =", 1, 3, "{4} {5}");
    }

    // Section 4: BELOW "of a thread's first the one that spawned it, as it was then; of the first none".
    private static void belowThreads() {
        String text = THREE + "module a /a { sp() = spawn fun() { able r /x }; sp2() = wait self.sp(); } module b /b { n() = wait new a.sp(); p() = priv wait new a.sp(); o() = new a.sp2(); }"
            + " module c /c { q() = wait new a.sp(); r() = wait spawn fun() { able w /x }; }";
        guarded(text, "sp2() =", 1, 3, "{1}");
        guarded(text, "n() =", 0, 3, "{2} {3}");
        guarded(text, "p() =", 0, 3, "{2} {3}");
        guarded(text, "q() =", 1, 3, "{4} {5}");
        guarded(text, "r() =", 1, 2, "{4}");
    }

    // Section 4: "(as BELOW stays, also behind their end)": the spawner and the frames of a CONTEXT have ended when it is asked for.
    private static void belowStaysAsItWas() {
        String text = THREE + "module a /a { field f; keep() = { self.f := ctx; 1 }; late() = spawn fun() { out 1; out able r /x }; use() = under self.f : able r /x; }"
            + " module b /b { k(o) = o.keep(); j() = new a.late(); } module c /c { x() = let o = new a in { new b.k(o); o.use() }; y() = let t = new b.j() in { out 2; wait t }; z() = let t = new a.late() in { out 2; wait t }; }";
        guarded(text, "x() =", 0, 3, "{4} {6} {7}");
        guarded(text, "y() =", 0, 3, "{4} {6} {7}");
        guarded(text, "z() =", 1, 3, "{4} {5}");
    }

    // Section 4, with 60 frames in each of 8 threads: 480 lead to where it is asked for, all of them looked at.
    private static void deepestWalk() {
        String text = "grant /a { r /x; } module a /a { main() = self.d(58, 7); d(n, t) = if n == 0 then { if t == 0 then able r /x else wait spawn fun() { self.d(58, t - 1) } } else self.d(n - 1, t); }";
        guarded(text, "main() =", 1, 480, "{1}");
        WardenHouse house = Trial.house(text.replace("/a { r", "/b { r"));
        Trial.due("run", Trial.run(house, 0, 0, 480, false), 0);
        Trial.due("value", house.thread(0, 1) + " " + house.result(6) + " " + house.result(1) + " " + house.result(4) + " " + house.result(2), "0 1 480 60 8");
        Trial.due("one STEP too few", Trial.run(house, 0, 0, 479, false), 2);
    }

    // Section 5: the run's first frame has MEET of ALL, "the one empty PRODUCT"; OWN is "d alone".
    private static void firstContexts() {
        guarded("module a /a { main() = able r /x; }", "main() =", 0, 1, "{1}");
        guarded("module a /a { main() = priv able r /x; }", "main() =", 0, 1, "{1}");
        // Put to the one PRODUCT { d }, LIMITED's { l, d } has all of it, so it goes.
        guarded("module a /a { main() = priv [r /x] able r /x; }", "main() =", 0, 1, "{1}");
        guarded("grant /a { r /x; } module z /z { } module a /a { main() = under ctx : able r /x; }", "main() =", 1, 2, "{2}");
    }

    // Section 5: with 12 LIMITS one context has 13 PRODUCTS, "by rising numbers" (promise 18), up to bit 19.
    private static void mostProducts() {
        StringBuilder privs = new StringBuilder();
        for (int l = 0; l < 12; l++) {
            privs.append("priv [r /p").append(l).append("] ");
        }
        String text = "grant /a { r /-; } module a /a { t() = " + privs + "{ out able r /p0; out able r /p11; able r /x }; } module b /b { main() = new a.t(); }";
        WardenHouse house = Trial.house(text);
        int u = Trial.unitAt(house, text, "main() =");
        Trial.due("run", Trial.run(house, u, 0, 100, false), 0);
        Trial.due("events", Trial.events(house) + ", " + house.thread(0, 1) + " " + house.result(6), "0:0:1 0:0:1, 0 " + (12 + 1 + 14));
        Trial.due("run", Trial.run(house, u, 0, 100, true), 0);
        Trial.due("events", Trial.events(house) + ", " + house.thread(0, 1), "0:0:1 0:0:1, 0");
        Trial.due("result(7)", house.result(7), 14);
        Trial.due("main and t", house.context(0, -1) + " " + house.context(0, 0) + " " + house.context(1, -1) + " " + house.context(1, 0), "1 2 1 3");
        for (int k = 2; k < 14; k++) {
            Trial.due("PRODUCTS of " + k, house.context(k, -1), k);
            Trial.due("the first", house.context(k, 0), 3);
            for (int i = 1; i < k; i++) {
                Trial.due("PRODUCT " + i + " of " + k, house.context(k, i), 1 | 1 << 7 + i);
            }
            Trial.due("one more", house.context(k, k), -1);
        }
        Trial.due("the last of all", house.context(13, 12), 1 | 1 << 19);
        // Once more by each of the LIMITS: each { l, d } that is there already goes.
        text = text.replace("out able r /p0", "if n == 0 then 0 else self.t(n - 1); out able r /p0").replace("t() =", "t(n) =").replace("a.t()", "a.t(1)");
        house = Trial.house(text);
        Trial.due("run", Trial.run(house, Trial.unitAt(house, text, "main() ="), 0, 100, true), 0);
        Trial.due("result(7)", house.result(7), 14);
    }

    // Promise 18: "bits 0 .. 7 for DOMAINS": eight modules lead to one another.
    private static void everyDomainInOneProduct() {
        StringBuilder text = new StringBuilder(Trial.numbered("grant /s% { r /x; } ", "", 7)).append("module m0 /s0 { go() = able r /x; }");
        for (int m = 1; m < 8; m++) {
            text.append(" module m").append(m).append(" /s").append(m).append(" { go() = new m").append(m - 1).append(".go(); }");
        }
        for (int m = 0; m < 8; m++) {
            String due = "";
            int bits = 0;
            for (int d = m; d >= 0; d--) {
                bits |= 1 << d;
                due += (due.isEmpty() ? "{" : " {") + bits + "}";
            }
            WardenHouse house = Trial.house(text.toString());
            Trial.due("run", Trial.run(house, m, 0, 100, true), 0);
            Trial.due("contexts of m" + m, Trial.contexts(house), due);
            // The eighth DOMAIN has it not.
            Trial.due("able from m" + m, house.thread(0, 1), m < 7 ? 1 : 0);
            Trial.due("run", Trial.run(house, m, 0, 100, false), 0);
            Trial.due("able from m" + m, house.thread(0, 1) + " " + house.result(6), (m < 7 ? 1 : 0) + " " + (m + 1));
        }
    }

    // Section 5: "(reduced each time: a PRODUCT that has all of another one goes)", by MEET, LIMITED and BOTH.
    private static void productsThatGo() {
        String text = "grant /a { r /-; } module a /a { l() = priv [r /x] self.m(); m() = able r /x; u(c) = under c : able r /x; k() = priv [r /x] ctx; v() = able r /x; }"
            + " module b /b : a { m() = able r /x; n() = self.l(); o() = new a.l(); p() = self.u(self.k()); q() = let c = self.k() in under c : able r /x; }";
        // l's priv: {3 257}; m of b puts 2 into each: 3 and 259, which has all of 3.
        guarded(text, "n() =", 0, 1, "{2} {3} {3 257}");
        // m of a leaves both.
        guarded(text, "o() =", 1, 2, "{2} {3} {3 257}");
        // under in a of the CONTEXT of k's priv.
        guarded(text, "p() =", 1, 2, "{2} {3} {3 513}");
        // under in b of it: BOTH puts 2 into each.
        guarded(text, "q() =", 0, 1, "{2} {3} {3 513}");
    }

    // Section 5: "{ l } put to those of c": with 13 in c, the 14th is that which stays, as the one with l and c's DOMAINS has all of it.
    private static void fourteenProductsReduced() {
        StringBuilder privs = new StringBuilder();
        for (int l = 0; l < 12; l++) {
            privs.append("priv [r /p").append(l).append("] ");
        }
        String text = "grant /a { r /-; } grant /c { r /x; } module a /a { t(n, o) = " + privs + "(if n == 0 then able r /x else o.go(n - 1, o)); }"
            + " module c /c { go(n, o) = new a.t(n, o); } module b /b { main() = let o = new c in o.go(1, o); }";
        WardenHouse house = Trial.house(text);
        int u = Trial.unitAt(house, text, "main() =");
        Trial.due("run", Trial.run(house, u, 0, 100, true), 0);
        // DOMAINS: a is 0, c 1, b 2. b; b and c; a, b and c; then 12 with LIMITS; c's go again puts 1 into each; then the LIMITS again.
        StringBuilder due = new StringBuilder("{4} {6} {7}");
        int[] products = new int[13];
        products[0] = 7;
        for (int l = 0; l < 12; l++) {
            products[l + 1] = 1 | 1 << 8 + l;
            due.append(" {").append(joined(products, l + 2)).append('}');
        }
        for (int l = 0; l < 12; l++) {
            products[l + 1] |= 2;
        }
        due.append(" {").append(joined(products, 13)).append('}');
        for (int l = 0; l < 12; l++) {
            products[l + 1] = 1 | 1 << 8 + l;
            if (l < 11) {
                due.append(" {").append(joined(products, 13)).append('}');
            }
        }
        Trial.due("contexts", Trial.contexts(house), due.toString());
        Trial.due("value", house.thread(0, 1), 0);
        Trial.due("run", Trial.run(house, u, 0, 100, false), 0);
        Trial.due("value", house.thread(0, 1), 0);
    }

    private static String joined(int[] numbers, int n) {
        StringBuilder all = new StringBuilder();
        for (int i = 0; i < n; i++) {
            all.append(i > 0 ? " " : "").append(numbers[i]);
        }
        return all.toString();
    }

    // Sections 4 and 5: LIMIT, own DOMAIN and what is BELOW, each having it or not, and both ways telling the same.
    private static void limitsAndDomainsAgree() {
        for (int bits = 0; bits < 8; bits++) {
            boolean limit = (bits & 1) != 0;
            boolean own = (bits & 2) != 0;
            boolean below = (bits & 4) != 0;
            String text = "grant /a { " + (own ? "r /x; " : "") + "} grant /b { " + (below ? "r /x; " : "") + "} module a /a { t() = priv [r " + (limit ? "/x" : "/y") + "] able r /x; }"
                + " module b /b { main() = new a.t(); }";
            guarded(text, "main() =", own && (limit || below) ? 1 : 0, !own ? 1 : limit ? 1 : 3, "{2} {3} {3 257}");
        }
    }

    // Promise 15: "7 different CONTEXTS that were made": none where no UNIT NEEDS, whatever frames begin.
    private static void noContextWithoutNeed() {
        WardenHouse house = Trial.house("module m /a { a() = { self.b(); priv 1; priv [r /x] 2; fun() { 1 }(); spawn fun() { 3 }; try under none : 1 catch e : e }; b() = 1; }");
        Trial.due("run", Trial.run(house, 0, 0, 100, true), 0);
        Trial.due("results", Trial.results(house), "0 6 2 0 2 3 0 0");
        Trial.due("count(6)", house.count(6), 0);
        Trial.due("context(0, NONE)", house.context(0, -1), -1);
        // A UNIT that NEEDS, and is not come to, makes none.
        house = Trial.house("module m /a { a() = 1; b() = ctx; }");
        Trial.due("run", Trial.run(house, 0, 0, 100, true), 0);
        Trial.due("result(7)", house.result(7) + " " + house.count(6), "0 1");
        Trial.due("run", Trial.run(house, 1, 0, 100, true), 0);
        Trial.due("result(7)", house.result(7), 1);
    }

    // Promise 6: "6 UNITS that NEED a context", from none to all 60; section 5: "the least that is so".
    private static void allUnitsNeed() {
        String text = "module m /a { a(x) = self.a(x)" + Trial.times(" + priv 1", 58) + "; b() = @; }";
        Trial.due("none of 60", Trial.house(text.replace("@", "self.a(1)")).count(6), 0);
        text = "module m /a { a(x) = self.a(x)" + Trial.times(" + priv self.b()", 58) + "; b() = @; }";
        Trial.due("none of 60", Trial.house(text.replace("@", "self.a(1)")).count(6), 0);
        // A chain of 60 METHODs' SENDs, told from the last to the first.
        StringBuilder chain = new StringBuilder();
        for (int m = 0; m < 5; m++) {
            chain.append(" module m").append(m).append(" /a {");
            for (int k = 0; k < 12; k++) {
                int n = m * 12 + k;
                chain.append(" a").append(n).append("() = ").append(n < 59 ? "1.a" + (n + 1) + "()" : "@").append(";");
            }
            chain.append(" }");
        }
        WardenHouse house = Trial.house(chain.toString().replace("@", "ctx"));
        Trial.due("60 of 60", house.count(6) + " " + house.unit(0, 6) + " " + house.unit(59, 6), "60 1 1");
        house = Trial.house(chain.toString().replace("@", "1.a0()"));
        Trial.due("a ring without one", house.count(6), 0);
        house = Trial.house(chain.toString().replace("@", "1.a0(1)"));
        Trial.due("another number of parameters", house.count(6), 0);
        // priv hands none on, priv [ ] does: so does what is around it.
        Trial.due("priv", Trial.house("module m /a { a() = priv priv priv ctx; }").count(6), 1);
        Trial.due("priv [ ]", Trial.house("module m /a { a() = priv [r /x] priv [r /x] priv [r /x] ctx; }").count(6), 4);
        Trial.due("under", Trial.house("module m /a { a() = under none : under none : able r /x; }").count(6), 1);
    }

    // Promise 18: "i NONE: how many PRODUCTS it has. NONE if there is none such."
    private static void contextCalls() {
        WardenHouse house = Trial.house("grant /a { r /x; } module a /a { t() = priv [r /x] able r /x; } module b /b { main() = new a.t(); w() = 1; }");
        Trial.due("without a run", house.context(0, -1) + " " + house.context(0, 0), "-1 -1");
        Trial.due("run", Trial.run(house, 2, 0, 100, true), 0);
        Trial.due("contexts", Trial.contexts(house), "{2} {3} {3 257}");
        for (int k : new int[] {-1, -2, 3, 4, Integer.MIN_VALUE, Integer.MAX_VALUE}) {
            for (int i = -2; i < 3; i++) {
                Trial.due("context(" + k + ", " + i + ")", house.context(k, i), -1);
            }
        }
        for (int i : new int[] {2, 3, -2, -3, Integer.MIN_VALUE, Integer.MAX_VALUE}) {
            Trial.due("context(2, " + i + ")", house.context(2, i), -1);
            Trial.due("context(0, " + i + ")", house.context(0, i), -1);
        }
        Trial.due("context(0, 1) is not the next one's", house.context(0, 1) + " " + house.context(1, 1), "-1 -1");
        // Of the latest run alone: one that WALKS, one that makes none, one that is cut.
        Trial.due("run", Trial.run(house, 2, 0, 2, true), 2);
        Trial.due("contexts up to a CUT", Trial.contexts(house), "{2} {3}");
        Trial.due("run", Trial.run(house, 3, 0, 100, true), 0);
        Trial.due("contexts", Trial.contexts(house) + house.result(7), "0");
        Trial.due("run", Trial.run(house, 2, 0, 100, false), 0);
        Trial.due("contexts", Trial.contexts(house) + house.result(7), "0");
    }

    // m is of a, which has r /x; n is of b, which has not.
    private static void may(String own, String other, String due) {
        WardenHouse house = Trial.house("grant /a { r /x; } module m /a { " + own + " } module n /b { " + other + " }");
        Trial.due("asks", Trial.asks(house, "r /x"), true);
        Trial.due("may of " + own + " / " + other, Trial.mays(house), due);
    }

    // Section 6: from a UNIT with yes, with no, and with both, to each sort of UNIT in a DOMAIN that has it and one that has not.
    private static void mayOfEachSort() {
        String own = "@ g(v) = { 1.h(1); 1(1); priv 1; priv [r /x] 1; priv [r /y] 1; under ctx : 1 }; h(v) = 1; f() = fun(v) { 1 };";
        String other = "# g(v) = { 1.h(1); 1(1); priv 1; priv [r /x] 1; priv [r /y] 1; under ctx : 1 }; h(v) = 1; f() = fun(v) { 1 };";
        // a of m alone leads to g: yes to m's, no to n's (whose SEND leads to h with no, too).
        may(own.replace("@", "a() = 1.g(1);"), other.replace("#", "b() = 1;"), "1 1 1 1 1 3 3 1 3 2 2 2 2 2 2 2 2 2");
        may(own.replace("@", "a() = 1;"), other.replace("#", "b() = 1.g(1);"), "1 2 1 1 2 2 2 1 2 2 2 2 2 2 2 2 2 2");
        may(own.replace("@", "a() = 1.g(1);"), other.replace("#", "b() = 1.g(1);"), "1 3 1 1 3 3 3 1 3 2 2 2 2 2 2 2 2 2");
        may(own.replace("@", "a() = 1;"), other.replace("#", "b() = 1;"), "1 0 0 0 0 0 0 1 0 2 0 0 0 0 0 0 2 0");
    }

    // Section 6, promise 13: "0 if no run comes to it"; "in the least way": a ring that none leads into.
    private static void mayOfNoRun() {
        may("a(v) = 1.b(v); b(v) = 1.a(v);", "c() = 1;", "0 0 2");
        may("a(v) = 1.a(v); b() = 1.a(1, 2);", "c() = 1;", "0 1 2");
        may("a() = fun() { 1 };", "", "1 0");
        may("a() = fun() { 1 }; b() = spawn none;", "", "1 1 1");
        may("a() = fun(v) { 1 }; b() = spawn none;", "", "1 0 1");
        may("a() = under none : 1;", "", "1 0");
        may("a(v) = ctx; b() = under none : 1;", "", "0 1 0");
        may("a() = ctx; b() = under none : 1;", "c() = under none : 1;", "1 1 1 2 2");
        // ctx in a UNIT within is of that UNIT: it must be come to.
        may("a() = fun(v) { ctx }; b() = under none : 1;", "", "1 0 1 0");
        may("a() = priv ctx; b() = under none : 1;", "", "1 1 1 1");
    }

    // Section 6: yes goes from the last UNIT through all to the first, whose DOMAIN has it not, and no all the way once more.
    private static void mayTheLongestWay() {
        StringBuilder text = new StringBuilder("grant /a { r /x; } module m0 /b { a0(v) = none.a58(1); }");
        for (int k = 1; k < 59; k++) {
            text.append(k % 12 == 1 ? " module m" + (k / 12 + 1) + " /a {" : "").append(" a").append(k).append("(v) = none.a").append(k - 1).append("(1);").append(k % 12 == 0 ? " }" : "");
        }
        WardenHouse house = Trial.house(text + " start() = none.a58(1); }");
        Trial.due("UNITS", house.count(0), 60);
        Trial.asks(house, "r /x");
        Trial.due("mays", Trial.mays(house), "2" + Trial.times(" 3", 58) + " 1");
        // Without the one that leads back there is yes alone.
        house = Trial.house(text.toString().replace("a0(v) = none.a58(1)", "a0(v) = none.a58()") + " start() = none.a58(1); }");
        Trial.asks(house, "r /x");
        Trial.due("mays", Trial.mays(house), "2" + Trial.times(" 1", 59));
    }

    // Promise 13: "NONE without it, or if nothing is ASKED yet".
    private static void mayCalls() {
        WardenHouse house = Trial.house("grant /a { r /x; } module m /a { a() = 1" + Trial.times(" + priv 1", 59) + "; }");
        Trial.due("nothing is ASKED", house.may(0) + " " + house.may(60), "-1 -1");
        Trial.due("asks", Trial.asks(house, "r /x"), true);
        for (int u = 0; u < 60; u++) {
            Trial.due("may(" + u + ")", house.may(u), 1);
        }
        for (int u : new int[] {60, 61, -1, -2, Integer.MIN_VALUE, Integer.MAX_VALUE}) {
            Trial.due("may(" + u + ")", house.may(u), -1);
        }
        Trial.feed(house, "module m /a { }");
        Trial.due("program", Trial.program(house), 0);
        Trial.due("may(0) of no UNITS", house.may(0), -1);
        house = new WardenHouse();
        Trial.due("asks", Trial.asks(house, "r /x"), true);
        Trial.due("may(0) without a program", house.may(0), -1);
    }
}

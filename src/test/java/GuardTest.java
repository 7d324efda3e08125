import java.util.HashSet;
import java.util.Set;

/** Promises 15 and 18, over sections 4 and 5: what is granted, frames looked at, contexts. */
public final class GuardTest {
    private static final String HOUSE =
        "grant /a { r /x; w /y; } grant /b { r /x; }"
        + " module lib /a { field kept; get() = check r /x; lim() = priv [r /x] check r /x; lim2() = priv [w /y] check r /x;"
        + " own() = priv check r /x; use(c) = under c : check r /x; sp() = spawn fun() { check r /x };"
        + " deep(n) = if n == 0 then check r /x else priv [r /x] self.deep(n - 1); }"
        + " module app /c { a() = new lib.get(); b() = new lib.lim(); c() = new lib.lim2(); d() = new lib.own();"
        + " e() = new lib.deep(2); f() = new lib.use(ctx); g() = wait new lib.sp(); h() = wait spawn fun() { new lib.get() };"
        + " i(o) = check r /x; j() = priv new lib.get(); }"
        + " module mid /b { m() = new lib.use(ctx); n() = wait new lib.sp(); o() = new lib.get();"
        + " p() = { new app.i(self); 1 }; q() = new lib.use(new lib.use1()); }";

    public static void main(String[] args) {
        guarded("a", "0:1:0@0 0:2:1", 2, "{2} {3}");
        guarded("b", "0:1:1@1", 1, "{2} {3} {3 257}");
        guarded("c", "0:1:0@2 0:2:1", 3, "{2} {3} {3 513}");
        guarded("d", "0:1:1@3", 1, "{1}");
        guarded("e", "0:1:1@6", 2, "{2} {3} {3 1025}");
        guarded("f", "0:1:0@4 0:2:1", 2, "{2} {3}");
        guarded("g", "1:1:0@5 1:2:1 0:2:1", 3, "{2} {3}");
        guarded("h", "1:1:0@0 1:2:1 0:2:1", 2, "{2} {3}");
        guarded("j", "0:1:0@0 0:2:1", 2, "{2} {3}");
        guarded("m", "0:1:1@4", 2, "{4} {5}");
        guarded("n", "1:1:1@5", 3, "{4} {5}");
        guarded("o", "0:1:1@0", 2, "{4} {5}");
        guarded("p", "0:1:0@7 0:2:1", 1, "{4} {6}");
        guarded("q", "0:2:2", 0, "");
        belowStays();
        products();
        manyContexts();
        without();
        agreement();
        Trial.end();
    }

    private static void guarded(String method, String events, int looked, String contexts) {
        WardenHouse house = Trial.house(HOUSE);
        int u = 0;
        while (u < house.count(0) && house.unit(u, 2) != HOUSE.indexOf(" " + method + "() = ", HOUSE.indexOf("module app")) + 1) {
            u++;
        }
        Trial.due(method, house.run(u, 0, 100, false), 0);
        Trial.due("events of " + method, Trial.events(house), events);
        Trial.due("looked at in " + method, house.result(6), looked);
        Trial.due("contexts of a walk", house.result(7), 0);
        Trial.due("contexts of a walk", Trial.contexts(house), "");
        Trial.due(method, house.run(u, 0, 100, true), 0);
        Trial.due("rewritten events of " + method, Trial.events(house), events);
        Trial.due("looked at rewritten", house.result(6), 0);
        Trial.due("contexts of " + method, Trial.contexts(house), contexts);
        Trial.due("result(7)", house.result(7), contexts.isEmpty() ? 0 : contexts.split("\\{").length - 1);
    }

    // A CONTEXT leads through frames that have ended, and a thread through those of its spawner.
    private static void belowStays() {
        String text = "grant /a { r /-; } grant /b { r /x; } module a /a { field f; keep() = self.f := ctx; try1() = under self.f : able r /y;"
            + " look() = able r /y; } module b /b { main(o) = o.keep(); } module c /a { all() = let o = new a in"
            + " { o.keep(); out o.try1(); new b.main(o); out o.try1(); out o.look(); out under o.f : able r /x }; }";
        WardenHouse house = Trial.house(text);
        int all = -1;
        for (int u = 0; u < house.count(0); u++) {
            all = house.unit(u, 2) == text.indexOf("all()") ? u : all;
        }
        Trial.due("run", house.run(all, 0, 100, false), 0);
        Trial.due("events", Trial.events(house), "0:0:1 0:0:0 0:0:1 0:0:1");
        // under, keep, all; under, keep, main; look, all; under, keep, main, all.
        Trial.due("looked at", house.result(6), 3 + 3 + 2 + 4);
        Trial.due("run", house.run(all, 0, 100, true), 0);
        Trial.due("events", Trial.events(house), "0:0:1 0:0:0 0:0:1 0:0:1");
        Trial.due("contexts", Trial.contexts(house), "{1} {3}");
    }

    // Products come with LIMITS, and go when another one is within them.
    private static void products() {
        String text = "grant /a { r /-; } module m /a { a() = priv [r /x] self.d(); d() = priv [r /y] self.e(); e() = able r /z;"
            + " t() = priv [r /p] priv [r /q] priv [r /s] able r /q; }"
            + " module n /b : m { d() = priv [r /z] self.e(); e() = able r /z; g() = self.a(); h() = new m.t(); }";
        WardenHouse house = Trial.house(text);
        Trial.due("a", house.run(0, 0, 100, true), 0);
        Trial.due("contexts of a", Trial.contexts(house), "{1}");
        int h = house.count(0) - 1;
        Trial.due("g", house.run(h - 1, 0, 100, true), 0);
        // g: n; a: n and m; its priv: or LIMIT 0; d: n puts the latter out again; its priv: or LIMIT 5.
        Trial.due("contexts of g", Trial.contexts(house), "{2} {3} {3 257} {3 8194}");
        Trial.due("result(7)", house.result(7), 4);
        Trial.due("context(3, NONE)", house.context(3, -1), 2);
        Trial.due("context(3, 1)", house.context(3, 1), 8194);
        Trial.due("context(3, 2)", house.context(3, 2), -1);
        Trial.due("h", house.run(h, 0, 100, true), 0);
        Trial.due("contexts of h", Trial.contexts(house), "{2} {3} {3 1025} {3 1025 2049} {3 1025 2049 4097}");
        Trial.due("value of h", house.thread(0, 1), 1);
        Trial.due("h", house.run(h, 0, 100, false), 0);
        Trial.due("value of h", house.thread(0, 1), 1);
        Trial.due("looked at", house.result(6), 2);
    }

    // Four modules lead to one another as numbers fall: each context is kept once, as it was first made.
    private static void manyContexts() {
        String go = "{ go(h, n, s) = if n < 1 then able r /x + 2 * able r /y else priv [r %] h.pick(s * 7 + #).go(h, n - 1, s * 7 + #); } ";
        String text = "grant /b { r /-; } grant /g { r /x; } grant /c { r /-; r /*; r /z; } grant /f { } grant /* { r /*; r /y; }"
            + " module hub /h { field a; field b; field c; field d; pick(s) = if s < 0 - 1176750740 then self.a else"
            + " if s < 0 - 138382602 then self.b else if s < 1557950220 then self.c else self.d; }"
            + " module m0 /c " + go.replace("[r %]", "[r /x] priv [r /w]").replace("7", "214013").replace("#", "6523")
            + "module m1 /g " + go.replace("%", "/y").replace("7", "214013").replace("#", "19892")
            + "module m2 /e " + go.replace("%", "/z").replace("7", "1103515245").replace("#", "71064")
            + "module m3 /f " + go.replace("%", "/z").replace("7", "1103515245").replace("#", "3784")
            + "module z /b { main() = let h = new hub in { h.a := new m0; h.b := new m1; h.c := new m2; h.d := new m3;"
            + " out h.a.go(h, 17, 1024358570); out h.a.go(h, 19, 1132862007); out h.a.go(h, 8, 1174837943);"
            + " out h.a.go(h, 17, 608817574); out h.a.go(h, 16, 1598194479) }; }";
        WardenHouse house = Trial.house(text);
        int main = house.count(0) - 1;
        Trial.due("run", house.run(main, 0, 4000, false), 0);
        String events = Trial.events(house);
        // A run cut short ahead of it leaves none of its contexts.
        Trial.due("run", house.run(main, 0, 99, true), 2);
        Trial.due("run", house.run(main, 0, 4000, true), 0);
        Trial.due("events", Trial.events(house), events);
        Trial.due("contexts", house.result(7), 93);
        Set<String> all = new HashSet<>();
        int hash = 0;
        for (int k = 0; k < house.result(7); k++) {
            String one = "";
            for (int i = 0; i < house.context(k, -1); i++) {
                int product = house.context(k, i);
                one += product + " ";
                hash = hash * 31 + product;
                for (int j = 0; j < i; j++) {
                    Trial.due("rising", house.context(k, j) < product, true);
                    Trial.due("one within another", (house.context(k, j) & ~product) == 0, false);
                }
            }
            Trial.due("a new one", all.add(one), true);
        }
        Trial.due("all products", hash, -1151810117);
    }

    private static void without() {
        WardenHouse house = Trial.house("module m /a { a() = able r /x; }");
        Trial.due("ahead of a run", house.context(0, -1), -1);
        house.run(0, 0, 10, true);
        Trial.due("context(0, NONE)", house.context(0, -1), 1);
        Trial.due("context(0, 0)", house.context(0, 0), 1);
        Trial.due("context(0, 1)", house.context(0, 1), -1);
        Trial.due("context(0, -2)", house.context(0, -2), -1);
        Trial.due("context(1, NONE)", house.context(1, -1), -1);
        Trial.due("context(-1, NONE)", house.context(-1, -1), -1);
        Trial.due("context(-1, 0)", house.context(-1, 0), -1);
        house.run(0, 0, 10, false);
        Trial.due("context of a walk", house.context(0, -1), -1);
        Trial.due("context of a walk", house.context(0, 0), -1);
    }

    // Both ways write the same, whatever the order of threads.
    private static void agreement() {
        String text = "grant /a/- { r /-; w /x; } grant /a/b { w /-; } grant /c { r /x; r /y/*; }"
            + " module base /a/b { field c; field g; go(n) = if n < 1 then able r /x + 2 * able w /y + 4 * able r /y [n + 3]"
            + " else priv [r /x, w /-] self.on(n - 1); on(n) = { self.c := ctx; try under self.c : self.go(n - 1) catch e : out e };"
            + " main() = { self.g := fun(n) { out self.go(n) }; spawn fun() { (self.g)(3) }; wait spawn fun() { check w /y; (self.g)(2) };"
            + " out self.go(4) }; }"
            + " module mid /c : base { on(n) = priv { self.c := ctx; out self.go(n) }; go(n) = if n < 1 then { check r /x; able w /y } else"
            + " under ctx : self.on(n - 1); alt() = { self.main(); new base.main() }; }"
            + " module far /d : mid { on(n) = wait spawn fun() { try self.go(n) catch e : out (e + 100) }; }";
        WardenHouse house = Trial.house(text);
        int runs = 0;
        for (int u = 0; u < house.count(0); u++) {
            for (int seed = -20; seed <= 20 && house.unit(u, 0) == 0 && house.unit(u, 3) == 0; seed++) {
                int steps = seed % 3 == 0 ? 20 : 4000;
                int walked = house.run(u, seed * 7919, steps, false);
                String events = Trial.events(house);
                int took = house.result(1);
                Trial.due("end", house.run(u, seed * 7919, steps, true), walked);
                Trial.due("events of both ways", Trial.events(house), events);
                Trial.due("steps of both ways", house.result(1), took);
                runs++;
            }
        }
        Trial.due("runs", runs, 82);
    }
}

/** Promise 14: run, over the values and failures of section 3. */
public final class RunTest {
    public static void main(String[] args) {
        refusals();
        ints();
        sameness();
        choices();
        fields();
        sends();
        applies();
        threads();
        askings();
        frames();
        things();
        cuts();
        Trial.end();
    }

    // 1 IllegalStateException, 2 IllegalArgumentException, 0 nothing.
    private static int thrown(WardenHouse house, int u, int steps, boolean rewritten) {
        try {
            house.run(u, 0, steps, rewritten);
        } catch (IllegalStateException e) {
            return 1;
        } catch (IllegalArgumentException e) {
            return 2;
        }
        return 0;
    }

    private static void refusals() {
        WardenHouse house = new WardenHouse();
        Trial.due("run without a program", thrown(house, 0, 10, false), 1);
        Trial.due("run without a program", thrown(house, -1, 0, true), 1);
        Trial.feed(house, "module m /a { a() = fun() { priv under ctx : 1 }; b(x) = 1; c() = 7; }");
        Trial.due("program", house.program(), 6);
        Trial.due("run of a METHOD", thrown(house, 0, 1, false), 0);
        Trial.due("run of a METHOD", thrown(house, 5, 4000, true), 0);
        for (int u = 1; u < 5; u++) {
            Trial.due("run of unit " + u, thrown(house, u, 10, false), 2);
        }
        Trial.due("run of no unit", thrown(house, 6, 10, false), 2);
        Trial.due("run of no unit", thrown(house, -1, 10, false), 2);
        Trial.due("run of 0 steps", thrown(house, 0, 0, false), 2);
        Trial.due("run of -1 steps", thrown(house, 0, -1, true), 2);
        Trial.due("run of 4001 steps", thrown(house, 0, 4001, true), 2);
        Trial.due("the latest run stays", house.thread(0, 1), 7);
        Trial.feed(house, "module");
        try {
            house.program();
            Trial.due("program throws", 0, 1);
        } catch (IllegalArgumentException e) {
            Trial.due("run behind a fault", thrown(house, 0, 10, false), 1);
        }
    }

    /** The value of a METHOD as "int sort", or "fails n"; m has the field f, n above it the field g. */
    private static void gives(String e, String due) {
        String text = "grant /a { r /x; } module n /b { field g; up() = 70; over() = 71; }"
            + " module m /a : n { field f; over() = 72; two(x, y) = x * 10 + y; self1() = self; main() = " + e + "; }";
        WardenHouse house = Trial.house(text);
        int u = 0;
        while (house.unit(u, 2) != text.indexOf("main()")) {
            u++;
        }
        for (int turn = 0; turn < 2; turn++) {
            house.run(u, 0, 4000, turn == 1);
            String got = house.thread(0, 0) == 2 ? "fails " + house.thread(0, 1) : house.thread(0, 1) + " " + house.thread(0, 2);
            Trial.due(e + (turn == 1 ? ", rewritten" : ""), got, due);
        }
    }

    private static void ints() {
        gives("2147483647 + 1", "-2147483648 0");
        gives("2147483647 * 3", "2147483645 0");
        gives("0 - 2147483647 - 2", "2147483647 0");
        gives("10 - 3 - 4", "3 0");
        gives("2 + 3 * 4 - 1", "13 0");
        gives("1 < 2", "1 0");
        gives("2 < 2", "0 0");
        gives("0 - 1 < 0", "1 0");
        gives("none + 1", "fails 5");
        gives("1 - self", "fails 5");
        gives("ctx * 1", "fails 5");
        gives("fun() { 1 } < 1", "fails 5");
        gives("(fail 7) + none", "fails 7");
        gives("none + fail 7", "fails 7");
        gives("none", "0 1");
        gives("self", "0 2");
        gives("fun() { 1 }", "0 3");
        gives("ctx", "0 4");
        gives("{ 1; 2; 3 }", "3 0");
    }

    private static void sameness() {
        gives("3 == 3", "1 0");
        gives("3 == 4", "0 0");
        gives("none == none", "1 0");
        gives("none == 0", "0 0");
        gives("0 == self", "0 0");
        gives("self == self.self1()", "1 0");
        gives("new m == new m", "0 0");
        gives("let x = new n in x == x", "1 0");
        gives("ctx == 1", "fails 5");
        gives("none == ctx", "fails 5");
        gives("let x = fun() { 1 } in x == x", "fails 5");
    }

    private static void choices() {
        gives("if 2 then 3 else 4", "3 0");
        gives("if 0 then 3 else 4", "4 0");
        gives("if none then 3 else 4", "fails 5");
        gives("if self then 3 else 4", "fails 5");
        gives("try fail (0 - 9) catch e : e + 1", "-8 0");
        gives("try 1 catch e : 2", "1 0");
        gives("try none + 1 catch e : e * 10", "50 0");
        gives("try try fail 3 catch e : fail (e + 1) catch e : e * 10", "40 0");
        gives("1 + (try 2 + fail 3 catch e : e)", "4 0");
        gives("try fun() { 5 + self.two(1, fail 8) }() catch e : e", "8 0");
        gives("fail none", "fails 5");
        gives("fail 44", "fails 44");
        gives("out none", "fails 5");
        gives("out 6", "6 0");
        gives("let x = 1 in let x = x + 1 in x", "2 0");
        gives("let x = 1 in (let x = 5 in x) + x", "6 0");
        gives("try let y = 4 in fail y catch y : y + 1", "5 0");
    }

    private static void fields() {
        gives("self.f", "0 1");
        gives("self.g", "0 1");
        gives("self.f := 5", "5 0");
        gives("{ self.g := 5; self.f := 6; self.g * 10 + self.f }", "56 0");
        gives("{ self.f := self; self.f.f.f.g := 3; self.g }", "3 0");
        gives("let o = new m in { o.f := 3; self.f }", "0 1");
        gives("1.f", "fails 3");
        gives("none.f", "fails 3");
        gives("ctx.f := 1", "fails 3");
        gives("self.h", "fails 2");
        gives("self.h := 1", "fails 2");
        gives("new n.f", "fails 2");
        gives("1.f := fail 9", "fails 9");
        gives("self.h := fail 9", "fails 9");
        gives("self.f := self.g := 8", "8 0");
    }

    private static void sends() {
        gives("self.two(3, 4)", "34 0");
        gives("self.over()", "72 0");
        gives("new n.over()", "71 0");
        gives("self.up()", "70 0");
        gives("self.two(3)", "fails 2");
        gives("self.nowhere()", "fails 2");
        gives("new n.two(1, 2)", "fails 2");
        gives("1.two(1, 2)", "fails 3");
        gives("1.two(1, fail 9)", "fails 9");
        gives("(fail 8).two(1, fail 9)", "fails 8");
        gives("{ self.f := 1; self.f := self.two(self.f, self.f := 2) }", "12 0");
    }

    private static void applies() {
        gives("fun(x, y) { x - y }(5, 3)", "2 0");
        gives("fun(x) { x }()", "fails 4");
        gives("fun() { 1 }(2)", "fails 4");
        gives("1(2)", "fails 3");
        gives("self()", "fails 3");
        gives("1(fail 9)", "fails 9");
        gives("let x = 1 in let f = fun() { x } in let x = 2 in f() * 10 + x", "12 0");
        gives("let add = fun(x) { fun(y) { x + y } } in add(3)(4)", "7 0");
        gives("{ self.f := fun(x) { x + 1 }; (self.f)(3) }", "4 0");
        gives("let x = 3 in priv [r /x] { let y = x in y + self.two(1, 1) }", "14 0");
        gives("let x = 3 in under ctx : x + 1", "4 0");
        gives("under none : 1", "fails 3");
        gives("under fail 4 : 1", "fails 4");
        gives("1 + priv 2 * 3", "7 0");
        // What a frame, a ROW or a try leaves behind it is its value alone.
        gives("20 - { 1; 2; 6 }", "14 0");
        gives("20 - (try 6 catch e : 3)", "14 0");
        gives("{ try 1 catch e : 2; fail 7 }", "fails 7");
        gives("let x = 5 in 20 - fun(y) { x + y }(1)", "14 0");
        gives("let x = 5 in 20 - priv x - 1", "14 0");
        gives("let x = 5 in 20 - under ctx : x - 1", "14 0");
        gives("let x = 5 in 20 - self.two(x - 5, x) - 1", "14 0");
        gives("let x = 5 in 20 - (try fun(y, z) { x + fail 2 }(1, 2) catch e : e) - 1", "17 0");
        gives("let x = 5 in 20 - (try under ctx : self.two(1, fun() { x + fail 2 }()) catch e : e) - 1", "17 0");
    }

    private static void threads() {
        gives("spawn fun() { 1 }", "1 0");
        gives("{ spawn fun() { 1 }; spawn fun() { 1 } }", "2 0");
        gives("wait spawn fun() { 5 }", "5 0");
        gives("wait spawn fun() { self }", "0 2");
        gives("wait spawn fun() { ctx }", "0 4");
        gives("wait spawn fun() { fail 6 }", "fails 6");
        gives("try wait spawn fun() { fail 6 } catch e : e + 1", "7 0");
        gives("let t = spawn fun() { 5 } in wait t + wait t", "10 0");
        gives("spawn 1", "fails 3");
        gives("spawn self", "fails 3");
        gives("spawn fun(x) { 1 }", "fails 4");
        gives("wait none", "fails 5");
        gives("wait 0", "fails 8");
        gives("wait 1", "fails 8");
        gives("wait (0 - 1)", "fails 8");
        gives("wait spawn fun() { wait 1 }", "fails 8");
        String seven = Trial.times("spawn fun() { 1 }; ", 7);
        gives("{ " + seven + "8 }", "8 0");
        gives("{ " + seven + "spawn fun() { 1 } }", "fails 7");
        gives("{ " + seven + "spawn 1 }", "fails 3");
        gives("{ " + seven + "spawn fun(x) { 1 } }", "fails 4");
    }

    private static void askings() {
        gives("check r /x", "1 0");
        gives("able r /x", "1 0");
        gives("able r /y", "0 0");
        gives("able w /x", "0 0");
        gives("check r /y", "fails 1");
        gives("try check r /y catch e : e + 10", "11 0");
        gives("able r /x [5]", "0 0");
        gives("able r /x [999]", "0 0");
        gives("able r /x [1000]", "fails 5");
        gives("check r /x [0 - 1]", "fails 5");
        gives("check r /x [none]", "fails 5");
        gives("check r /x [fail 7]", "fails 7");
        indexed("0", "1");
        indexed("7", "0");
        indexed("42", "1");
        indexed("900", "1");
        indexed("10", "0");
        indexed("4", "0");
        indexed("1", "0");
    }

    private static void indexed(String index, String due) {
        String text = "grant /a { r /x/0; r /x/42; r /x/900; r /x/010; r /x/01; } module m /a { main() = able r /x [" + index + "]; }";
        Trial.due("able r /x [" + index + "]", Trial.outcome(text), due + " 0");
    }

    private static void frames() {
        // 60 frames: main and 59 of them; the next one fails, where it is caught.
        Trial.due("deep", Trial.outcome("module m /a { main() = self.d(58); d(n) = if n == 0 then 5 else self.d(n - 1); }"), "5 0");
        Trial.due("too deep", Trial.outcome("module m /a { main() = self.d(59); d(n) = if n == 0 then 5 else self.d(n - 1); }"), "fails 6");
        Trial.due("caught", Trial.outcome("module m /a { main() = try self.d(59) catch e : e * 10; d(n) = if n == 0 then 5 else self.d(n - 1); }"), "60 0");
        Trial.due("priv", Trial.outcome("module m /a { main() = self.d(30); d(n) = if n == 0 then 5 else priv self.d(n - 1); }"), "fails 6");
        Trial.due("fun", Trial.outcome("module m /a { main() = self.d(29); d(n) = if n == 0 then 5 else fun() { self.d(n - 1) }(); }"), "5 0");
        // Each thread has 60 of its own.
        Trial.due("thread", Trial.outcome("module m /a { main() = self.d(58); d(n) = if n == 0 then wait spawn fun() { self.e(58) }"
            + " else self.d(n - 1); e(n) = if n == 0 then 5 else self.e(n - 1); }"), "5 0");
    }

    private static void things() {
        String forty = Trial.numbered("new m", "; ", 40);
        String text = "module m /a { a() = self.d(50); b() = try self.d(50) catch e : e; c() = self.e();"
            + " d(n) = if n == 0 then 5 else { " + forty + "; self.d(n - 1) };"
            + " e() = { try self.d(50) catch e : e; fun() { 1 } }; g() = { self.h(49); " + Trial.numbered("fun() { 1 }", "; ", 39)
            + "; 1 }; h(n) = if n == 0 then 5 else { self.i(); self.h(n - 1) }; i() = { " + forty + " }; }";
        WardenHouse house = Trial.house(text);
        for (int turn = 0; turn < 2; turn++) {
            Trial.due("run", house.run(0, 0, 4000, turn == 1), 0);
            Trial.due("new of too many", Trial.thread(house, 0).substring(0, 6), "2 9 -1");
            Trial.due("result(5)", house.result(5), 2000);
            house.run(1, 0, 4000, turn == 1);
            Trial.due("caught", Trial.thread(house, 0).substring(0, 5), "1 9 0");
            house.run(2, 0, 4000, turn == 1);
            Trial.due("fun of too many", Trial.thread(house, 0).substring(0, 6), "2 9 -1");
            Trial.due("result(5)", house.result(5), 2000);
            house.run(6, 0, 4000, turn == 1);
            Trial.due("just as many", Trial.thread(house, 0).substring(0, 5), "1 1 0");
            Trial.due("result(5)", house.result(5), 2000);
        }
    }

    private static void cuts() {
        WardenHouse house = Trial.house("module m /a { a() = try self.a() catch e : out e; b() = { out 1; self.c(); self.c(); 2 }; c() = 1;"
            + " d() = { spawn fun() { out 1; self.c(); out 2 }; out 3; out 4; self.c(); wait 1 }; e() = try spawn fun() { 1 } catch e : 1; }");
        for (int turn = 0; turn < 2; turn++) {
            boolean anew = turn == 1;
            Trial.due("cut at once", house.run(0, 0, 1, anew), 2);
            Trial.due("results", Trial.results(house), "2 1 1 0 1 1 0 0");
            Trial.due("thread", Trial.thread(house, 0), "0 0 -1 1 -1");
            Trial.due("one step too few", house.run(1, 0, 2, anew), 2);
            Trial.due("events", Trial.events(house), "0:0:1");
            Trial.due("steps enough", house.run(1, 0, 3, anew), 0);
            Trial.due("results", Trial.results(house), "0 3 1 1 2 1 0 0");
            Trial.due("cut of all", house.run(3, 0, 3, anew), 2);
            Trial.due("events", Trial.events(house), "0:0:3 0:0:4 1:0:1");
            Trial.due("thread 0", Trial.thread(house, 0), "0 0 -1 2 1");
            Trial.due("thread 1", Trial.thread(house, 1), "0 0 -1 1 -1");
            Trial.due("results", Trial.results(house), "2 3 2 3 2 2 0 0");
            Trial.due("cut at spawn", house.run(5, 0, 1, anew), 2);
            Trial.due("results", Trial.results(house), "2 1 1 0 1 2 0 0");
            // Nothing of a run that was cut is left in the next.
            Trial.due("run behind a cut", house.run(3, 0, 5, anew), 0);
            Trial.due("events", Trial.events(house), "0:0:3 0:0:4 1:0:1 1:0:2");
            Trial.due("thread 0", Trial.thread(house, 0), "1 2 0 2 -1");
            Trial.due("thread 1", Trial.thread(house, 1), "1 2 0 2 -1");
        }
    }
}

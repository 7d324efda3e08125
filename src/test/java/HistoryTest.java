/** Promises 15, 16, 17: result, event, thread, and the order of threads. */
public final class HistoryTest {
    public static void main(String[] args) {
        orders();
        draws();
        stuck();
        waiting();
        manyEvents();
        kinds();
        ends();
        results();
        Trial.end();
    }

    private static void ordered(String main, int seed, String due) {
        WardenHouse house = Trial.house("module m /a { main() = " + main + "; }");
        Trial.due("run", house.run(0, seed, 100, false), 0);
        Trial.due("events with seed " + seed + " of " + main, Trial.events(house), due);
        Trial.due("run", house.run(0, seed, 100, true), 0);
        Trial.due("rewritten events with seed " + seed + " of " + main, Trial.events(house), due);
    }

    private static void orders() {
        String two = "{ spawn fun() { out 1; out 2; 1 }; out 3; out 4; 0 }";
        ordered(two, 0, "0:0:3 0:0:4 1:0:1 1:0:2");
        ordered(two, 3, "1:0:1 1:0:2 0:0:3 0:0:4");
        ordered(two, -7, "0:0:3 1:0:1 1:0:2 0:0:4");
        // A check does not let another thread go on, nor does a wait for one that has ended.
        String quiet = "{ spawn fun() { out 1 }; try check r /x catch e : e; out 2; wait 1; wait 1; out 3 }";
        ordered(quiet, 0, "0:1:0@0 0:0:2 1:0:1 0:0:3");
    }

    // One is drawn each time, also when only one can go on; not ahead of the first thread's start.
    private static void draws() {
        String one = "{ out 9; spawn fun() { out 1 }; out 2 }";
        ordered(one, 0, "0:0:9 0:0:2 1:0:1");
        ordered(one, -7, "0:0:9 1:0:1 0:0:2");
        ordered(one, 12345, "0:0:9 0:0:2 1:0:1");
        WardenHouse house = Trial.house("module m /a { main() = { " + Trial.times("spawn fun() { out 1; out 2; 0 }; ", 3) + "out 5; out 6; out 7; 0 }; }");
        for (int seed : new int[] {1, 2, -1, 99, Integer.MIN_VALUE, Integer.MAX_VALUE}) {
            house.run(0, seed, 100, false);
            Trial.due("events with seed " + seed, Trial.events(house), drawn(seed));
        }
    }

    // The same house of four threads, told by the words of ORDER alone: how often each can still be chosen.
    private static String drawn(int seed) {
        String[][] acts = {
            {"spawn", "spawn", "spawn", "5", "6", "7", "end"}, {"1", "2", "end"}, {"1", "2", "end"}, {"1", "2", "end"}
        };
        int[] done = new int[4];
        int threads = 1;
        int now = 0;
        int r = seed;
        String all = "";
        while (now >= 0) {
            String act = acts[now][done[now]++];
            if (act.equals("spawn")) {
                threads++;
            } else if (!act.equals("end")) {
                all += (all.isEmpty() ? "" : " ") + now + ":0:" + act;
            }
            int able = 0;
            for (int t = 0; t < threads; t++) {
                able += done[t] < acts[t].length ? 1 : 0;
            }
            now = -1;
            if (able > 0) {
                r = r * 1103515245 + 12345;
                int left = (r >>> 16) % able;
                for (int t = 0; t < threads && now < 0; t++) {
                    if (done[t] < acts[t].length && left-- == 0) {
                        now = t;
                    }
                }
            }
        }
        return all;
    }

    private static void stuck() {
        WardenHouse house = Trial.house("module m /a { a() = let t = spawn fun() { wait 0 } in wait t; b() = { spawn fun() { wait 2 };"
            + " spawn fun() { wait 1 }; out 1 }; c() = { spawn fun() { wait 2 }; spawn fun() { wait 3 }; spawn fun() { wait 1 }; wait 2 }; }");
        for (int seed = -3; seed <= 3; seed++) {
            boolean anew = (seed & 1) == 0;
            Trial.due("a", house.run(0, seed, 100, anew), 1);
            Trial.due("thread 0", Trial.thread(house, 0), "0 0 -1 1 1");
            Trial.due("thread 1", Trial.thread(house, 1), "0 0 -1 1 0");
            Trial.due("results", Trial.results(house), "1 2 2 0 1 2 0 0");
        }
        Trial.due("b", house.run(2, 0, 100, false), 1);
        Trial.due("thread 0", Trial.thread(house, 0), "1 1 0 1 -1");
        Trial.due("thread 1", Trial.thread(house, 1), "0 0 -1 1 2");
        Trial.due("thread 2", Trial.thread(house, 2), "0 0 -1 1 1");
        Trial.due("c", house.run(5, 0, 100, true), 1);
        Trial.due("thread 0", Trial.thread(house, 0), "0 0 -1 1 2");
        Trial.due("thread 3", Trial.thread(house, 3), "0 0 -1 1 1");
    }

    private static void waiting() {
        // 2 waits for 1, which waits for 0, which ends last but one.
        WardenHouse house = Trial.house("module m /a { a() = { spawn fun() { out wait 0 }; spawn fun() { out (2 * wait 1) }; out 5; 7 }; }");
        Trial.due("run", house.run(0, 0, 100, false), 0);
        Trial.due("events", Trial.events(house), "0:0:5 1:0:7 2:0:14");
        Trial.due("thread 0", Trial.thread(house, 0), "1 7 0 1 -1");
        Trial.due("thread 1", Trial.thread(house, 1), "1 7 0 1 -1");
        Trial.due("thread 2", Trial.thread(house, 2), "1 14 0 1 -1");
        // A FAILURE goes to each that waits for it.
        house = Trial.house("module m /a { a() = { spawn fun() { wait 0 }; spawn fun() { try wait 0 catch e : out e }; out 1; fail 8 }; }");
        Trial.due("run", house.run(0, 0, 100, true), 0);
        Trial.due("events", Trial.events(house).substring(0, 11), "0:0:1 0:2:8");
        Trial.due("events", Trial.events(house), "0:0:1 0:2:8 1:2:8 2:0:8");
        // 1 and 0 wait for 2; it ends, 0 goes on first and is cut: 1 waits for none that has not ended.
        house = Trial.house("module m /a { a() = { spawn fun() { wait 2 }; spawn fun() { 5 }; wait 2; self.b() }; b() = 1; }");
        Trial.due("run", house.run(0, 0, 3, false), 2);
        Trial.due("thread 0", Trial.thread(house, 0), "0 0 -1 1 -1");
        Trial.due("thread 1", Trial.thread(house, 1), "0 0 -1 1 -1");
        Trial.due("thread 2", Trial.thread(house, 2), "1 5 0 1 -1");
        // The next is chosen by its number, whatever it waited for.
        house = Trial.house("module m /a { a() = { spawn fun() { out 1; 5 }; spawn fun() { out 2; self.b(); 1 }; wait 1 }; b() = 1; }");
        Trial.due("run", house.run(0, 0, 3, false), 2);
        Trial.due("thread 0", Trial.thread(house, 0), "1 5 0 1 -1");
        Trial.due("thread 2", Trial.thread(house, 2), "0 0 -1 1 -1");
    }

    private static void manyEvents() {
        WardenHouse house = Trial.house("module m /a { a() = self.d(55); d(n) = if n == 0 then 0 else { out n; out n; out n; out n; self.d(n - 1) }; }");
        Trial.due("run", house.run(0, 5, 4000, false), 0);
        Trial.due("results", Trial.results(house), "0 57 1 220 57 1 0 0");
        Trial.due("event(0, 2)", house.event(0, 2), 55);
        Trial.due("event(199, 2)", house.event(199, 2), 6);
        for (int what = 0; what < 5; what++) {
            Trial.due("event(200, " + what + ")", house.event(200, what), -1);
        }
        Trial.due("run", house.run(0, 5, 1, false), 2);
        Trial.due("events of the latest run alone", house.event(0, 0), -1);
    }

    private static void kinds() {
        WardenHouse house = Trial.house("grant /a { r /x/7; r /y; } module m /a { a() = { out (0 - 4); check r /y; able r /y;"
            + " check r /x [7]; try check r /x [8] catch e : 1; spawn fun() { check r /z }; 1 }; }");
        for (int turn = 0; turn < 2; turn++) {
            Trial.due("run", house.run(0, 0, 100, turn == 1), 0);
            Trial.due("events", Trial.events(house), "0:0:-4 0:1:1@0 0:1:1@2[7] 0:1:0@3[8] 1:1:0@4 1:2:1");
            Trial.due("event(0, 3)", house.event(0, 3), -1);
            Trial.due("event(1, 4)", house.event(1, 4), -1);
            Trial.due("event(2, 4)", house.event(2, 4), 7);
            Trial.due("event(5, 3)", house.event(5, 3), -1);
            Trial.due("event(6, 0)", house.event(6, 0), -1);
            Trial.due("event(-1, 0)", house.event(-1, 0), -1);
            Trial.due("event(0, 5)", house.event(0, 5), -1);
            Trial.due("event(0, -1)", house.event(0, -1), -1);
        }
    }

    private static void ends() {
        WardenHouse house = Trial.house("module m /a { a() = 0 - 3; b() = none; c() = self; d() = fun() { 1 }; e() = ctx; f() = fail (0 - 6);"
            + " g() = { self.h(3); spawn fun() { self.h(2) }; self.h(1) }; h(n) = if n == 0 then 0 else self.h(n - 1); }");
        String[] due = {"1 -3 0 1 -1", "1 0 1 1 -1", "1 0 2 1 -1", "1 0 3 1 -1", "", "1 0 4 1 -1", "2 -6 -1 1 -1"};
        for (int u = 0; u < due.length; u++) {
            for (int turn = 0; turn < 2 && !due[u].isEmpty(); turn++) {
                Trial.due("run", house.run(u, 0, 100, turn == 1), 0);
                Trial.due("thread of unit " + u, Trial.thread(house, 0), due[u]);
            }
        }
        Trial.due("run", house.run(7, 0, 100, false), 0);
        Trial.due("thread 0", Trial.thread(house, 0), "1 0 0 7 -1");
        Trial.due("thread 1", Trial.thread(house, 1), "1 0 0 4 -1");
        Trial.due("results", Trial.results(house), "0 11 2 0 5 2 0 0");
        Trial.due("thread(2, 0)", house.thread(2, 0), -1);
        Trial.due("thread(-1, 0)", house.thread(-1, 0), -1);
        Trial.due("thread(0, 5)", house.thread(0, 5), -1);
        Trial.due("thread(0, -1)", house.thread(0, -1), -1);
    }

    private static void results() {
        WardenHouse house = Trial.house("grant /a { r /x; } module m /a { a() = { new m; fun() { 1 }; self.b(); priv check r /x }; b() = able r /x; }");
        Trial.due("result ahead of a run", house.result(0), -1);
        Trial.due("run", house.run(0, 0, 100, false), 0);
        Trial.due("results", Trial.results(house), "0 3 1 1 2 3 3 0");
        Trial.due("run", house.run(0, 0, 100, true), 0);
        Trial.due("results", Trial.results(house), "0 3 1 1 2 3 0 1");
        Trial.due("result(8)", house.result(8), -1);
        Trial.due("result(-1)", house.result(-1), -1);
    }
}

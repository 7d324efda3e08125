/** Boundary cases of threads, ORDER and EVENTS (section 3) and of promises 15, 16, 17. */
public final class EdgeThreadTest {
    public static void main(String[] args) {
        mostThreads();
        endedThreadsCount();
        waitForNoThread();
        waitForEndedThreads();
        stuckInARing();
        endedOrStuck();
        whatLetsAnotherGoOn();
        leastNumberWithSeedZero();
        drawsOfEverySeed();
        seedThatBecomesZero();
        waitsAndDraws();
        indexOfAnAsking();
        keptEvents();
        lastKeptEvent();
        resultCalls();
        eventCalls();
        threadCalls();
        sortsOfValues();
        framesOfThreads();
        Trial.end();
    }

    private static WardenHouse ran(String main, int seed, boolean rewritten, int due) {
        WardenHouse house = Trial.house("grant /a { r /x/-; w /x; } module m /a { main() = " + main + "; d(n) = if n == 0 then 0 else self.d(n - 1); }");
        Trial.due("run of " + main, Trial.run(house, 0, seed, 4000, rewritten), due);
        return house;
    }

    // Section 3: spawn "its number; 7 if there are 8 (those that have ended, too)": thread 7 is the last.
    private static void mostThreads() {
        for (int n = 0; n <= 9; n++) {
            for (int turn = 0; turn < 2; turn++) {
                WardenHouse house = ran("{ " + Trial.times("out spawn fun() { 1 }; ", n) + "0 }", 0, turn == 1, 0);
                StringBuilder events = new StringBuilder();
                for (int t = 1; t <= Math.min(n, 7); t++) {
                    events.append(t > 1 ? " " : "").append("0:0:").append(t);
                }
                Trial.due("events of " + n, Trial.events(house), events + (n > 7 ? " 0:2:7" : ""));
                Trial.due("result(2) of " + n, house.result(2), Math.min(n, 7) + 1);
                Trial.due("STEPS of " + n, house.result(1), Math.min(n, 7) + 1);
            }
        }
        // 3 and 4 are told of what is spawned, also when there are 8.
        String seven = Trial.times("spawn fun() { 1 }; ", 7);
        Trial.due("spawn 1", Trial.events(ran("{ " + seven + "spawn 1 }", 0, false, 0)), "0:2:3");
        Trial.due("spawn fun(x)", Trial.events(ran("{ " + seven + "spawn fun(x) { 1 } }", 0, false, 0)), "0:2:4");
        Trial.due("spawn fun()", Trial.events(ran("{ " + seven + "spawn fun() { 1 } }", 0, false, 0)), "0:2:7");
        Trial.due("caught, and no STEP", Trial.results(ran("try { " + seven + "spawn fun() { 1 } } catch e : out e", 0, false, 0)), "0 8 8 1 1 9 0 0");
    }

    // Section 3: "(those that have ended, too)", whoever spawned them.
    private static void endedThreadsCount() {
        WardenHouse house = ran("{ " + Trial.times("wait spawn fun() { 1 }; ", 7) + "spawn fun() { 1 } }", 0, true, 0);
        Trial.due("all but one have ended", Trial.events(house) + " " + house.result(2), "0:2:7 8");
        house = Trial.house("module m /a { main() = self.go(6); go(n) = wait spawn fun() { if n == 0 then try spawn fun() { 1 } catch e : out (e * 10) else self.go(n - 1) }; }");
        Trial.due("run", Trial.run(house, 0, 0, 100, false), 0);
        Trial.due("each spawned by the one ahead", Trial.events(house) + " " + house.result(2) + " " + house.thread(0, 1), "7:0:70 8 70");
    }

    // Section 3: wait "of a thread there is, but itself (else 8)".
    private static void waitForNoThread() {
        for (String n : new String[] {"0", "1", "2", "7", "8", "2147483647", "(0 - 1)", "(0 - 2147483647 - 1)", "(65536 * 65536)"}) {
            Trial.due("wait " + n + " of the only thread", Trial.events(ran("wait " + n, 0, false, 0)), "0:2:8");
        }
        // Of eight: itself and 8 are none; all others are.
        String seven = Trial.times("spawn fun() { 5 }; ", 6) + "spawn fun() { { @ } }; ";
        for (int n = -1; n <= 9; n++) {
            boolean none = n < 0 || n > 7;
            WardenHouse house = ran("{ " + seven.replace("@", "5") + "out wait " + (n < 0 ? "(0 - 1)" : n) + " }", 0, true, 0);
            Trial.due("thread 0 waits for " + n, Trial.events(house), none || n == 0 ? "0:2:8" : "0:0:5");
            house = ran("{ " + seven.replace("@", "wait " + (n < 0 ? "(0 - 1)" : n)) + "6 }", 0, false, 0);
            Trial.due("thread 7 waits for " + n, Trial.thread(house, 7), none || n == 7 ? "2 8 -1 1 -1" : n == 0 ? "1 6 0 1 -1" : "1 5 0 1 -1");
        }
        // One that is spawned later is there from then on.
        Trial.due("not yet there", Trial.events(ran("{ spawn fun() { try wait 2 catch e : out e }; wait 1; spawn fun() { 1 }; out wait 2 }", 0, false, 0)), "1:0:8 0:0:1");
    }

    // Section 3: wait "waits if that has not ended, till it has: its value, or its FAILURE as one here".
    private static void waitForEndedThreads() {
        Trial.due("twice", Trial.events(ran("{ spawn fun() { 5 }; out (wait 1 + wait 1) }", 0, false, 0)), "0:0:10");
        Trial.due("FAILURE twice", Trial.events(ran("{ spawn fun() { fail 5 }; try wait 1 catch e : out e; wait 1 }", 0, true, 0)), "1:2:5 0:0:5 0:2:5");
        Trial.due("handed on", Trial.events(ran("{ spawn fun() { fail 5 }; spawn fun() { wait 1 }; wait 2 }", 0, true, 0)), "1:2:5 2:2:5 0:2:5");
        // What it waited for is taken once: behind the next turns there is nothing more of it.
        Trial.due("a value once", Trial.events(ran("{ spawn fun() { 5 }; wait 1; out (out 7 + out 1) }", 0, false, 0)), "0:0:7 0:0:1 0:0:8");
        Trial.due("a FAILURE once", Trial.events(ran("{ spawn fun() { fail 5 }; try wait 1 catch e : out e; out (out 7 + out 1) }", 0, true, 0)), "1:2:5 0:0:5 0:0:7 0:0:1 0:0:8");
        Trial.due("its number once", Trial.events(ran("{ spawn fun() { 5 }; wait 1; out (spawn fun() { 6 } + 10); out wait 2 }", 0, true, 0)), "0:0:12 0:0:6");
        // Behind a wait for one that has ended it goes on at once.
        Trial.due("goes on", Trial.events(ran("{ spawn fun() { 5 }; wait 1; spawn fun() { out 6 }; out 7; wait 1; out 8; wait 2 }", 0, false, 0)), "0:0:7 0:0:8 2:0:6");
    }

    // Section 3: "it is STUCK when none can go on": rings of two to eight, with and without others that have ended.
    private static void stuckInARing() {
        for (int n = 2; n <= 8; n++) {
            for (int seed = -2; seed <= 2; seed++) {
                StringBuilder main = new StringBuilder("{ ");
                for (int t = 1; t < n; t++) {
                    main.append("spawn fun() { @; wait ").append((t + 1) % n).append(" }; ");
                }
                // Outs ahead of the wait, so that by most orders all are there when it comes.
                String text = main.toString().replace("@", "out 1; out 2; out 3; out 4; out 5; out 6; out 7; out 8") + "wait 1 }";
                WardenHouse house = Trial.house("module m /a { main() = " + text + "; }");
                int how = Trial.run(house, 0, seed, 100, seed == 1);
                if (seed == 0) {
                    Trial.due("a ring of " + n, how, 1);
                    Trial.due("result(0)", house.result(0), 1);
                    for (int t = 0; t < n; t++) {
                        Trial.due("thread " + t, Trial.thread(house, t), "0 0 -1 1 " + (t + 1) % n);
                    }
                } else {
                    // By another order one may wait for a thread that is not there yet, and fail: then all end.
                    Trial.due("stuck, or ended by 8", how == 1 && house.thread(0, 0) == 0 || how == 0 && Trial.events(house).contains(":2:8"), true);
                }
            }
        }
    }

    // Section 3: "The run has ENDED when all threads have", also by a FAILURE; STUCK though others have.
    private static void endedOrStuck() {
        Trial.due("thread 0 ends first", Trial.events(ran("{ spawn fun() { out 1; out 2 }; 5 }", 0, false, 0)), "1:0:1 1:0:2");
        Trial.due("thread 0 fails first", Trial.events(ran("{ spawn fun() { out 1; out 2 }; fail 5 }", 0, false, 0)), "0:2:5 1:0:1 1:0:2");
        Trial.due("all fail", Trial.events(ran("{ spawn fun() { fail 6 }; fail 5 }", 0, true, 0)), "0:2:5 1:2:6");
        WardenHouse house = ran("{ spawn fun() { wait 2 }; spawn fun() { wait 1 }; spawn fun() { fail 9 }; 4 }", 0, true, 1);
        Trial.due("results", Trial.results(house), "1 4 4 1 1 4 0 0");
        Trial.due("threads", Trial.thread(house, 0) + ", " + Trial.thread(house, 1) + ", " + Trial.thread(house, 2) + ", " + Trial.thread(house, 3),
            "1 4 0 1 -1, 0 0 -1 1 2, 0 0 -1 1 1, 2 9 -1 1 -1");
    }

    // Section 3: "a thread goes on until it has done an out or a spawn, waits, or has ended" - and by nothing else.
    private static void whatLetsAnotherGoOn() {
        String[] quiet = {"self.d(5)", "priv 1", "new m", "check w /x", "able r /x", "try check r /y catch e : e", "try out none catch e : e", "try spawn 1 catch e : e",
            "try wait 9 catch e : e", "try fail 3 catch e : e", "under ctx : 2", "self.d(1) + 1"};
        for (String e : quiet) {
            // With SEED 0 thread 0 is chosen again anyhow; so it is thread 1 that is quiet, and thread 0 would come in between.
            String events = Trial.events(ran("{ spawn fun() { " + e + "; out 1; 0 }; wait 1; out 2 }", 0, false, 0)).replaceAll("1:1:\\S+ ", "");
            Trial.due("behind " + e, events, "1:0:1 0:0:2");
            events = Trial.events(ran("{ spawn fun() { wait 2; out 3 }; spawn fun() { " + e + "; 0 }; out 1; wait 1; out 2 }", 0, true, 0)).replaceAll("2:1:\\S+ ", "");
            Trial.due("behind " + e, events, "0:0:1 1:0:3 0:0:2");
        }
        // Seen by what another thread writes to a field: it is not written till the other has the turn.
        String text = "module m /a { field f; main() = { self.f := 1; spawn fun() { self.f := 2 }; @ out self.f; self.f; out self.f }; d(n) = if n == 0 then 0 else self.d(n - 1); }";
        for (String e : new String[] {"", "self.d(9);", "new m;", "priv 1;", "try wait 0 catch e : e;"}) {
            WardenHouse house = Trial.house(text.replace("@", e));
            Trial.due("run", Trial.run(house, 0, 0, 100, false), 0);
            Trial.due("events", Trial.events(house), "0:0:1 0:0:1");
        }
        WardenHouse house = Trial.house(text.replace("@", "wait 1;"));
        Trial.due("run", Trial.run(house, 0, 0, 100, false), 0);
        Trial.due("events behind a wait", Trial.events(house), "0:0:2 0:0:2");
    }

    // Section 3: "with SEED 0 that with the least number", of those that can go on.
    private static void leastNumberWithSeedZero() {
        Trial.due("0 to its end", Trial.events(ran("{ " + Trial.times("spawn fun() { out 1; out 2; 0 }; ", 3) + "out 3; out 4; 0 }", 0, false, 0)),
            "0:0:3 0:0:4 1:0:1 1:0:2 2:0:1 2:0:2 3:0:1 3:0:2");
        // As soon as 0 can go on again it is 0.
        Trial.due("0 again", Trial.events(ran("{ spawn fun() { out 1; 0 }; spawn fun() { out 2; 0 }; spawn fun() { out 3; 0 }; wait 2; out 4 }", 0, true, 0)),
            "1:0:1 2:0:2 0:0:4 3:0:3");
    }

    // Section 3: "r * 1103515245 + 12345, and it is number (r >>> 16) modulo how many, by their numbers", for one to eight threads.
    private static void drawsOfEverySeed() {
        for (int n = 0; n <= 7; n++) {
            for (int seed : new int[] {1, 2, 3, -1, -2, 77, 12345, 65535, 65536, -65536, Integer.MAX_VALUE, Integer.MIN_VALUE, Integer.MIN_VALUE + 1}) {
                drawn(n, seed);
            }
        }
    }

    // Section 3: only SEED 0 chooses the least; a number r that becomes 0 on its way goes on from there.
    private static void seedThatBecomesZero() {
        int inverse = 1;
        for (int i = 0; i < 5; i++) {
            inverse *= 2 - 1103515245 * inverse;
        }
        int seed = -12345 * inverse;
        Trial.due("the first r", seed * 1103515245 + 12345, 0);
        for (int n = 1; n <= 7; n++) {
            drawn(n, seed);
            drawn(n, (seed - 12345) * inverse);
        }
    }

    // n threads are spawned, each with two outs; thread 0 has three.
    private static void drawn(int n, int seed) {
        String[] acts = new String[n + 1];
        acts[0] = Trial.times("spawn ", n) + "out3 out2 out1 end";
        for (int t = 1; t <= n; t++) {
            acts[t] = "out2 out1 end";
        }
        drawn(acts, seed);
    }

    // Section 3: "waits, or has ended": a wait for a thread that has ended draws nothing, one that waits does.
    private static void waitsAndDraws() {
        // Each waits for threads ahead of it, which are there by any order.
        String[][] all = {
            {"spawn spawn wait1 wait1 wait1 out3 wait1 out4 wait2 wait1 out5 end", "end", "out1 wait1 out2 end"},
            {"spawn spawn spawn wait2 out9 wait1 out8 wait3 out7 end", "out4 out5 end", "wait1 out1 wait1 end", "wait1 wait2 wait1 out6 out6 end"},
            {"spawn spawn out1 out2 end", "wait0 wait0 out3 out4 end", "wait0 wait1 out5 wait0 out6 end"},
        };
        for (String[] acts : all) {
            for (int seed = 1; seed <= 60; seed++) {
                drawn(acts, seed % 2 == 0 ? seed * 7919 : -seed * 104729);
            }
        }
    }

    // What the threads do, told by the words of ORDER alone; then by two runs of a text that does the same.
    private static void drawn(String[] acts, int seed) {
        String[][] todo = new String[acts.length][];
        int[] waits = new int[acts.length];
        for (int t = 0; t < acts.length; t++) {
            todo[t] = acts[t].split(" ");
            waits[t] = -1;
        }
        int[] done = new int[acts.length];
        int threads = 1;
        StringBuilder all = new StringBuilder();
        int now = 0;
        int r = seed;
        while (now >= 0) {
            waits[now] = -1;
            boolean goesOn = true;
            while (goesOn) {
                String act = todo[now][done[now]++];
                goesOn = act.startsWith("wait") && hasEnded(todo, done, act.charAt(4) - '0');
                waits[now] = act.startsWith("wait") && !goesOn ? act.charAt(4) - '0' : -1;
                threads += act.equals("spawn") ? 1 : 0;
                if (act.startsWith("out")) {
                    all.append(all.length() > 0 ? " " : "").append(now).append(":0:").append(act.charAt(3));
                }
            }
            StringBuilder able = new StringBuilder();
            for (int t = 0; t < threads; t++) {
                able.append(!hasEnded(todo, done, t) && (waits[t] < 0 || hasEnded(todo, done, waits[t])) ? "" + t : "");
            }
            now = -1;
            if (able.length() > 0) {
                r = r * 1103515245 + 12345;
                now = able.charAt((r >>> 16) % able.length()) - '0';
            }
        }
        String main = "{ " + textOf(acts, 0) + " }";
        for (int turn = 0; turn < 2; turn++) {
            Trial.due(main + " with seed " + seed, Trial.events(ran(main, seed, turn == 1, 0)), all.toString());
        }
    }

    private static boolean hasEnded(String[][] todo, int[] done, int t) {
        return done[t] == todo[t].length;
    }

    // Thread 0 spawns the others in their order.
    private static String textOf(String[] acts, int t) {
        StringBuilder text = new StringBuilder();
        int spawned = 0;
        for (String act : acts[t].split(" ")) {
            if (act.equals("spawn")) {
                spawned++;
                text.append("spawn fun() { ").append(textOf(acts, spawned)).append(" }; ");
            } else {
                text.append(act.equals("end") ? "0" : act.startsWith("out") ? "out " + act.charAt(3) + "; " : "wait " + act.charAt(4) + "; ");
            }
        }
        return text.toString();
    }

    // Section 3: "the digits of its INT, 0 .. 999 (else 5)": no EVENT when it is 5; without zeros ahead.
    private static void indexOfAnAsking() {
        String[] index = {"0", "1", "9", "10", "99", "100", "998", "999"};
        for (String n : index) {
            WardenHouse house = ran("{ check r /x [" + n + "]; able r /x [" + n + "] }", 0, false, 0);
            Trial.due("check [" + n + "]", Trial.events(house) + ", " + house.thread(0, 1), "0:1:1@0[" + n + "], 1");
            // Only the PLACE of these very digits has it.
            String text = "grant /a { r /x/" + n + "; } module m /a { main() = { " + "try check r /x [@] catch e : 0; ".replace("@", n);
            for (String other : index) {
                text += "out able r /x [" + other + "]; ";
            }
            house = Trial.house(text + "0 }; }");
            for (int turn = 0; turn < 2; turn++) {
                Trial.due("run", Trial.run(house, 0, 0, 10, turn == 1), 0);
                String due = "0:1:1@0[" + n + "]";
                for (String other : index) {
                    due += " 0:0:" + (other.equals(n) ? 1 : 0);
                }
                Trial.due("r /x/" + n, Trial.events(house), due);
            }
            house = ran("able w /x [" + n + "]", 0, true, 0);
            Trial.due("w /x is not w /x/" + n, house.thread(0, 1), 0);
        }
        for (String n : new String[] {"1000", "1001", "2147483647", "0 - 1", "0 - 999", "0 - 2147483647 - 1"}) {
            Trial.due("check [" + n + "]", Trial.events(ran("check r /x [" + n + "]", 0, false, 0)), "0:2:5");
            Trial.due("able [" + n + "]", Trial.events(ran("able r /x [" + n + "]", 0, true, 0)), "0:2:5");
        }
        // STEPS with a zero ahead, or of four digits, are the digits of no INT.
        WardenHouse house = Trial.house("grant /a { r /x/00; r /x/01; r /x/1000; r /x/007; } module m /a { main() = able r /x [0] + able r /x [1] + able r /x [7] + able r /x [100]; }");
        Trial.due("run", Trial.run(house, 0, 0, 10, false), 0);
        Trial.due("none of them", house.thread(0, 1), 0);
        // The fifth STEP: behind a PLACE of four.
        house = Trial.house("grant /a { r /a/b/c/d/*; w /a/b/c/d/-; } module m /a { main() = able r /a/b/c/d [0] * 10 + able w /a/b/c/d [999]; b() = able r /a/b/c/d; }");
        Trial.due("run", Trial.run(house, 0, 0, 10, false), 0);
        Trial.due("five STEPS", house.thread(0, 1), 11);
        Trial.due("run", Trial.run(house, 1, 0, 10, true), 0);
        Trial.due("four STEPS", house.thread(0, 1), 0);
    }

    // n outs, then what is behind them.
    private static WardenHouse outs(int n, String behind) {
        String text = "grant /a { r /x; } module m /a { main() = { self.o(" + n + "); " + behind + " }; o(n) = if n < 4 then self.p(n) else { out n; out n; out n; out n;"
            + " self.o(n - 4) }; p(n) = if n == 0 then 0 else { out n; self.p(n - 1) }; }";
        WardenHouse house = Trial.house(text);
        Trial.due("run", Trial.run(house, 0, 0, 4000, false), 0);
        return house;
    }

    // Section 3: "The first 200 of a run are kept"; promise 15: "3 EVENTS, also those that are not kept".
    private static void keptEvents() {
        for (int n : new int[] {0, 1, 199, 200, 201, 210}) {
            WardenHouse house = outs(n, "0");
            Trial.due("result(3) of " + n, house.result(3), n);
            Trial.due("the last of " + n, house.event(Math.min(n, 200) - 1, 0), n == 0 ? -1 : 0);
            for (int what = 0; what < 5; what++) {
                Trial.due("event(" + Math.min(n, 200) + ", " + what + ")", house.event(Math.min(n, 200), what), -1);
                Trial.due("event(200, " + what + ")", house.event(200, what), -1);
                Trial.due("event(201, " + what + ")", house.event(201, what), -1);
            }
            if (n > 0) {
                Trial.due("the first is the first", house.event(0, 2), n);
            }
        }
    }

    // Section 3, EVENTS: of each kind as the 200th (kept) and as the 201st (counted alone).
    private static void lastKeptEvent() {
        String[] acts = {"out 77", "check r /x", "try check r /y catch e : 0", "fail 55"};
        String[] events = {"0 77 -1", "1 1 0", "1 0 0", "2 55 -1"};
        for (int i = 0; i < acts.length; i++) {
            WardenHouse house = outs(199, acts[i]);
            Trial.due("result(3)", house.result(3), 200);
            Trial.due(acts[i] + " as the 200th", house.event(199, 1) + " " + house.event(199, 2) + " " + house.event(199, 3), events[i]);
            Trial.due("event(200, 0)", house.event(200, 0), -1);
            house = outs(200, acts[i]);
            Trial.due("result(3)", house.result(3), 201);
            Trial.due(acts[i] + " as the 201st", house.event(200, 0) + " " + house.event(200, 1), "-1 -1");
            Trial.due("the 200th", house.event(199, 1) + " " + house.event(199, 2), "0 4");
        }
        // The next run begins with none.
        WardenHouse house = outs(201, "0");
        Trial.due("run", Trial.run(house, 0, 0, 1, true), 2);
        Trial.due("result(3) of the next", house.result(3) + " " + house.event(0, 0), "0 -1");
    }

    // Promise 15: what each tells; "NONE without one, or for another what".
    private static void resultCalls() {
        WardenHouse house = Trial.house("grant /a { r /x; } module m /a { main() = { spawn fun() { self.d(3) }; new m; check r /x; priv able r /x; out 1; wait 1 };"
            + " d(n) = if n == 0 then able r /x else self.d(n - 1); }");
        for (int what = -2; what <= 9; what++) {
            Trial.due("result(" + what + ") without a run", house.result(what), -1);
        }
        // Looked at: main; priv; and four of d, fun and main below them.
        Trial.due("run", Trial.run(house, 0, 0, 100, false), 0);
        Trial.due("results", Trial.results(house), "0 7 2 2 5 3 8 0");
        Trial.due("run", Trial.run(house, 0, 0, 100, true), 0);
        Trial.due("results", Trial.results(house), "0 7 2 2 5 3 0 1");
        for (int what : new int[] {-1, -2, 8, 9, Integer.MIN_VALUE, Integer.MAX_VALUE}) {
            Trial.due("result(" + what + ")", house.result(what), -1);
        }
        // One frame, one thread, one object are the least of a run.
        house = Trial.house("module m /a { a() = 1; }");
        Trial.due("run", Trial.run(house, 0, 0, 1, true), 0);
        Trial.due("the least", Trial.results(house), "0 1 1 0 1 1 0 0");
    }

    // Promise 16: "3 of a CHECK its ASKING (else NONE), 4 of a CHECK with [ E ] its INT (else NONE). NONE without it, or for another what."
    private static void eventCalls() {
        StringBuilder text = new StringBuilder("{ out 0");
        for (int a = 0; a < 24; a++) {
            text.append("; ").append(a % 2 == 0 ? "check r /x [" + a + "]" : a == 23 ? "check w /x" : "able r /x");
        }
        WardenHouse house = ran(text + "; fail 3 }", 0, false, 0);
        Trial.due("event 0", house.event(0, 0) + " " + house.event(0, 1) + " " + house.event(0, 2) + " " + house.event(0, 3) + " " + house.event(0, 4), "0 0 0 -1 -1");
        for (int k = 1; k <= 12; k++) {
            int a = 2 * (k - 1);
            Trial.due("event " + k, house.event(k, 1) + " " + house.event(k, 2) + " " + house.event(k, 3) + " " + house.event(k, 4), "1 1 " + a + " " + a);
        }
        Trial.due("event 13", house.event(13, 1) + " " + house.event(13, 2) + " " + house.event(13, 3) + " " + house.event(13, 4), "1 1 23 -1");
        Trial.due("event 14", house.event(14, 1) + " " + house.event(14, 2) + " " + house.event(14, 3) + " " + house.event(14, 4), "2 3 -1 -1");
        for (int k : new int[] {15, 16, 199, 200, -1, -2, Integer.MIN_VALUE, Integer.MAX_VALUE}) {
            for (int what = 0; what < 5; what++) {
                Trial.due("event(" + k + ", " + what + ")", house.event(k, what), -1);
            }
        }
        for (int what : new int[] {-1, -2, 5, 6, Integer.MIN_VALUE, Integer.MAX_VALUE}) {
            Trial.due("event(1, " + what + ")", house.event(1, what), -1);
        }
        // INTS of all sizes, -1 among them, which is NONE's.
        for (String n : new String[] {"0 - 1", "2147483647", "0 - 2147483647 - 1", "0"}) {
            house = ran("out (" + n + ")", 0, true, 0);
            Trial.due("out " + n, house.event(0, 2), house.thread(0, 1));
            Trial.due("out " + n, house.event(0, 2), n.equals("0 - 1") ? -1 : n.length() > 12 ? Integer.MIN_VALUE : n.equals("0") ? 0 : Integer.MAX_VALUE);
        }
    }

    // Promise 17: "NONE without it, or for another what"; 4 "the thread that has not ended for which it waits (NONE)".
    private static void threadCalls() {
        WardenHouse house = ran("{ " + Trial.times("spawn fun() { 5 }; ", 6) + "spawn fun() { fail (0 - 1) }; none }", 0, false, 0);
        for (int t = 0; t <= 9; t++) {
            Trial.due("thread " + t, Trial.thread(house, t), t == 0 ? "1 0 1 1 -1" : t < 7 ? "1 5 0 1 -1" : t == 7 ? "2 -1 -1 1 -1" : "-1 -1 -1 -1 -1");
        }
        for (int t : new int[] {-1, -2, 8, Integer.MIN_VALUE, Integer.MAX_VALUE}) {
            Trial.due("thread(" + t + ", 0)", house.thread(t, 0) + " " + house.thread(t, 3), "-1 -1");
        }
        for (int what : new int[] {-1, -2, 5, 6, Integer.MIN_VALUE, Integer.MAX_VALUE}) {
            Trial.due("thread(0, " + what + ")", house.thread(0, what), -1);
        }
        // With one thread alone there is no thread 1, also behind a run that had eight.
        Trial.feed(house, "module m /a { a() = 1; }");
        Trial.due("program", Trial.program(house), 1);
        Trial.due("run", Trial.run(house, 0, 0, 1, false), 0);
        Trial.due("threads", Trial.thread(house, 0) + ", " + Trial.thread(house, 1), "1 1 0 1 -1, -1 -1 -1 -1 -1");
        // Cut while 0 waits for 1, and while it no longer does as 1 has ended.
        house = Trial.house("module m /a { a() = { spawn fun() { self.b(); 1 }; wait 1 }; b() = 1; c() = { spawn fun() { wait 2 }; spawn fun() { 7 }; out 1; wait 2; self.b() }; }");
        Trial.due("run", Trial.run(house, 0, 0, 2, false), 2);
        Trial.due("threads", Trial.thread(house, 0) + ", " + Trial.thread(house, 1), "0 0 -1 1 1, 0 0 -1 1 -1");
        int c = 3;
        Trial.due("run", Trial.run(house, c, 0, 3, false), 2);
        Trial.due("threads", Trial.thread(house, 0) + ", " + Trial.thread(house, 1) + ", " + Trial.thread(house, 2), "0 0 -1 1 -1, 0 0 -1 1 -1, 1 7 0 1 -1");
    }

    // Promise 17: "the value: an INT, else 0; 2 the sort of that value: 0 INT, 1 none, 2 object, 3 FUN, 4 CONTEXT (else NONE)".
    private static void sortsOfValues() {
        String[] values = {"0 - 1", "none", "new m", "fun() { 1 }", "ctx"};
        for (int s = 0; s < 5; s++) {
            for (int turn = 0; turn < 2; turn++) {
                WardenHouse house = ran("{ new m; new m; new m; spawn fun() { " + values[s] + " }; " + values[s] + " }", 0, turn == 1, 0);
                String due = "1 " + (s == 0 ? -1 : 0) + " " + s + " 1 -1";
                Trial.due(values[s], Trial.thread(house, 0) + ", " + Trial.thread(house, 1), due + ", " + due);
            }
        }
    }

    // Promise 15: "4 the most frames of a thread at a time"; promise 17: "3 how many frames it began", of 60 and more.
    private static void framesOfThreads() {
        WardenHouse house = ran("{ spawn fun() { self.d(20); self.d(30) }; self.d(10); self.d(57); self.d(3); wait 1 }", 0, false, 0);
        Trial.due("results", house.result(4) + " " + house.result(1), "59 " + (1 + 11 + 58 + 4 + 1 + 21 + 31));
        Trial.due("threads", house.thread(0, 3) + " " + house.thread(1, 3), (1 + 11 + 58 + 4) + " " + (1 + 21 + 31));
        house = ran("{ spawn fun() { self.d(58) }; wait 1; self.d(3) }", 0, true, 0);
        Trial.due("60 of a thread, 5 of another", house.result(4) + " " + house.thread(0, 3) + " " + house.thread(1, 3), "60 5 60");
    }
}

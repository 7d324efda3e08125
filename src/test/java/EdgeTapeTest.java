/** Boundary cases of promises 1, 2, 3, of the length of a text (section 1) and of the 512 calls ("What it is"). */
public final class EdgeTapeTest {
    private static final int BLANKS = 0x20202020;
    private static final String LEAST = "module m /a { }";

    public static void main(String[] args) {
        emptyTape();
        noProgramNoRun();
        roomOfTheTape();
        nothingComesWhenRefused();
        highestByteFirst();
        firstBytesStay();
        behindTheEndComesTheNext();
        longestText();
        emptyBehindProgram();
        emptyBehindAsks();
        lastCalls();
        Trial.end();
    }

    // Promise 1: "An empty TAPE": it has 0 bytes, and not one.
    private static void emptyTape() {
        WardenHouse house = new WardenHouse();
        Trial.due("new: count(9)", house.count(9), 0);
        Trial.due("new: end(1)", house.end(1), false);
        Trial.due("new: end(0)", house.end(0), true);
        Trial.due("new: asks()", house.asks(), false);
        Trial.due("new: program()", Trial.program(house), -1);
        Trial.due("new: the end is at 0", house.fault(0) + " " + house.fault(1), "1 0");
        for (int i = 0; i < 150; i++) {
            Trial.due("new: all of the room is free", house.feed(0, 0, 0, 0, 0), true);
        }
    }

    // Promise 1: "no program, no run".
    private static void noProgramNoRun() {
        WardenHouse house = new WardenHouse();
        Trial.due("new: run", Trial.run(house, 0, 0, 1, false), -1);
        Trial.due("new: run of what never is one", Trial.run(house, -1, 0, 0, true), -1);
        for (int what = -1; what <= 10; what++) {
            Trial.due("new: count(" + what + ")", house.count(what), what < 0 || what > 9 ? -1 : 0);
            Trial.due("new: fault(" + what + ")", house.fault(what), what == 0 ? 0 : -1);
            Trial.due("new: unit(0, " + what + ")", house.unit(0, what), -1);
            Trial.due("new: result(" + what + ")", house.result(what), -1);
            Trial.due("new: event(0, " + what + ")", house.event(0, what), -1);
            Trial.due("new: thread(0, " + what + ")", house.thread(0, what), -1);
            Trial.due("new: context(0, " + what + ")", house.context(0, what), -1);
            Trial.due("new: number(" + what + ")", house.number(what), 0);
            Trial.due("new: domain(" + what + ")", house.domain(what), -1);
            Trial.due("new: has(" + what + ", false)", house.has(what, false), -1);
            Trial.due("new: has(" + what + ", true)", house.has(what, true), -1);
            Trial.due("new: may(" + what + ")", house.may(what), -1);
            Trial.due("new: code(0, false, " + what + ")", house.code(0, false, what), -1);
            Trial.due("new: code(0, true, " + what + ")", house.code(0, true, what), -1);
        }
    }

    private static WardenHouse fed(int times) {
        WardenHouse house = new WardenHouse();
        for (int i = 0; i < times; i++) {
            Trial.due("feed", house.feed(BLANKS, BLANKS, BLANKS, BLANKS, BLANKS), true);
        }
        return house;
    }

    // Promise 2: "false, and nothing comes, if it would have more than 3000": 2980 is the last that has room.
    private static void roomOfTheTape() {
        WardenHouse house = fed(150);
        Trial.due("full: count(9)", house.count(9), 3000);
        Trial.due("full: feed", house.feed(0, 0, 0, 0, 0), false);
        for (int n = 3000; n > 2980; n--) {
            Trial.due("end(" + n + ")", house.end(n), true);
            Trial.due("feed behind " + n, house.feed(0, 0, 0, 0, 0), false);
            Trial.due("count(9)", house.count(9), n);
        }
        Trial.due("end(2980)", house.end(2980), true);
        Trial.due("feed behind 2980", house.feed(0, 0, 0, 0, 0), true);
        Trial.due("count(9)", house.count(9), 3000);
        Trial.due("end(2979)", house.end(2979), true);
        Trial.due("feed behind 2979", house.feed(0, 0, 0, 0, 0), true);
        Trial.due("count(9)", house.count(9), 2999);
        Trial.due("feed behind 2999", house.feed(0, 0, 0, 0, 0), false);
    }

    // Promise 2: "nothing comes": neither over what is there nor into the last bytes that are free.
    private static void nothingComesWhenRefused() {
        for (int free = 0; free < 20; free++) {
            WardenHouse house = new WardenHouse();
            Trial.feed(house, LEAST + Trial.times(" ", 3000 - LEAST.length()));
            Trial.due("end", house.end(3000 - free), true);
            Trial.due("feed of what is no word", house.feed(-1, -1, -1, -1, -1), false);
            Trial.due("count(9)", house.count(9), 3000 - free);
            Trial.due("end of one more", house.end(3001 - free), false);
            Trial.due("program", Trial.program(house), 0);
        }
    }

    // Promise 2: "Twenty bytes come to the TAPE, the highest byte of each number first": each of them in its place.
    private static void highestByteFirst() {
        for (int at = 0; at < 20; at++) {
            for (int no : new int[] {0, 127, 128, 255}) {
                int[] numbers = {BLANKS, BLANKS, BLANKS, BLANKS, BLANKS};
                int shift = 24 - 8 * (at % 4);
                numbers[at / 4] = BLANKS & ~(255 << shift) | no << shift;
                WardenHouse house = new WardenHouse();
                Trial.due("feed", house.feed(numbers[0], numbers[1], numbers[2], numbers[3], numbers[4]), true);
                Trial.due("program", Trial.program(house), -1);
                Trial.due("byte " + no + " at " + at, house.fault(0) + " " + house.fault(1), "1 " + at);
            }
        }
    }

    // Promise 3: "The TAPE has only its first n bytes; false, and it stays, if it has not so many."
    private static void firstBytesStay() {
        for (int n = 0; n <= 20; n++) {
            WardenHouse house = fed(1);
            Trial.due("end(" + n + ") of 20", house.end(n), true);
            Trial.due("count(9)", house.count(9), n);
            Trial.due("end of one more", house.end(n + 1), false);
            Trial.due("count(9) stays", house.count(9), n);
            Trial.due("end of as many", house.end(n), true);
            Trial.due("program", Trial.program(house), -1);
            Trial.due("the end is at n", house.fault(1), n);
        }
        for (int n : new int[] {21, 22, 3000, 3001, Integer.MAX_VALUE, -1, -2, -20, Integer.MIN_VALUE}) {
            WardenHouse house = fed(1);
            Trial.due("end(" + n + ") of 20", house.end(n), false);
            Trial.due("count(9) stays", house.count(9), 20);
            Trial.due("program", Trial.program(house), -1);
            Trial.due("all 20 stay", house.fault(1), 20);
        }
        WardenHouse house = fed(150);
        Trial.due("end(3001) of 3000", house.end(3001), false);
        Trial.due("end(3000) of 3000", house.end(3000), true);
        Trial.due("end(2999) of 3000", house.end(2999), true);
        Trial.due("end(3000) of 2999", house.end(3000), false);
    }

    // Promise 3: what stood behind n is gone, so that the next bytes come right behind the first n.
    private static void behindTheEndComesTheNext() {
        WardenHouse house = new WardenHouse();
        // "module m /a { ??????" to 14, then "}" and blanks.
        house.feed(0x6d6f6475, 0x6c65206d, 0x202f6120, 0x7b203f3f, 0x3f3f3f3f);
        Trial.due("end(14)", house.end(14), true);
        Trial.due("feed", house.feed(0x7d202020, BLANKS, BLANKS, BLANKS, BLANKS), true);
        Trial.due("count(9)", house.count(9), 34);
        Trial.due("program", Trial.program(house), 0);
        // The tape that was full is as a new one behind end(0).
        house = fed(150);
        Trial.due("end(0)", house.end(0), true);
        Trial.feed(house, LEAST);
        Trial.due("count(9)", house.count(9), LEAST.length());
        Trial.due("program", Trial.program(house), 0);
    }

    // Section 1: "the first n bytes of the TAPE (at most 3000 bytes)": byte 2999 is the last of the text.
    private static void longestText() {
        String ahead = Trial.times(" ", 3000 - LEAST.length());
        Trial.noFault(ahead + LEAST);
        Trial.fault(1, ahead + LEAST.substring(0, 14) + "^?");
        Trial.fault(1, ahead + LEAST.substring(0, 14) + " ^");
        Trial.noFault(LEAST + Trial.times("\n", 3000 - LEAST.length()));
        Trial.noFault(LEAST + Trial.times("#", 3000 - LEAST.length()));
        Trial.fault(1, LEAST + Trial.times(" ", 2999 - LEAST.length()) + "^;");
        WardenHouse house = Trial.house(LEAST.substring(0, 14) + "a() = " + Trial.times("0", 2975) + "47; }");
        Trial.due("a NUMBER of 2977 digits", house.number(0), 47);
        Trial.fault(1, LEAST.substring(0, 14) + "a() = ^" + Trial.times("1", 2977) + "; }");
        Trial.fault(1, "^" + Trial.times("m", 3000));
        Trial.fault(1, "grant ^" + Trial.times("/a", 1497));
        Trial.fault(1, "grant ^/" + Trial.times("a", 2993));
    }

    // Promise 4: "The TAPE (empty behind it in any case)".
    private static void emptyBehindProgram() {
        WardenHouse house = new WardenHouse();
        Trial.feed(house, LEAST);
        Trial.due("program", Trial.program(house), 0);
        Trial.due("count(9) behind a program", house.count(9), 0);
        Trial.due("end(1) behind a program", house.end(1), false);
        Trial.feed(house, LEAST + "?");
        Trial.due("program with a FAULT", Trial.program(house), -1);
        Trial.due("count(9) behind a FAULT", house.count(9), 0);
        Trial.due("program of the empty tape", Trial.program(house), -1);
        Trial.due("its FAULT", house.fault(0) + " " + house.fault(1), "1 0");
    }

    // Promise 11: "The TAPE (empty behind it)".
    private static void emptyBehindAsks() {
        WardenHouse house = new WardenHouse();
        Trial.due("asks", Trial.asks(house, "r /a"), true);
        Trial.due("count(9) behind it", house.count(9), 0);
        Trial.due("asks of the empty tape", house.asks(), false);
        Trial.due("asks", Trial.asks(house, "r /a ?"), false);
        Trial.due("count(9) behind it", house.count(9), 0);
        Trial.due("asks of 3000 bytes", Trial.asks(house, Trial.times(" ", 2996) + "r /a"), true);
        Trial.due("asks of 3000 bytes", Trial.asks(house, Trial.times(" ", 2995) + "r /a/"), false);
    }

    // What it is: "at most 512 calls after it has been made": the 512th still answers.
    private static void lastCalls() {
        WardenHouse house = new WardenHouse();
        // "module m /a { a() = out 7; }" by three calls, then 508.
        house.feed(0x6d6f6475, 0x6c65206d, 0x202f6120, 0x7b206128, 0x29203d20);
        house.feed(0x6f757420, 0x373b207d, BLANKS, BLANKS, BLANKS);
        Trial.due("program", Trial.program(house), 1);
        for (int i = 0; i < 508; i++) {
            Trial.due("run", Trial.run(house, 0, i, 4000, i % 2 == 0), 0);
        }
        Trial.due("call 512", house.event(0, 2), 7);
        house = new WardenHouse();
        for (int i = 0; i < 511; i++) {
            Trial.due("feed " + i, house.feed(i, i, i, i, i), i < 150);
        }
        Trial.due("call 512", house.count(9), 3000);
    }
}

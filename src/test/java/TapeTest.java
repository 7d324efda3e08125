/** Promises 1, 2, 3: a new object, feed, end. */
public final class TapeTest {
    public static void main(String[] args) {
        newObject();
        feeding();
        ending();
        byteOrder();
        Trial.end();
    }

    private static void newObject() {
        WardenHouse house = new WardenHouse();
        Trial.due("NONE", WardenHouse.NONE, -1);
        for (int what = 0; what < 10; what++) {
            Trial.due("new: count(" + what + ")", house.count(what), 0);
        }
        Trial.due("new: fault(0)", house.fault(0), 0);
        Trial.due("new: fault(1)", house.fault(1), -1);
        for (int what = 0; what < 9; what++) {
            Trial.due("new: unit", house.unit(0, what), -1);
            Trial.due("new: result", house.result(what), -1);
            Trial.due("new: event", house.event(0, what), -1);
            Trial.due("new: thread", house.thread(0, what), -1);
        }
        Trial.due("new: code", house.code(0, false, 0), -1);
        Trial.due("new: number", house.number(0), 0);
        Trial.due("new: domain", house.domain(0), -1);
        Trial.due("new: has", house.has(0, false), -1);
        Trial.due("new: may", house.may(0), -1);
        Trial.due("new: context", house.context(0, -1), -1);
        Trial.due("new: context", house.context(0, 0), -1);
    }

    private static void feeding() {
        WardenHouse house = new WardenHouse();
        for (int i = 1; i <= 150; i++) {
            Trial.due("feed " + i, house.feed(i, i, i, i, i), true);
            Trial.due("count(9)", house.count(9), 20 * i);
        }
        Trial.due("feed of a full tape", house.feed(1, 1, 1, 1, 1), false);
        Trial.due("count(9)", house.count(9), 3000);
        Trial.due("end(2981)", house.end(2981), true);
        Trial.due("feed beyond 3000", house.feed(1, 1, 1, 1, 1), false);
        Trial.due("count(9)", house.count(9), 2981);
        Trial.due("end(2980)", house.end(2980), true);
        Trial.due("feed up to 3000", house.feed(1, 1, 1, 1, 1), true);
        Trial.due("count(9)", house.count(9), 3000);
    }

    private static void ending() {
        WardenHouse house = new WardenHouse();
        Trial.due("end(0) of nothing", house.end(0), true);
        Trial.due("end(1) of nothing", house.end(1), false);
        Trial.due("feed", house.feed(0, 0, 0, 0, 0), true);
        Trial.due("end(21)", house.end(21), false);
        Trial.due("end(-1)", house.end(-1), false);
        Trial.due("end of the least", house.end(Integer.MIN_VALUE), false);
        Trial.due("end of the greatest", house.end(Integer.MAX_VALUE), false);
        Trial.due("count(9)", house.count(9), 20);
        Trial.due("end(20)", house.end(20), true);
        Trial.due("end(7)", house.end(7), true);
        Trial.due("count(9)", house.count(9), 7);
        Trial.due("end(8)", house.end(8), false);
        Trial.due("end(0)", house.end(0), true);
        Trial.due("count(9)", house.count(9), 0);
    }

    // "r /a" is taken only if the highest byte of each number is first, in the order of the numbers.
    private static void byteOrder() {
        WardenHouse house = new WardenHouse();
        Trial.due("feed", house.feed(0x72202020, 0x20202020, 0x20202020, 0x20202020, 0x20202f61), true);
        Trial.due("asks", house.asks(), true);
        Trial.due("feed", house.feed(0x20202072, 0x20202020, 0x20202020, 0x20202020, 0x2f612020), true);
        Trial.due("end(18)", house.end(18), true);
        Trial.due("asks", house.asks(), true);
        Trial.due("feed", house.feed(0xff722f61, 0x20202020, 0x20202020, 0x20202020, 0x20202020), true);
        Trial.due("asks with a byte 255", house.asks(), false);
    }
}

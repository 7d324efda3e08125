import java.nio.charset.StandardCharsets;
import java.util.ArrayList;
import java.util.List;

/** What all tests share: texts onto the tape, answers told from those that are due. */
final class Trial {
    private static int wrong = 0;
    private static int told = 0;

    private Trial() {
    }

    static void due(String what, long got, long want) {
        told++;
        if (got != want) {
            wrong++;
            System.out.println(what + " answered " + got + ", due is " + want);
        }
    }

    static void due(String what, boolean got, boolean want) {
        due(what, got ? 1L : 0L, want ? 1L : 0L);
    }

    static void due(String what, String got, String want) {
        told++;
        if (!got.equals(want)) {
            wrong++;
            System.out.println(shortened(what) + " answered\n  " + got + ", due is\n  " + want);
        }
    }

    private static String shortened(String text) {
        return text.length() <= 160 ? text : text.substring(0, 60) + " .. " + text.substring(text.length() - 90);
    }

    static void end() {
        System.out.println(told - wrong + " answers as due, " + wrong + " not");
        if (wrong != 0 || told == 0) {
            System.exit(1);
        }
    }

    static void feed(WardenHouse house, String text) {
        byte[] bytes = text.getBytes(StandardCharsets.ISO_8859_1);
        for (int i = 0; i < bytes.length; i += 20) {
            int[] numbers = new int[5];
            for (int j = 0; j < 20; j++) {
                int b = i + j < bytes.length ? bytes[i + j] & 255 : 0;
                numbers[j / 4] = numbers[j / 4] << 8 | b;
            }
            due("feed", house.feed(numbers[0], numbers[1], numbers[2], numbers[3], numbers[4]), true);
        }
        due("end", house.end(bytes.length), true);
    }

    /** A new house with this program, which must have no fault. */
    static WardenHouse house(String text) {
        WardenHouse house = new WardenHouse();
        feed(house, text);
        try {
            house.program();
        } catch (IllegalArgumentException e) {
            due("fault " + house.fault(0) + " at " + house.fault(1) + " of: " + text, 1, 0);
        }
        return house;
    }

    static boolean asks(WardenHouse house, String text) {
        feed(house, text);
        return house.asks();
    }

    /** The fault of a text as "kind place"; "none" without. */
    static String faultOf(String text) {
        WardenHouse house = new WardenHouse();
        feed(house, text);
        try {
            house.program();
        } catch (IllegalArgumentException e) {
            return house.fault(0) + " " + house.fault(1);
        }
        return "none";
    }

    /** The text without its first mark ^, behind which the fault must stand. */
    static void fault(int kind, String marked) {
        int place = marked.indexOf('^');
        String text = marked.substring(0, place) + marked.substring(place + 1);
        due("fault of: " + marked, faultOf(text), kind + " " + place);
    }

    static void noFault(String text) {
        due("fault of: " + text, faultOf(text), "none");
    }

    static String code(WardenHouse house, int u, boolean rewritten) {
        List<Integer> bytes = new ArrayList<>();
        for (int i = 0; house.code(u, rewritten, i) != WardenHouse.NONE; i++) {
            bytes.add(house.code(u, rewritten, i));
        }
        due("unit(" + u + ", " + (rewritten ? 8 : 7) + ")", house.unit(u, rewritten ? 8 : 7), bytes.size());
        return spaced(bytes);
    }

    /** Every event as "thread:kind:int", with "@asking" and "[index]" of a check. */
    static String events(WardenHouse house) {
        List<String> all = new ArrayList<>();
        for (int k = 0; house.event(k, 0) != WardenHouse.NONE; k++) {
            String event = house.event(k, 0) + ":" + house.event(k, 1) + ":" + house.event(k, 2);
            if (house.event(k, 1) == 1) {
                event += "@" + house.event(k, 3);
            } else {
                due("event(" + k + ", 3)", house.event(k, 3), WardenHouse.NONE);
                due("event(" + k + ", 4)", house.event(k, 4), WardenHouse.NONE);
            }
            if (house.event(k, 4) != WardenHouse.NONE) {
                event += "[" + house.event(k, 4) + "]";
            }
            all.add(event);
        }
        return spaced(all);
    }

    static String results(WardenHouse house) {
        List<Integer> all = new ArrayList<>();
        for (int what = 0; what < 8; what++) {
            all.add(house.result(what));
        }
        return spaced(all);
    }

    static String thread(WardenHouse house, int t) {
        List<Integer> all = new ArrayList<>();
        for (int what = 0; what < 5; what++) {
            all.add(house.thread(t, what));
        }
        return spaced(all);
    }

    static String contexts(WardenHouse house) {
        List<String> all = new ArrayList<>();
        for (int k = 0; house.context(k, WardenHouse.NONE) != WardenHouse.NONE; k++) {
            List<Integer> products = new ArrayList<>();
            for (int i = 0; i < house.context(k, WardenHouse.NONE); i++) {
                products.add(house.context(k, i));
            }
            all.add("{" + spaced(products) + "}");
        }
        return spaced(all);
    }

    static String units(WardenHouse house, int what) {
        List<Integer> all = new ArrayList<>();
        for (int u = 0; u < house.count(0); u++) {
            all.add(house.unit(u, what));
        }
        return spaced(all);
    }

    static String mays(WardenHouse house) {
        List<Integer> all = new ArrayList<>();
        for (int u = 0; u < house.count(0); u++) {
            all.add(house.may(u));
        }
        return spaced(all);
    }

    /** The value or failure of the first thread of a walking run of unit 0: "value sort" or "fails n". */
    static String outcome(String text) {
        WardenHouse house = house(text);
        house.run(0, 0, 4000, false);
        String walked = outcomeOf(house) + " " + events(house);
        house.run(0, 0, 4000, true);
        due("rewritten: " + text, outcomeOf(house) + " " + events(house), walked);
        return outcomeOf(house);
    }

    private static String outcomeOf(WardenHouse house) {
        switch (house.thread(0, 0)) {
            case 0: return "goes on";
            case 1: return house.thread(0, 1) + " " + house.thread(0, 2);
            default: return "fails " + house.thread(0, 1);
        }
    }

    static String times(String text, int n) {
        StringBuilder all = new StringBuilder();
        for (int i = 0; i < n; i++) {
            all.append(text);
        }
        return all.toString();
    }

    /** text with each % replaced by 0, 1, .. and between in between. */
    static String numbered(String text, String between, int n) {
        StringBuilder all = new StringBuilder();
        for (int i = 0; i < n; i++) {
            all.append(i > 0 ? between : "").append(text.replace("%", Integer.toString(i)));
        }
        return all.toString();
    }

    /** The unit whose word or name stands where head begins in the text, behind a blank; NONE without. */
    static int unitAt(WardenHouse house, String text, String head) {
        int place = text.indexOf(" " + head) + 1;
        for (int u = 0; u < house.count(0); u++) {
            if (house.unit(u, 2) == place) {
                return u;
            }
        }
        due("a unit at " + head, 0, 1);
        return WardenHouse.NONE;
    }

    /** How program() answers for what is on the tape; NONE for IllegalArgumentException. */
    static int program(WardenHouse house) {
        try {
            return house.program();
        } catch (IllegalArgumentException e) {
            return WardenHouse.NONE;
        }
    }

    /** How run() answers; -1 for IllegalStateException, -2 for IllegalArgumentException. */
    static int run(WardenHouse house, int u, int seed, int steps, boolean rewritten) {
        try {
            return house.run(u, seed, steps, rewritten);
        } catch (IllegalStateException e) {
            return -1;
        } catch (IllegalArgumentException e) {
            return -2;
        }
    }

    private static String spaced(List<?> all) {
        StringBuilder text = new StringBuilder();
        for (Object one : all) {
            text.append(text.length() > 0 ? " " : "").append(one);
        }
        return text.toString();
    }
}

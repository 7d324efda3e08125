/** Boundary cases of PATTERNs that COVER (section 1), DOMAINS (section 2) and promises 10, 11, 12. */
public final class EdgeRightTest {
    private static final String[] TAILS = {"", "/*", "/-"};

    public static void main(String[] args) {
        coversByLength();
        coversByEachStep();
        kindsAreTheSame();
        lettersAreToldApart();
        grantsCoverModules();
        domainsOfAllModules();
        domainsAreSetsOfGrants();
        lastRightCounts();
        domainOfAUnit();
        domainCalls();
        placeThatIsAsked();
        askedStays();
        hasCalls();
        Trial.end();
    }

    // STEPS a, b, c, d, e from the first on.
    private static String steps(int n) {
        return "/a/b/c/d/e".substring(0, 2 * n);
    }

    // Section 1: without a tail "the PLACE that is the same; with /* one that has its STEPS and one more; with /- .. one or more others".
    private static void coversByLength() {
        for (int p = 0; p <= 4; p++) {
            for (int tail = p == 0 ? 1 : 0; tail < 3; tail++) {
                WardenHouse house = Trial.house("grant /- { r " + steps(p) + TAILS[tail] + "; } module m /m { a() = priv [r " + steps(p) + TAILS[tail] + "] 1; }");
                for (int n = 1; n <= 5; n++) {
                    boolean due = tail == 0 ? n == p : tail == 1 ? n == p + 1 : n > p;
                    Trial.due("asks", Trial.asks(house, "r " + steps(n)), true);
                    Trial.due(steps(p) + TAILS[tail] + " covers " + steps(n), house.has(0, false), due ? 1 : 0);
                    Trial.due("likewise in a LIMIT", house.has(0, true), due ? 1 : 0);
                }
            }
        }
    }

    // Section 1: "has its STEPS": each of them, from the first to the last, by all of its letters.
    private static void coversByEachStep() {
        for (int p = 1; p <= 4; p++) {
            for (int tail = 0; tail < 3; tail++) {
                WardenHouse house = Trial.house("grant /- { r " + steps(p) + TAILS[tail] + "; } module m /m { }");
                int n = tail == 0 ? p : p + 1;
                for (int at = 0; at < n; at++) {
                    String[] other = {"x", (char) ('a' + at) + "a", (char) ('a' + at) + "0"};
                    for (String step : other) {
                        String place = steps(at) + "/" + step + steps(n).substring(2 * at + 2);
                        Trial.due("asks", Trial.asks(house, "r " + place), true);
                        Trial.due(steps(p) + TAILS[tail] + " covers " + place, house.has(0, false), at < p ? 0 : 1);
                    }
                }
            }
        }
        // The same but for the first, or the last, of six letters.
        WardenHouse house = Trial.house("grant /- { r /abcdef; } module m /m { }");
        String[] places = {"/abcdef", "/abcdeg", "/bbcdef", "/abcde", "/bcdef"};
        for (int i = 0; i < places.length; i++) {
            Trial.asks(house, "r " + places[i]);
            Trial.due("/abcdef covers " + places[i], house.has(0, false), i == 0 ? 1 : 0);
        }
    }

    // Section 1: "if it is of that KIND".
    private static void kindsAreTheSame() {
        WardenHouse house = Trial.house("grant /- { abcdefgh /x; } module m /m { a() = priv [abcdefgh /-] 1; }");
        String[] kinds = {"abcdefgh", "abcdefgi", "bbcdefgh", "abcdefg", "bcdefgh", "a"};
        for (int i = 0; i < kinds.length; i++) {
            Trial.due("asks", Trial.asks(house, kinds[i] + " /x"), true);
            Trial.due("has of " + kinds[i], house.has(0, false) + " " + house.has(0, true), i == 0 ? "1 1" : "0 0");
        }
    }

    // Section 1: a STEP or a KIND is the same if all its letters and digits are: each of the 36 told from each.
    private static void lettersAreToldApart() {
        String all = "abcdefghijklmnopqrstuvwxyz0123456789";
        for (char c : all.toCharArray()) {
            String kind = c <= '9' ? "k" + c : c + "k";
            WardenHouse house = Trial.house("grant /- { r /" + c + "; r /m" + c + "; " + kind + " /x; } module m /m { }");
            for (char d : all.toCharArray()) {
                String asked = d <= '9' ? "k" + d : d + "k";
                Trial.asks(house, "r /" + d);
                Trial.due("/" + c + " covers /" + d, house.has(0, false), c == d ? 1 : 0);
                Trial.asks(house, "r /m" + d);
                Trial.due("/m" + c + " covers /m" + d, house.has(0, false), c == d ? 1 : 0);
                Trial.asks(house, asked + " /x");
                Trial.due(kind + " is " + asked, house.has(0, false), c == d ? 1 : 0);
            }
            house = Trial.house("grant /- { r /" + c + "m; k" + c + " /x; } module m /m { }");
            for (char d : all.toCharArray()) {
                Trial.asks(house, "r /" + d + "m");
                Trial.due("/" + c + "m covers /" + d + "m", house.has(0, false), c == d ? 1 : 0);
                Trial.asks(house, "r /" + d + "a");
                Trial.due("/" + c + "m covers /" + d + "a", house.has(0, false), 0);
                Trial.asks(house, "k" + d + " /x");
                Trial.due("k" + c + " is k" + d, house.has(0, false), c == d ? 1 : 0);
            }
        }
        // Two letters, each next to one of the other's: ab is not ba, nor b alone, nor aab.
        WardenHouse house = Trial.house("grant /- { r /ab; } module m /m { }");
        for (String step : new String[] {"ba", "b", "a", "aab", "abb", "a1", "bb", "cb", "aa", "ac", "abcdef"}) {
            Trial.asks(house, "r /" + step);
            Trial.due("/ab covers /" + step, house.has(0, false), 0);
        }
        for (String[] two : new String[][] {{"ba", "ca"}, {"aa", "ba"}, {"a0", "b0"}, {"za", "a9"}, {"aaaaaaaa", "baaaaaaa"}, {"aaaaaaab", "aaaaaaba"}}) {
            Trial.fault(3, "module m /a { a(" + two[0] + ") = ^" + two[1] + "; }");
            Trial.fault(3, "module m /a { a(" + two[1] + ") = ^" + two[0] + "; }");
        }
    }

    // Section 2: "the set of the GRANTs whose PATTERN COVERS its PLACE", with PLACEs of one to four STEPS.
    private static void grantsCoverModules() {
        for (int p = 0; p <= 4; p++) {
            for (int tail = p == 0 ? 1 : 0; tail < 3; tail++) {
                String text = "grant " + steps(p) + TAILS[tail] + " { r /x; }";
                for (int n = 1; n <= 4; n++) {
                    text += " module m" + n + " " + steps(n) + " { }";
                }
                WardenHouse house = Trial.house(text);
                Trial.asks(house, "r /x");
                for (int n = 1; n <= 4; n++) {
                    boolean due = tail == 0 ? n == p : tail == 1 ? n == p + 1 : n > p;
                    Trial.due("grant " + steps(p) + TAILS[tail] + " to " + steps(n), house.has(house.domain(n - 1), false), due ? 1 : 0);
                }
            }
        }
    }

    // Section 2: "equal sets are one DOMAIN; they are numbered as the modules come": from one to eight.
    private static void domainsOfAllModules() {
        for (int n = 1; n <= 8; n++) {
            WardenHouse apart = Trial.house(Trial.numbered("grant /s% { }", " ", n) + Trial.numbered(" module m% /s% { }", "", n));
            WardenHouse one = Trial.house("grant /- { }" + Trial.numbered(" module m% /s% { }", "", n));
            WardenHouse none = Trial.house(Trial.numbered(" module m% /s% { }", "", n));
            Trial.due("count(3) of " + n, apart.count(3) + " " + one.count(3) + " " + none.count(3), n + " 1 1");
            for (int m = 0; m < n; m++) {
                Trial.due("domain(" + m + ")", apart.domain(m) + " " + one.domain(m) + " " + none.domain(m), m + " 0 0");
            }
            Trial.due("domain(" + n + ")", apart.domain(n) + " " + one.domain(n) + " " + none.domain(n), "-1 -1 -1");
        }
    }

    // Section 2: "equal sets": also the empty one, also where GRANTs have one PATTERN or no RIGHTs.
    private static void domainsAreSetsOfGrants() {
        domains("grant /a { } grant /a { r /x; }", "/a /b /a /c", "0 1 0 1");
        domains("grant /a { } grant /b { } grant /- { }", "/b /a /c /b /a /d", "0 1 2 0 1 2");
        domains("grant /a/- { } grant /a/* { } grant /a/b { }", "/a/b /a/c /a/b/c /a /a/b /b/b", "0 1 2 3 0 3");
        domains("", "/a /b", "0 0");
        // The GRANTs that cover two modules may have the same RIGHTs, and be two sets all the same.
        domains("grant /a { r /x; } grant /b { r /x; }", "/a /b", "0 1");
        // The first and the last of eight GRANTs are told apart.
        domains("grant /a { } " + Trial.times("grant /z { } ", 6) + "grant /b { }", "/c /b /a", "0 1 2");
    }

    private static void domains(String grants, String places, String due) {
        StringBuilder text = new StringBuilder(grants);
        String[] all = places.split(" ");
        for (int m = 0; m < all.length; m++) {
            text.append(" module m").append(m).append(' ').append(all[m]).append(" { }");
        }
        WardenHouse house = Trial.house(text.toString());
        StringBuilder got = new StringBuilder();
        for (int m = 0; m < all.length; m++) {
            got.append(m > 0 ? " " : "").append(house.domain(m));
        }
        Trial.due("domains of " + text, got.toString(), due);
    }

    // Section 2: "if a RIGHT of such a GRANT has it; a LIMIT if one of its RIGHTs has it": the eighth of the eighth, or of the twelfth, too.
    private static void lastRightCounts() {
        for (int at = 0; at < 8; at++) {
            String[] rights = {"n /x", "n /x", "n /x", "n /x", "n /x", "n /x", "n /x", "n /x"};
            rights[at] = "r /x";
            String grants = Trial.times("grant /- { n /x; } ", at) + "grant /- { " + String.join("; ", rights) + "; } " + Trial.times("grant /- { n /x; } ", 7 - at);
            WardenHouse house = Trial.house(grants + "module m /a { a() = 1" + Trial.times(" + priv [n /x] 1", at + 4) + " + priv [" + String.join(", ", rights) + "] 1; }");
            Trial.asks(house, "r /x");
            Trial.due("RIGHT " + at + " of GRANT " + at, house.has(0, false), 1);
            Trial.due("RIGHT " + at + " of LIMIT " + (at + 4), house.has(at + 4, true), 1);
            Trial.due("the LIMIT ahead of it", house.has(at + 3, true), 0);
        }
        // A GRANT without RIGHTs has nothing, though it covers.
        WardenHouse house = Trial.house("grant /- { } module m /a { }");
        Trial.asks(house, "r /x");
        Trial.due("no RIGHTs", house.has(0, false), 0);
    }

    // Section 2: "The DOMAIN of a UNIT is that of the module in which it is written", not that of the object.
    private static void domainOfAUnit() {
        String text = "grant /a { r /x; } module low /b { up() = able r /x; } module m /a : low { a() = able r /x; b() = priv able r /x; c() = self.up(); }"
            + " module n /b : m { d() = self.b(); e() = self.a(); }";
        WardenHouse house = Trial.house(text);
        String[] heads = {"a() =", "b() =", "c() =", "d() =", "e() =", "up() ="};
        int[] due = {1, 1, 0, 1, 0, 0};
        for (int i = 0; i < heads.length; i++) {
            for (int turn = 0; turn < 2; turn++) {
                Trial.due("run", house.run(Trial.unitAt(house, text, heads[i]), 0, 10, turn == 1), 0);
                Trial.due("able in " + heads[i], house.thread(0, 1), due[i]);
            }
        }
    }

    // Promise 10: "The DOMAIN of a module; NONE if there is none."
    private static void domainCalls() {
        WardenHouse house = Trial.house(Trial.numbered("grant /s% { }", " ", 8) + Trial.numbered(" module m% /s% { }", "", 8));
        for (int m : new int[] {-1, -2, 8, 9, 60, Integer.MIN_VALUE, Integer.MAX_VALUE}) {
            Trial.due("domain(" + m + ")", house.domain(m), -1);
        }
        Trial.due("domain(7)", house.domain(7), 7);
        house = Trial.house("module m /a { }");
        Trial.due("domain of one", house.domain(0) + " " + house.domain(1), "0 -1");
    }

    // Promise 11: "a KIND and a PLACE of up to five STEPS (blanks as in a text), and nothing else"; "false .. for anything else".
    private static void placeThatIsAsked() {
        WardenHouse house = new WardenHouse();
        for (int n = 0; n <= 7; n++) {
            Trial.due("asks of " + n + " STEPS", Trial.asks(house, "r " + Trial.times("/a", n)), n >= 1 && n <= 5);
            Trial.due("asks of " + n + " STEPS with a tail", Trial.asks(house, "r " + Trial.times("/a", n) + "/*"), false);
            Trial.due("asks of " + n + " STEPS with a tail", Trial.asks(house, "r " + Trial.times("/a", n) + "/-"), false);
            Trial.due("asks of " + n + " STEPS and a /", Trial.asks(house, "r " + Trial.times("/a", n) + "/"), false);
        }
        for (int at = 0; at < 5; at++) {
            Trial.due("a STEP of 6", Trial.asks(house, "r " + Trial.times("/a", at) + "/abcdef" + Trial.times("/a", 4 - at)), true);
            Trial.due("a STEP of 7", Trial.asks(house, "r " + Trial.times("/a", at) + "/abcdefg" + Trial.times("/a", 4 - at)), false);
        }
        house = new WardenHouse();
        for (String good : new String[] {"r/a", "abcdefgh/a", "r1/1", "\n r \n /a \n ", "#\nr#\n/a#", "r /a#\n"}) {
            Trial.due("asks " + good, Trial.asks(house, good), true);
        }
        for (String bad : new String[] {"", " ", "#", "r", "/a", "r a", "r r", "/a r", "r /a /a", "r /a/a r", "r r /a", "r /a 1", "r /a ;", "r /a ?", "r /a #\n?", "? r /a",
            "abcdefghi /a", "1 /a", "1r /a", "R /a", "r /A", "r /a /", "r\t/a", "r /a\r", "r #/a", "r / a", "r //a", "self /a", "fail /a", "r /a\u0000"}) {
            Trial.due("asks " + bad, Trial.asks(house, bad), false);
            Trial.due("count(9) behind it", house.count(9), 0);
        }
        // Of a program's PLACE four is still the most.
        Trial.feed(house, "module m /a/b/c/d/e { }");
        Trial.due("program", Trial.program(house), -1);
    }

    // Promise 11: "that is ASKED from now on .. false, and the former one stays".
    private static void askedStays() {
        WardenHouse house = Trial.house("grant /- { r /x; } module m /a { a() = 1; }");
        Trial.due("asks", Trial.asks(house, "r /x/-"), false);
        Trial.due("nothing is ASKED yet", house.has(0, false) + " " + house.may(0), "-1 -1");
        Trial.due("asks", Trial.asks(house, "r /x"), true);
        Trial.due("has", house.has(0, false) + " " + house.may(0), "1 1");
        for (String bad : new String[] {"w /x x", "w /x/*", "w", "w /x/1/2/3/4/5", "r /y ?", ""}) {
            Trial.due("asks " + bad, Trial.asks(house, bad), false);
            Trial.due("the former one stays", house.has(0, false) + " " + house.may(0), "1 1");
        }
        Trial.due("asks", Trial.asks(house, "w /x"), true);
        Trial.due("has", house.has(0, false) + " " + house.may(0), "0 2");
        Trial.due("asks again", Trial.asks(house, "r /x"), true);
        Trial.due("has", house.has(0, false) + " " + house.may(0), "1 1");
    }

    // Promise 12: "1 or 0; NONE without it, without a program, or if nothing is ASKED yet".
    private static void hasCalls() {
        String text = Trial.numbered("grant /s% { r /x; }", " ", 7) + Trial.numbered(" module m% /s% { }", "", 8) + " ";
        text = text.substring(0, text.length() - 3) + "a() = 1" + Trial.times(" + priv [r /x] 1", 12) + "; }";
        WardenHouse house = new WardenHouse();
        Trial.due("neither", house.has(0, false), -1);
        Trial.feed(house, text);
        Trial.due("program", Trial.program(house), 13);
        Trial.due("nothing is ASKED", house.has(0, false) + " " + house.has(0, true), "-1 -1");
        Trial.asks(house, "r /x");
        for (int k = 0; k < 12; k++) {
            Trial.due("has(" + k + ", false)", house.has(k, false), k < 7 ? 1 : k == 7 ? 0 : -1);
            Trial.due("has(" + k + ", true)", house.has(k, true), 1);
        }
        for (int k : new int[] {12, 13, 20, 32, 64, -1, -2, -12, Integer.MIN_VALUE, Integer.MAX_VALUE}) {
            Trial.due("has(" + k + ", false)", house.has(k, false), -1);
            Trial.due("has(" + k + ", true)", house.has(k, true), -1);
        }
        Trial.feed(house, "module m /a { }");
        Trial.due("program", Trial.program(house), 0);
        Trial.due("has of the next", house.has(0, false) + " " + house.has(1, false) + " " + house.has(0, true), "0 -1 -1");
        Trial.feed(house, "?");
        Trial.due("program", Trial.program(house), -1);
        Trial.due("has without a program", house.has(0, false) + " " + house.has(0, true), "-1 -1");
    }
}

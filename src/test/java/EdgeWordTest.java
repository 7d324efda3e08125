/** Boundary cases of the WORDS of section 1: how long and how great they may be, and where each ends. */
public final class EdgeWordTest {
    private static final String[] KEYWORDS = ("grant module field let in if then else try catch priv under fun new none self ctx"
        + " check able out spawn wait fail").split(" ");

    public static void main(String[] args) {
        longestName();
        lettersAndDigits();
        keywordsAreNoNames();
        greatestNumber();
        stepsOfAPattern();
        lettersOfAStep();
        tails();
        slashThatEndsAPattern();
        longestSign();
        bytesOfAText();
        bytesBehindAWord();
        comments();
        Trial.end();
    }

    private static String within(String e) {
        return "module m /a { field f; a(p, q) = " + e + "; }";
    }

    // Section 1: "a NAME: a letter a .. z, then letters a .. z and digits, at most 8 in all"; "A word too long .. no word".
    private static void longestName() {
        for (String text : new String[] {
            "module ^@ /a { }", "module m /a { field ^@; }", "module m /a { ^@() = 1; }", "module m /a { a(^@) = 1; }",
            "module m /a { a(x, y, ^@) = 1; }", "module m /a { a() = fun(^@) { 1 }; }", "module m /a { a() = let ^@ = 1 in 1; }",
            "module m /a { a() = try 1 catch ^@ : 1; }", "module m /a { a() = 1.^@; }", "module m /a { a() = 1.^@(); }",
            "module m /a { a() = 1.^@ := 2; }", "module m /a { a() = check ^@ /x; }", "module m /a { a() = able ^@ /x; }",
            "module m /a { a() = priv [^@ /x] 1; }", "grant /a { ^@ /x; } module m /a { }"}) {
            Trial.noFault(text.replace("^@", "a"));
            Trial.noFault(text.replace("^@", "abcdefgh"));
            Trial.noFault(text.replace("^@", "z9876543"));
            Trial.fault(1, text.replace("@", "abcdefghi"));
            Trial.fault(1, text.replace("@", "a12345678"));
            Trial.fault(1, text.replace("@", "abcdefghijklmnopqrstuvwxyz"));
        }
        Trial.noFault("module abcdefgh /a { } module n /a : abcdefgh { a() = new abcdefgh; }");
        Trial.fault(1, "module abcdefgh /a { } module n /a : ^abcdefghi { }");
        Trial.fault(1, "module abcdefgh /a { a() = new ^abcdefghi; }");
        Trial.fault(1, "module m /a { a(abcdefgh) = ^abcdefghi; }");
        // NAMES that are the same but for the last, or the first, of eight letters are two.
        Trial.noFault("module abcdefgh /a { } module abcdefgi /a { } module bbcdefgh /a { }");
        Trial.fault(3, "module m /a { a(abcdefgh) = ^abcdefg; }");
        Trial.fault(3, "module m /a { a(abcdefg) = ^abcdefgh; }");
        // Letters and digits are told from one another, and from none: a, 0 and what is shorter.
        Trial.noFault("module a /a { } module a0 /a { } module a00 /a { } module aa /a { } module a0a /a { } module z /a { } module z9 /a { }");
    }

    // Section 1: the bytes next to a .. z and 0 .. 9 are none of them; a digit begins no NAME.
    private static void lettersAndDigits() {
        for (char c = 'a'; c <= 'z'; c++) {
            Trial.noFault("module " + c + " /a { }");
            Trial.noFault("module m" + c + " /" + c + " { }");
        }
        for (char c = '0'; c <= '9'; c++) {
            Trial.fault(1, "module ^" + c + " /a { }");
            Trial.noFault("module m" + c + " /" + c + " { }");
            Trial.noFault(within("" + c));
        }
        for (char c : new char[] {'`', '@', 'A', 'Z', '_', '?', '|', '~', '\\', '"', '\'', '$', '%', '&', '!', '>'}) {
            Trial.fault(1, "module ^" + c + " /a { }");
            Trial.fault(1, "module m^" + c + " /a { }");
            Trial.fault(1, "module m /a^" + c + " { }");
            Trial.fault(1, "module m ^/" + c + " { }");
            Trial.fault(1, within("1^" + c));
        }
    }

    // Section 1: "none of the KEYWORDS": each by itself, and what is one letter more or less.
    private static void keywordsAreNoNames() {
        Trial.due("KEYWORDS", KEYWORDS.length, 23);
        for (String word : KEYWORDS) {
            Trial.fault(1, "module ^" + word + " /a { }");
            Trial.fault(1, "module m /a { field ^" + word + "; }");
            Trial.fault(1, "grant /a { r /x; ^" + word + " /x; } module m /a { }");
            Trial.fault(1, within("self.^" + word));
            Trial.due("asks " + word, Trial.asks(new WardenHouse(), word + " /a"), false);
            String less = word.substring(0, word.length() - 1);
            for (String name : new String[] {word + "x", word + "0", less}) {
                Trial.noFault("module " + name + " /a { field " + name + "; " + name + "(" + name + ") = " + name + "." + name + "; }");
            }
            // A STEP is no NAME, so it may be as a KEYWORD (of up to six letters).
            Trial.noFault("module m /" + word + " { }");
        }
    }

    // Section 1: "a NUMBER: digits, at most 2147483647"; too great is no word, also where 32 or 64 bits wrap.
    private static void greatestNumber() {
        String[] good = {"0", "00", "1", "9", "10", "2147483646", "2147483647", "02147483647", "0000000000000000000002147483647"};
        int[] due = {0, 0, 1, 9, 10, 2147483646, 2147483647, 2147483647, 2147483647};
        for (int i = 0; i < good.length; i++) {
            WardenHouse house = Trial.house(within(good[i]));
            Trial.due("count(7) with " + good[i], house.count(7), 1);
            Trial.due("number(0) of " + good[i], house.number(0), due[i]);
        }
        for (String bad : new String[] {"2147483648", "2147483650", "02147483648", "4294967295", "4294967296", "4294967297", "9999999999",
            "21474836470", "9223372036854775807", "9223372036854775808", "18446744073709551615", "18446744073709551616", "18446744073709551617",
            "36893488147419103233", "100000000000000000000000000000000000000000000000001"}) {
            Trial.fault(1, within("^" + bad));
        }
        // As long as can be: digits end at what is none.
        Trial.fault(1, within("12^a"));
        Trial.fault(1, within("12 ^34"));
        Trial.noFault(within("1+2*3-4<5"));
        Trial.noFault(within("1.f"));
    }

    private static String grant(String pattern) {
        return "grant " + pattern + " { } module m /a { }";
    }

    // Section 1: "a PATTERN: one to four STEPS"; "of more STEPS .. no word".
    private static void stepsOfAPattern() {
        for (int n = 1; n <= 6; n++) {
            for (String tail : new String[] {"", "/*", "/-"}) {
                String pattern = Trial.times("/s1", n) + tail;
                if (n <= 4) {
                    Trial.noFault(grant(pattern));
                    Trial.noFault("grant /a { r " + pattern + "; } module m /a { a() = priv [r " + pattern + "] 1; }");
                } else {
                    Trial.fault(1, grant("^" + pattern));
                    Trial.fault(1, "grant /a { r ^" + pattern + "; } module m /a { }");
                    Trial.fault(1, within("priv [r ^" + pattern + "] 1"));
                    // No word is 1, also where a tail could not stand (5).
                    Trial.fault(1, "module m ^" + pattern + " { }");
                    Trial.fault(1, within("check r ^" + pattern));
                    Trial.fault(1, within("able r ^" + pattern + " [1]"));
                }
            }
            String place = Trial.times("/s1", n);
            if (n <= 4) {
                Trial.noFault("module m " + place + " { a() = check r " + place + " + able r " + place + " [1]; }");
            }
        }
        // Two of four with a blank between are two words.
        Trial.fault(1, "grant /a/b/c/d ^/e/f/g/h { } module m /a { }");
        Trial.fault(1, "grant /a/b/*^/* { } module m /a { }");
    }

    // Section 1: "each a / and 1 to 6 letters a .. z and digits", in each of the four places.
    private static void lettersOfAStep() {
        for (int at = 0; at < 4; at++) {
            String ahead = Trial.times("/x", at);
            String behind = Trial.times("/x", 3 - at);
            for (String tail : new String[] {"", "/*", "/-"}) {
                Trial.noFault(grant(ahead + "/a" + behind + tail));
                Trial.noFault(grant(ahead + "/abcdef" + behind + tail));
                Trial.noFault(grant(ahead + "/012345" + behind + tail));
                Trial.noFault(grant(ahead + "/9" + behind + tail));
                Trial.fault(1, grant("^" + ahead + "/abcdefg" + behind + tail));
                Trial.fault(1, grant("^" + ahead + "/0123456" + behind + tail));
            }
        }
        Trial.fault(1, grant("/a^A"));
        Trial.fault(1, grant("/abcdef^_"));
    }

    // Section 1: "perhaps with a tail /* or /- behind them, or a tail alone".
    private static void tails() {
        for (String pattern : new String[] {"/*", "/-", "/a/*", "/a/-", "/a/b/c/d/*", "/a/b/c/d/-"}) {
            Trial.noFault(grant(pattern));
            Trial.fault(5, "module m ^" + pattern + " { }");
            Trial.fault(1, grant(pattern + "^/"));
            Trial.fault(1, grant(pattern + "^*"));
            Trial.fault(1, grant(pattern + "^-"));
            Trial.fault(1, grant(pattern + "^a"));
            Trial.fault(1, grant(pattern + "^1"));
            Trial.fault(1, grant(pattern + "^/a"));
            Trial.fault(1, grant(pattern + "^/-"));
        }
        // The sign behind a PLACE is no tail without its own /.
        Trial.noFault(within("check r /a*2"));
        Trial.noFault(within("check r /a-2"));
        Trial.noFault(within("check r /a *2"));
        Trial.fault(5, within("check r ^/a/*2"));
        Trial.fault(5, within("check r ^/a/-2"));
    }

    // Section 1: "(a / that neither a letter, a digit, * nor - stands behind ends it)": that / itself is no word.
    private static void slashThatEndsAPattern() {
        Trial.fault(1, grant("^/"));
        Trial.fault(1, grant("^//"));
        Trial.fault(1, grant("^/ a"));
        Trial.fault(1, grant("^/+"));
        Trial.fault(1, grant("^/#"));
        Trial.fault(1, "grant ^/");
        for (String ahead : new String[] {"/a", "/a/b/c/d", "/a/*", "/-"}) {
            for (String behind : new String[] {"", " ", "/", "+", "\n", ".", "A", "#", "{", "\u0000", "\u00ff"}) {
                Trial.fault(1, "grant " + ahead + "^/" + behind);
            }
        }
        // Four STEPS, then such a /: a PATTERN, and what is no word behind it.
        Trial.fault(1, grant("/a/b/c/d^/ "));
        Trial.fault(1, "module m /a^/{ }");
        // The text ends in a PATTERN: at n, not at it.
        Trial.fault(1, "grant /a^");
        Trial.fault(1, "grant /a/*^");
    }

    // Section 1: "WORDS, as long as can be": := and == are one each where they can be.
    private static void longestSign() {
        Trial.noFault(within("self.f:=p==q"));
        Trial.noFault(within("self.f := p == q"));
        Trial.fault(1, within("self.f ^: = p"));
        Trial.fault(1, within("p ^= = q"));
        Trial.fault(1, within("p ==^= q"));
        Trial.fault(1, within("p ==^== q"));
        Trial.fault(1, within("self.f :=^= q"));
        Trial.fault(1, within("self.f ^::= q"));
        Trial.fault(1, within("try p catch e ^:=1"));
        Trial.fault(1, within("under ctx ^:=1"));
        Trial.fault(1, within("let x ^== 1 in x"));
        Trial.fault(1, "module m /a { a()^==1; }");
        Trial.fault(1, "module m /a { } module n /a ^:=m { }");
        Trial.noFault("module m /a{a()=1;}module n /a:m{}");
        Trial.fault(1, within("p <^= q"));
        Trial.fault(1, within("p <^< q"));
        Trial.fault(1, within("p *^* q"));
        Trial.fault(1, within("p -^- q"));
        Trial.fault(1, within("p ^>= q"));
    }

    // Section 1: "10 and 32 .. 126": behind a module only blanks and # may stand, and of no other byte a word.
    private static void bytesOfAText() {
        for (char c = 0; c < 256; c++) {
            if (c == 10 || c == 32 || c == '#') {
                Trial.noFault("module m /a { }" + c);
                Trial.noFault(c + "\nmodule m /a { }");
            } else {
                Trial.due("fault at byte " + (int) c, Trial.faultOf("module m /a { } " + c), "1 16");
                Trial.due("fault at byte " + (int) c, Trial.faultOf("module m /a { }" + c + "\n"), "1 15");
            }
        }
    }

    // Section 1: which bytes go on with a NAME, which end it and may stand behind it, and which are no word.
    private static void bytesBehindAWord() {
        for (char c = 0; c < 256; c++) {
            String text = "module m" + c + " /a { }";
            boolean goesOn = c >= 'a' && c <= 'z' || c >= '0' && c <= '9';
            boolean blank = c == 10 || c == 32;
            String due = goesOn || blank ? "none" : c == '#' ? "1 " + text.length() : "1 8";
            Trial.due("m and byte " + (int) c, Trial.faultOf(text), due);
            text = "module m /a { } " + "module " + c + "q /a { }";
            due = c >= 'a' && c <= 'z' || blank ? "none" : c == '#' ? "1 " + text.length() : "1 23";
            Trial.due("byte " + (int) c + " and q", Trial.faultOf(text), due);
        }
    }

    // Section 1: "# with all that is behind it up to a 10, may stand between".
    private static void comments() {
        Trial.noFault("#\nmodule#\nm#\n/a#\n{#\n}#\n");
        Trial.noFault("# # ## module\n#\n\n#\nmodule m /a { }#");
        Trial.noFault("module m /a { }# } ? grant");
        Trial.noFault("module m /a { }#\n");
        Trial.fault(1, "#^");
        Trial.fault(1, "# module m /a { }^");
        Trial.fault(1, "module m /a { # }^");
        Trial.fault(1, "module m /a { } #\n^?");
        Trial.fault(1, "module m /a { } # ?\n^;");
        // Between words alone: it ends the word that stands ahead of it.
        Trial.fault(1, "^mod#\nule m /a { }");
        Trial.fault(1, "module m /a#\n^/b { }");
        Trial.fault(1, within("1#\n^2"));
        Trial.fault(1, within("self.f ^:#\n= 1"));
        // All that is behind it: any byte but a 10.
        for (char c = 0; c < 256; c++) {
            if (c != 10) {
                Trial.noFault("module m #" + c + "\n/a { }");
            }
        }
        Trial.fault(1, "module m # \r^");
    }
}

/** Part 1 of the document and promises 2 to 4, sentence by sentence: each bound, and what is one beyond it. */
public final class TextBoundsTest {
    private static final int NONE = DollCongress.NONE, OUTSIDE = DollCongress.OUTSIDE, FULL = DollCongress.FULL;
    private static final Doc doc = new Doc("TextBoundsTest");
    private static final String FIGURES = "0123456789";

    public static void main(String[] args) {
        letters();
        lengthOfTheText();
        courts();
        votes();
        courtsFirstAndOnce();
        dolls();
        numbersOfDolls();
        pattern();
        quota();
        figures();
        words();
        blanks();
        numbersSideBySide();
        theEnd();
        theFirstFault();
        theLeastFault();
        cannotStand();
        numberFaults();
        again();
        emptyTexts();
        everyLetterEverywhere();
        doc.end();
    }

    /** An object whose congress can be told from any that a text of this test makes. */
    private static DollCongress earlier() {
        return Check.made("c2,7;d1 1 33;q5;");
    }

    private static DollCongress good(String text, int dolls) {
        DollCongress x = earlier();
        doc.due("congress() of '" + text + "'", Check.tell(x, text), dolls);
        doc.due("fault() of '" + text + "'", x.fault(), NONE);
        doc.due("dolls of '" + text + "'", x.told(1), dolls);
        doc.due("letters behind '" + text + "'", x.told(2), 0);
        return x;
    }

    private static void bad(String text, int number, int place) {
        DollCongress x = earlier();
        doc.due("congress() of '" + text + "'", Check.tell(x, text), -10 - number);
        doc.due("fault() of '" + text + "'", x.fault(), place);
        doc.due("letters behind '" + text + "'", x.told(2), 0);
        doc.due("courts behind '" + text + "'", x.told(0), 2);
        doc.due("dolls behind '" + text + "'", x.told(1), 1);
        doc.due("votes behind '" + text + "'", x.court(1, 0), 7);
        doc.due("signs behind '" + text + "'", x.doll(0, 3), 33);
        doc.due("quota behind '" + text + "'", x.told(4), 5);
    }

    private static String times(String part, int count) {
        return part.repeat(count);
    }

    private static String courtsOf(int count) {
        return "c1" + times(",1", count - 1) + ";";
    }

    // ---- promise 2

    private static void letters() {
        doc.says("One letter (a number 0 .. 255) comes behind THE TEXT: how many it has. OUTSIDE, FULL (240).");
        DollCongress x = new DollCongress();
        for (int letter = 0; letter < 128; letter++) {
            doc.due("feed(" + letter + ")", x.feed(letter), letter + 1);
        }
        doc.due("feed(-1)", x.feed(-1), OUTSIDE);
        doc.due("feed(256)", x.feed(256), OUTSIDE);
        doc.due("feed of the least", x.feed(Integer.MIN_VALUE), OUTSIDE);
        doc.due("feed of the greatest", x.feed(Integer.MAX_VALUE), OUTSIDE);
        doc.due("letters", x.told(2), 128);
        x = new DollCongress();
        for (int letter = 128; letter < 256; letter++) {
            doc.due("feed(" + letter + ")", x.feed(letter), letter - 127);
        }
        // 256 + 'c' and 'c' - 256 are no 'c'.
        doc.due("feed(355)", x.feed(355), OUTSIDE);
        doc.due("feed(-157)", x.feed(-157), OUTSIDE);
        doc.due("letters", x.told(2), 128);
    }

    private static void lengthOfTheText() {
        doc.says("THE CONGRESS is told in a text (240 letters at most)");
        DollCongress x = new DollCongress();
        String text = "c1,1;" + times(" ", 228) + "d0 1 9;";
        for (int i = 0; i < 239; i++) {
            doc.due("feed of letter " + i, x.feed(text.charAt(i)), i + 1);
        }
        doc.due("feed of the last", x.feed(text.charAt(239)), 240);
        doc.due("feed of one more", x.feed(';'), FULL);
        doc.due("feed of a blank more", x.feed(' '), FULL);
        doc.due("letters", x.told(2), 240);
        doc.due("congress() of 240 letters", x.congress(), 1);
        doc.due("doll of the last clause", x.doll(0, 3), 9);
        doc.due("feed is free again", x.feed(' '), 1);
        good("c1,1;" + times(" ", 227) + "d0 1 9;", 1);
        bad("c1,1;" + times(" ", 234) + "x", 1, 239);
        bad("c1,1;" + times(" ", 229) + "d0 1 9", 1, 240);
        bad("c1,1;" + times(" ", 228) + "d0 1 9", 1, 239);
    }

    // ---- the clauses

    private static void courts() {
        doc.says("2 to 7 COURTS by VOTES");
        for (int count = 2; count <= 7; count++) {
            DollCongress x = good(courtsOf(count), 0);
            doc.due("courts of " + count, x.told(0), count);
            doc.due("the last of " + count, x.court(count - 1, 0), 1);
            doc.due("one more than " + count, x.court(count, 0), DollCongress.UNKNOWN);
        }
        bad("c1;", 1, 2);
        bad(courtsOf(8), 1, 14);
        bad(courtsOf(9), 1, 14);
    }

    private static void votes() {
        doc.says("1 .. 9 each");
        for (int count = 2; count <= 7; count++) {
            for (int c = 0; c < count; c++) {
                String ahead = "c" + times("1,", c);
                String behind = times(",1", count - 1 - c) + ";";
                for (int votes = 1; votes <= 9; votes++) {
                    doc.due("votes", good(ahead + votes + behind, 0).court(c, 0), votes);
                }
                bad(ahead + 0 + behind, 2, ahead.length());
                bad(ahead + 10 + behind, 2, ahead.length());
            }
        }
    }

    private static void courtsFirstAndOnce() {
        doc.says("first, once");
        bad("d0 0 0;c1,1;", 1, 0);
        bad("s1;c1,1;", 1, 0);
        bad("q1;c1,1;", 1, 0);
        good("c1,1;d0 0 0;s1;q1;", 1);
        good("c1,1;q1;s1;d0 0 0;", 1);
        good("c1,1;s1;d0 0 0;q1;d0 0 0;", 2);
        bad("c1,1;c1,1;", 3, 5);
        bad("c1,1;q1;c", 3, 8);
    }

    private static void dolls() {
        doc.says("8 DOLLS at most");
        for (int count = 0; count <= 8; count++) {
            DollCongress x = good("c1,1;" + times("d2 1 7;", count), count);
            doc.due("up of " + count, x.told(6), (1 << count) - 1);
            doc.due("no doll behind the last", x.doll(count, 0), DollCongress.UNKNOWN);
        }
        bad("c1,1;" + times("d2 1 7;", 9), 3, 5 + 8 * 7);
        bad("c1,1;" + times("d2 1 7;", 8) + "s1;d", 3, 5 + 8 * 7 + 3);
        doc.says("What has a number has it from 0 on, as it comes.");
        DollCongress x = good("c1,2,3;d3 2 60;s1;d1 0 61;q1;d2 1 62;", 3);
        doc.due("kind of 0", x.doll(0, 0), 3);
        doc.due("kind of 1", x.doll(1, 0), 1);
        doc.due("kind of 2", x.doll(2, 0), 2);
        doc.due("signs of 0", x.doll(0, 3), 60);
        doc.due("signs of 2", x.doll(2, 3), 62);
        doc.due("votes of 2", x.court(2, 0), 3);
    }

    private static void numbersOfDolls() {
        doc.says("KIND K, 0 .. 3");
        for (int kind = 0; kind <= 3; kind++) {
            doc.due("kind", good("c1,1;d" + kind + " 1 5;", 1).doll(0, 0), kind);
        }
        bad("c1,1;d4 1 5;", 2, 6);
        bad("c1,1;d10 1 5;", 2, 6);
        doc.says("belongs to COURT C");
        for (int count = 2; count <= 7; count++) {
            String ahead = courtsOf(count) + "d0 ";
            for (int c = 0; c < count; c++) {
                DollCongress x = good(ahead + c + " 5;", 1);
                doc.due("belongs to", x.doll(0, 1), c);
                doc.due("is at", x.doll(0, 2), c);
            }
            bad(ahead + count + " 5;", 2, ahead.length());
            bad(ahead + "10 5;", 2, ahead.length());
        }
        doc.says("SIGNS of it: a SET of the 6 SIGNS, 0 .. 63");
        for (int signs = 0; signs <= 63; signs++) {
            doc.due("signs", good("c1,1;d0 1 " + signs + ";", 1).doll(0, 3), signs);
        }
        bad("c1,1;d0 1 64;", 2, 10);
        bad("c1,1;d0 1 65;", 2, 10);
        bad("c1,1;d0 1 127;", 2, 10);
        bad("c1,1;d0 1 999;", 2, 10);
    }

    private static void pattern() {
        doc.says("SIGNS that a real one has, a SET, 0 .. 63; once; 0 untold");
        for (int signs = 0; signs <= 63; signs++) {
            doc.due("pattern", good("c1,1;s" + signs + ";", 0).told(3), signs);
        }
        bad("c1,1;s64;", 2, 6);
        bad("c1,1;s128;", 2, 6);
        bad("c1,1;s5;s5;", 3, 8);
        bad("c1,1;s0;s0;", 3, 8);
        DollCongress x = good("c1,1;s9;", 0);
        doc.due("congress() with none told", Check.tell(x, "c1,1;"), 0);
        doc.due("pattern untold", x.told(3), 0);
    }

    private static void quota() {
        doc.says("QUOTA Q, 1 .. 63; half of all VOTES and 1 untold; once");
        for (int quota = 1; quota <= 63; quota++) {
            doc.due("quota", good("c1,1;q" + quota + ";", 0).told(4), quota);
        }
        bad("c1,1;q0;", 2, 6);
        bad("c1,1;q64;", 2, 6);
        bad("c1,1;q1;q1;", 3, 8);
        doc.due("half of 2 and 1", good("c1,1;", 0).told(4), 2);
        doc.due("half of 3 and 1", good("c1,2;", 0).told(4), 2);
        doc.due("half of 4 and 1", good("c1,3;", 0).told(4), 3);
        doc.due("half of 17 and 1", good("c8,9;", 0).told(4), 9);
        doc.due("half of 62 and 1", good("c9,9,9,9,9,9,8;", 0).told(4), 32);
        doc.due("half of 63 and 1", good("c9,9,9,9,9,9,9;", 0).told(4), 32);
        DollCongress x = good("c1,1;q63;", 0);
        doc.due("congress() with none told", Check.tell(x, "c1,1;"), 0);
        doc.due("quota untold", x.told(4), 2);
    }

    // ---- numbers, words, blanks

    private static void figures() {
        doc.says("NUMBERS have one to three figures");
        numberAt("c1,1;s", ";", 0, 63);
        numberAt("c1,1;q", ";", 1, 63);
        numberAt("c", ",1;", 1, 9);
        numberAt("c1,", ";", 1, 9);
        numberAt("c1,1,1,1,1,1,", ";", 1, 9);
        numberAt("c1,1;d", " 1 63;", 0, 3);
        numberAt("c1,1;d3 ", " 63;", 0, 1);
        numberAt("c1,1,1,1,1,1,1;d3 ", " 63;", 0, 6);
        numberAt("c1,1;d3 1 ", ";", 0, 63);
        bad("c1,1;s;", 1, 6);
        bad("c1,1;q;", 1, 6);
        bad("c,1;", 1, 1);
        bad("c1,;", 1, 3);
    }

    /** Every number of one to five figures up to a few beyond the bounds and about the powers of ten and of two. */
    private static void numberAt(String ahead, String behind, int least, int greatest) {
        int[] values = {0, 1, 2, 3, 4, 5, 6, 7, 8, 9, 10, 11, 62, 63, 64, 65, 99, 100, 255, 256, 257, 319, 320, 321, 999, 1000,
            1001, 9999, 10000, 65535, 65536, 65537};
        for (int value : values) {
            for (int width = 1; width <= 5; width++) {
                String figures = String.format("%0" + width + "d", value);
                String text = ahead + figures + behind;
                if (figures.length() <= 3 && value >= least && value <= greatest) {
                    good(text, text.contains("d") ? 1 : 0);
                } else {
                    bad(text, 2, ahead.length());
                }
            }
        }
        // 2 to the 32 and 1; 2 to the 64 and 1; what would wrap to a number within its bounds.
        bad(ahead + "4294967297" + behind, 2, ahead.length());
        bad(ahead + "18446744073709551617" + behind, 2, ahead.length());
        bad(ahead + times("0", 100) + "1" + behind, 2, ahead.length());
    }

    private static void words() {
        doc.says("a word is one letter");
        bad("cc1,1;", 1, 1);
        bad("c1,1;dd0 0 0;", 1, 6);
        bad("c1,1;doll 0 0 0;", 1, 6);
        bad("c1,1;ss1;", 1, 6);
        bad("c1,1;qq1;", 1, 6);
        bad("C1,1;", 1, 0);
        bad("c1,1;D0 0 0;", 1, 5);
        bad("c1,1;S1;", 1, 5);
        bad("c1,1;Q1;", 1, 5);
    }

    private static void blanks() {
        doc.says("blanks (32) may stand anywhere but within NUMBERS");
        String text = "c3,2;d2 1 63;s21;q12;";
        for (int at = 0; at <= text.length(); at++) {
            boolean within = at > 0 && at < text.length() && FIGURES.indexOf(text.charAt(at - 1)) >= 0
                    && FIGURES.indexOf(text.charAt(at)) >= 0;
            String blanked = text.substring(0, at) + " " + text.substring(at);
            if (within) {
                bad(blanked, 1, at + 1);
            } else {
                sameAs(good(blanked, 1));
                sameAs(good(text.substring(0, at) + "    " + text.substring(at), 1));
            }
        }
        sameAs(good("  c  3  ,  2  ;  d  2  1  63  ;  s  21  ;  q  12  ;  ", 1));
        for (int other : new int[] {0, 9, 10, 11, 12, 13, 31, 33, 160}) {
            bad((char) other + text, 1, 0);
            bad(text + (char) other, 1, text.length());
            bad("c3" + (char) other + ",2;", 1, 2);
        }
    }

    private static void sameAs(DollCongress x) {
        doc.due("votes of 0", x.court(0, 0), 3);
        doc.due("votes of 1", x.court(1, 0), 2);
        doc.due("kind", x.doll(0, 0), 2);
        doc.due("court", x.doll(0, 1), 1);
        doc.due("signs", x.doll(0, 3), 63);
        doc.due("pattern", x.told(3), 21);
        doc.due("quota", x.told(4), 12);
    }

    private static void numbersSideBySide() {
        doc.says("two NUMBERS side by side need one");
        good("c1,1;d0 1 2;", 1);
        good("c1,1;d0  1  2;", 1);
        bad("c1,1;d012;", 2, 6);
        bad("c1,1;d01 1;", 1, 10);
        bad("c1,1;d0 12;", 2, 8);
        bad("c1,1;d0 01;", 1, 10);
        bad("c1,1;d0,1 2;", 1, 7);
    }

    // ---- faults

    private static void theEnd() {
        doc.says("the end at the text's length");
        String text = "c3,2,9;d2 1 63;d0 0 7;s21;q12;";
        int dolls = 0;
        for (int length = 1; length <= text.length(); length++) {
            String part = text.substring(0, length);
            if (part.charAt(length - 1) != ';') {
                bad(part, 1, length);
                bad(part + "   ", 1, length + 3);
            } else {
                dolls += part.endsWith("63;") || part.endsWith(" 7;") ? 1 : 0;
                good(part, dolls);
                good(part + "   ", dolls);
            }
        }
    }

    private static void theFirstFault() {
        doc.says("FAULTS, at the first letter that has one");
        bad("c0,1;x", 2, 1);
        bad("c1,1;x0", 1, 5);
        bad("c1,0,x", 2, 3);
        bad("c1,1;d4 2 64x", 2, 6);
        bad("c1,1;d0 2 64x", 2, 8);
        bad("c1,1;d0 0 64x", 2, 10);
        bad("c1,1;d0 0 63x", 1, 12);
        bad("c1,1;d4;", 2, 6);
        bad("c1,1;d0 2;", 2, 8);
        bad("c1,1;s64 c", 2, 6);
        bad("c1,1;q0", 2, 6);
        bad("c1,1;q1;q0;c", 3, 8);
        bad("c1,1;c0;", 3, 5);
        bad("c10;", 2, 1);
        bad("c1,1,1,1,1,1,0,1;", 2, 13);
    }

    private static void theLeastFault() {
        doc.says("of these the least");
        // A number of four figures where no number can stand: 1 and 2 at one letter.
        bad("c1,1;1234", 1, 5);
        bad("1234", 1, 0);
        bad("c1,1 1234;", 1, 5);
        bad("c1,1;d0 0 0 1234;", 1, 12);
        bad("c1,1;s1 6464;", 1, 8);
        bad("c1,1;q1 0;", 1, 8);
        // Where a clause's number is due, 's' again cannot stand: 1 and 3 at one letter.
        bad("c1,1;s1;ds1;", 1, 9);
        bad("c1,c1;", 1, 3);
        bad("c1,1;q1 q1;", 1, 8);
        bad("c1,1;" + times("d0 0 0;", 8) + "sd", 1, 62);
    }

    private static void cannotStand() {
        doc.says("1 it cannot stand there (a letter that is no word, another word first than 'c'; an eighth N: at its ',';"
            + " the ';' behind one N alone)");
        bad("a", 1, 0);
        bad("c1,1;a", 1, 5);
        bad("c1,1; a", 1, 6);
        bad("d", 1, 0);
        bad(" s", 1, 1);
        bad("  q", 1, 2);
        bad("c1,1,1,1,1,1,1,", 1, 14);
        bad("c1,1,1,1,1,1,1  ,1;", 1, 16);
        bad("c1,1,1,1,1,1,1,99999;", 1, 14);
        bad("c1;", 1, 2);
        bad("c1  ;", 1, 4);
        bad("c1;d0 0 0;", 1, 2);
        bad("c9;c1,1;", 1, 2);
        bad("c1,1;;", 1, 5);
        bad("c1,1,;", 1, 5);
        bad("c1,1;d0 0 0,", 1, 11);
    }

    private static void numberFaults() {
        doc.says("2 a NUMBER of four figures or more, or out of its bounds; a COURT that there is not (at its first)");
        bad("c1,1;s0000;", 2, 6);
        bad("c1,1;s  0001;", 2, 8);
        bad("c1,1;s0001", 2, 6);
        bad("c1,1;s1000x", 2, 6);
        good("c1,1;s000;", 0);
        good("c1,1;s063;", 0);
        bad("c1,1;s064;", 2, 6);
        bad("c1,1;d0 002 0;", 2, 8);
        good("c1,1;d0 001 0;", 1);
        bad("c1,1;d0 0002 0;", 2, 8);
        bad("c1,1;d0  2", 2, 9);
    }

    private static void again() {
        doc.says("3 'c', 's', 'q' again, a ninth 'd' (at it)");
        bad("c1,1; c", 3, 6);
        bad("c1,1;d0 0 0;s3;d0 0 0; s", 3, 23);
        bad("c1,1;q3;s3; q", 3, 12);
        bad("c1,1;" + times("d0 0 0;", 8) + " d", 3, 62);
        bad("c1,1;" + times("d0 0 0;", 8) + "d9 9 999;", 3, 61);
        good("c1,1;" + times("d0 0 0;", 8) + "s3;q3;", 8);
    }

    private static void emptyTexts() {
        doc.says("An empty text (or one of blanks alone): no CONGRESS.");
        for (int length : new int[] {0, 1, 2, 239, 240}) {
            DollCongress x = good(times(" ", length), 0);
            doc.due("courts", x.told(0), 0);
            doc.due("quota", x.told(4), 0);
            doc.due("blocks", x.told(13), NONE);
            doc.due("court", x.court(0, 0), DollCongress.UNKNOWN);
            doc.due("doll", x.doll(0, 0), DollCongress.UNKNOWN);
            doc.due("audience", x.audience(), DollCongress.NOT);
        }
        bad(times(" ", 239) + "x", 1, 239);
        bad("\u00a0", 1, 0);
    }

    // ---- every letter at every place

    private static void everyLetterEverywhere() {
        doc.says("1 it cannot stand there");
        letterAt("", "c1,1;", " ", "", 0, 0);
        letterAt("c", "1,1;", " 0", "123456789", 1, 0);
        letterAt("c1", ",1;", " ", FIGURES, 1, 0);
        letterAt("c1 ", ",1;", " ", "", 0, 0);
        letterAt("c1,", "1;", " 0", "123456789", 3, 0);
        letterAt("c1,1,1,1,1,1,1", ";", " ", FIGURES, 13, 0);
        letterAt("c1,1;d", "0 0 0;", " 0", "123456789", 6, 1);
        letterAt("c1,1;d3", " 0 0;", " ", FIGURES, 6, 1);
        letterAt("c1,1;d0 ", "0 0;", " 0", "123456789", 8, 1);
        letterAt("c1,1;d0 1", " 0;", " ", FIGURES, 8, 1);
        letterAt("c1,1;d0 0 ", "9;", " 0123456789", "", 0, 1, "6789");
        letterAt("c1,1;d0 0 9", ";", " ", FIGURES, 10, 1);
        letterAt("c1,1;s", "9;", " 0123456789", "", 0, 0, "6789");
        letterAt("c1,1;s9", ";", " ", FIGURES, 6, 0);
        letterAt("c1,1;q", "9;", " 0123456789", "", 0, 0, "6789");
        letterAt("c1,1;q9", ";", " ", FIGURES, 6, 0);
        marksBehindCourts();
        wordsBehindCourts();
    }

    private static void letterAt(String ahead, String behind, String may, String number, int at, int dolls) {
        letterAt(ahead, behind, may, number, at, dolls, "");
    }

    /**
     * A letter of 'may' leaves the text good, one of 'number' makes a number out of its bounds that begins at 'at', one of
     * 'large' does so at its own place; what is the next mark itself makes that mark stand twice; no other can stand.
     */
    private static void letterAt(String ahead, String behind, String may, String number, int at, int dolls, String large) {
        for (int letter = 0; letter < 256; letter++) {
            String text = ahead + (char) letter + behind;
            if (large.indexOf(letter) >= 0) {
                bad(text, 2, ahead.length());
            } else if (number.indexOf(letter) >= 0) {
                bad(text, 2, at);
            } else if (may.indexOf(letter) >= 0) {
                good(text, dolls);
            } else if (!behind.isEmpty() && behind.charAt(0) == letter && FIGURES.indexOf(letter) < 0) {
                bad(text, 1, ahead.length() + 1);
            } else {
                bad(text, 1, ahead.length());
            }
        }
    }

    private static void marksBehindCourts() {
        for (int letter = 0; letter < 256; letter++) {
            String text = "c1,1" + (char) letter;
            switch (letter) {
                case ';' -> good(text, 0);
                case ' ', ',' -> bad(text, 1, 5);
                case '0', '1', '2', '3', '4', '5', '6', '7', '8', '9' -> bad(text, 2, 3);
                default -> bad(text, 1, 4);
            }
        }
    }

    private static void wordsBehindCourts() {
        for (int letter = 0; letter < 256; letter++) {
            String text = "c1,1;" + (char) letter;
            switch (letter) {
                case ' ' -> good(text, 0);
                case 'c' -> bad(text, 3, 5);
                case 'd', 's', 'q' -> bad(text, 1, 6);
                default -> bad(text, 1, 5);
            }
        }
    }
}

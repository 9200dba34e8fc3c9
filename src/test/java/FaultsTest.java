/** Texts with the first fault, or with none, worked out by hand from the document. */
public final class FaultsTest {
    private static final Check check = new Check("FaultsTest");

    public static void main(String[] args) {
        goodTexts();
        cannotStand();
        numbers();
        tooOften();
        longTexts();
        check.end();
    }

    private static void good(String text, int dolls) {
        DollCongress x = new DollCongress();
        check.due("'" + text + "'", Check.tell(x, text), dolls);
        check.due("fault of '" + text + "'", x.fault(), DollCongress.NONE);
    }

    private static void bad(String text, int number, int place) {
        DollCongress x = new DollCongress();
        check.due("'" + text + "'", Check.tell(x, text), -10 - number);
        check.due("fault of '" + text + "'", x.fault(), place);
        check.due("courts behind '" + text + "'", x.told(0), 0);
    }

    private static void goodTexts() {
        good("", 0);
        good("    ", 0);
        good("c1,9;", 0);
        good("c1,1,1,1,1,1,1;", 0);
        good(" c 1 , 1 ; ", 0);
        good("c001,009;q063;s000;", 0);
        good("c1,1;q1;", 0);
        good("c1,1;d3 1 63;s63;q63;", 1);
        good("c1,1;s0;q63;d0 0 0;d0 0 0;", 2);
        good("c1,1;d 0 0 0 ;", 1);
        good("c1,1;d00 001 000;", 1);
        good("c1,1;d0 0 0;d0 0 0;d0 0 0;d0 0 0;d0 0 0;d0 0 0;d0 0 0;d0 0 0;", 8);
    }

    private static void cannotStand() {
        bad("x", 1, 0);
        bad(";", 1, 0);
        bad("  1", 1, 2);
        bad("d0 0 0;", 1, 0);
        bad("s1;", 1, 0);
        bad(" q1;", 1, 1);
        bad("C1,1;", 1, 0);
        bad("c", 1, 1);
        bad("c ", 1, 2);
        bad("c1", 1, 2);
        bad("c1 ", 1, 3);
        bad("c1;", 1, 2);
        bad("c1 ;", 1, 3);
        bad("c,1;", 1, 1);
        bad("c;", 1, 1);
        bad("c1,;", 1, 3);
        bad("c1,,1;", 1, 3);
        bad("c1,1", 1, 4);
        bad("c1,1,", 1, 5);
        bad("c1 1;", 1, 3);
        bad("c1,1d", 1, 4);
        bad("c1,1;;", 1, 5);
        bad("c1,1;1", 1, 5);
        bad("c1,1;x", 1, 5);
        bad("c1,1;" + (char) 255, 1, 5);
        bad("c1,1;" + (char) 9, 1, 5);
        bad("c1,1,1,1,1,1,1,1;", 1, 14);
        bad("c1,1,1,1,1,1,1 ,0;", 1, 15);
        bad("c1,1;d", 1, 6);
        bad("c1,1;d;", 1, 6);
        bad("c1,1;d000;", 1, 9);
        bad("c1,1;d0 0;", 1, 9);
        bad("c1,1;d0 00;", 1, 10);
        bad("c1,1;d0,0 0;", 1, 7);
        bad("c1,1;d0 0 0", 1, 11);
        bad("c1,1;d0 0 0 0;", 1, 12);
        bad("c1,1;d0 0 0 1234;", 1, 12);
        bad("c1,1;s;", 1, 6);
        bad("c1,1;s1", 1, 7);
        bad("c1,1;s1 1;", 1, 8);
        bad("c1,1;q;", 1, 6);
        bad("c1,1;q-1;", 1, 6);
        bad("c1,1;q1,2;", 1, 7);
    }

    private static void numbers() {
        bad("c0,1;", 2, 1);
        bad("c10,1;", 2, 1);
        bad("c1,10;", 2, 3);
        bad("c 0001,1;", 2, 2);
        bad("c0x", 2, 1);
        bad("c0", 2, 1);
        bad("c99999999999999999999,1;", 2, 1);
        bad("c4294967297,1;", 2, 1);
        bad("c1,1;d4 0 0;", 2, 6);
        bad("c1,1;d0 2 0;", 2, 8);
        bad("c1,1;d0  2x", 2, 9);
        bad("c1,1;d0 0 64;", 2, 10);
        bad("c1,1;d0 0 0000;", 2, 10);
        bad("c1,1;d4 2 64;", 2, 6);
        bad("c1,1;d0000 0;", 2, 6);
        bad("c1,1;s64;", 2, 6);
        bad("c1,1;q0;", 2, 6);
        bad("c1,1;q64;", 2, 6);
        bad("c1,1;q1000;", 2, 6);
        bad("c1,1;q0001;", 2, 6);
    }

    private static void tooOften() {
        bad("c1,1;c", 3, 5);
        bad("c1,1; c0", 3, 6);
        bad("c1,1;s0;s", 3, 8);
        bad("c1,1;s0;d0 0 0;s1;", 3, 15);
        bad("c1,1;q1;q0;", 3, 8);
        StringBuilder dolls = new StringBuilder("c1,1;");
        for (int d = 0; d < 8; d++) {
            dolls.append("d0 0 0;");
        }
        bad(dolls + "d", 3, 61);
        bad(dolls + "x", 1, 61);
        bad(dolls + "  d9 9 99;", 3, 63);
    }

    private static void longTexts() {
        StringBuilder text = new StringBuilder("c1,1;");
        while (text.length() < 240) {
            text.append(' ');
        }
        good(text.toString(), 0);
        text.setCharAt(239, 's');
        bad(text.toString(), 1, 240);
        text.setCharAt(239, '5');
        bad(text.toString(), 1, 239);
        StringBuilder figures = new StringBuilder("c");
        while (figures.length() < 240) {
            figures.append('1');
        }
        bad(figures.toString(), 2, 1);
    }
}

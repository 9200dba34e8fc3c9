/** Part 2 of the document and promises 5 to 14, sentence by sentence: each bound, and what is one beyond it. */
public final class DollBoundsTest {
    private static final int NONE = DollCongress.NONE, UNKNOWN = DollCongress.UNKNOWN, OUTSIDE = DollCongress.OUTSIDE,
            NOT = DollCongress.NOT, FULL = DollCongress.FULL;
    private static final Doc doc = new Doc("DollBoundsTest");
    private static final int WARM = 4, UP = 5, TEARS = 6;

    // A doll of each kind, by its number: 0 wax, 1 wood, 2 real, 3 clock.
    private static final String KINDS = "c1,1,1,1;d0 0 1;d1 1 2;d2 2 4;d3 3 8;";

    public static void main(String[] args) {
        atFirst();
        toldOfAll();
        partsOfDolls();
        partsOfCourts();
        warmthByKind();
        evenYears();
        atMost99();
        atLeast0();
        tearsFrom20();
        tearsOfWhom();
        posted();
        mixed();
        laid();
        nods();
        audiences();
        audienceHolds();
        masked();
        right();
        yearsAtOnce();
        driftsAtOnce();
        yearsAbove9000();
        doc.end();
    }

    private static void sits(DollCongress x, int d, int warm) {
        doc.due("warm of " + d, x.doll(d, WARM), warm);
    }

    // ---- promises 1, 5, 6, 7

    private static void atFirst() {
        doc.says("A DOLL is AT a COURT (that to which it belongs, at first), is up or laid back (up at first),"
            + " WARM by 0 (at first) to 99.");
        DollCongress x = Check.made(KINDS);
        for (int d = 0; d < 4; d++) {
            doc.due("at", x.doll(d, 2), d);
            doc.due("up", x.doll(d, UP), 1);
            doc.due("tears", x.doll(d, TEARS), 0);
            sits(x, d, 0);
        }
        doc.says("YEARS (0 at first) are one more.");
        doc.due("years", x.told(5), 0);
        for (int years = 1; years <= 5; years++) {
            doc.due("year(1)", x.year(1), years);
            doc.due("years", x.told(5), years);
        }
        doc.says("`DollCongress()`: No CONGRESS.");
        x = new DollCongress();
        doc.due("courts", x.told(0), 0);
        doc.due("dolls", x.told(1), 0);
        doc.due("audience()", x.audience(), NOT);
        doc.due("fault()", x.fault(), NONE);
    }

    private static void toldOfAll() {
        doc.says("15 entries of THE BOOK, 16 how many can be undone. OUTSIDE.");
        DollCongress x = Check.made(KINDS);
        doc.due("told(-1)", x.told(-1), OUTSIDE);
        doc.due("told(0)", x.told(0), 4);
        doc.due("told(15)", x.told(15), 0);
        doc.due("told(16)", x.told(16), 0);
        x.write(0, 0);
        x.write(0, 0);
        x.audience();
        doc.due("told(15), two written", x.told(15), 2);
        doc.due("told(16), one done", x.told(16), 1);
        doc.due("told(17)", x.told(17), OUTSIDE);
        doc.due("told of the least", x.told(Integer.MIN_VALUE), OUTSIDE);
        doc.due("told of the greatest", x.told(Integer.MAX_VALUE), OUTSIDE);
        doc.says("QUOTA (0 without a CONGRESS)");
        doc.due("told(4)", new DollCongress().told(4), 0);
        doc.due("told(4), least of all", Check.made("c1,1;q1;").told(4), 1);
        doc.says("both NONE without a CONGRESS");
        doc.due("told(13)", new DollCongress().told(13), NONE);
        doc.due("told(14)", new DollCongress().told(14), NONE);
        doc.due("told(13), a congress", Check.made("c1,1;").told(13), 1);
        doc.due("told(14), a congress", Check.made("c1,1;").told(14), 3);
        x = Check.made("c1,1;");
        x.congress();
        doc.due("told(13), none again", x.told(13), NONE);
        doc.due("told(14), none again", x.told(14), NONE);
    }

    private static void partsOfDolls() {
        doc.says("5 1 it is up, 0 not, 6 TEARS. UNKNOWN, OUTSIDE.");
        DollCongress x = Check.made(KINDS);
        doc.due("doll(-1, 0)", x.doll(-1, 0), UNKNOWN);
        doc.due("doll(0, 0)", x.doll(0, 0), 0);
        doc.due("doll(3, 0)", x.doll(3, 0), 3);
        doc.due("doll(4, 0)", x.doll(4, 0), UNKNOWN);
        doc.due("doll(0, -1)", x.doll(0, -1), OUTSIDE);
        doc.due("doll(0, 6)", x.doll(0, 6), 0);
        doc.due("doll(0, 7)", x.doll(0, 7), OUTSIDE);
        doc.due("doll(4, 7)", x.doll(4, 7), UNKNOWN);
        doc.due("doll(-1, -1)", x.doll(-1, -1), UNKNOWN);
        doc.due("eighth doll", Check.made("c1,1;" + "d3 1 0;".repeat(8)).doll(7, 0), 3);
        doc.due("ninth doll", Check.made("c1,1;" + "d3 1 0;".repeat(8)).doll(8, 0), UNKNOWN);
    }

    private static void partsOfCourts() {
        doc.says("3 1 it nods, 0 not, 4 POWER. UNKNOWN, OUTSIDE.");
        DollCongress x = Check.made(KINDS);
        doc.due("court(-1, 0)", x.court(-1, 0), UNKNOWN);
        doc.due("court(0, 0)", x.court(0, 0), 1);
        doc.due("court(3, 0)", x.court(3, 0), 1);
        doc.due("court(4, 0)", x.court(4, 0), UNKNOWN);
        doc.due("court(0, -1)", x.court(0, -1), OUTSIDE);
        doc.due("court(0, 4)", x.court(0, 4), 6);
        doc.due("court(0, 5)", x.court(0, 5), OUTSIDE);
        doc.due("court(4, 5)", x.court(4, 5), UNKNOWN);
        doc.due("court(-1, -1)", x.court(-1, -1), UNKNOWN);
        doc.says("A SET is a whole number, bit k for k.");
        x = Check.made("c1,1,1,1,1,1,1;" + "d0 6 0;".repeat(8));
        doc.due("who belongs to court 6", x.court(6, 2), 255);
        doc.due("who is at court 6", x.court(6, 1), 255);
        doc.due("who is up", x.told(6), 255);
        doc.due("who nods", x.told(9), 64);
        x.post(7, 0);
        doc.due("who is at court 6 then", x.court(6, 1), 127);
        doc.due("who is at court 0 then", x.court(0, 1), 128);
        doc.due("who belongs still", x.court(6, 2), 255);
        doc.due("rings", x.told(7), 128);
    }

    // ---- years

    private static void warmthByKind() {
        doc.says("each that is up is more WARM by KIND: 0 (wax) 1; 1 (wood) 0; 2 (real) 3;");
        DollCongress x = Check.made(KINDS);
        for (int years = 1; years <= 33; years++) {
            x.year(1);
            sits(x, 0, years);
            sits(x, 1, 0);
            sits(x, 2, 3 * years);
        }
        DollCongress once = Check.made(KINDS);
        once.year(33);
        for (int d = 0; d < 4; d++) {
            sits(once, d, x.doll(d, WARM));
        }
    }

    private static void evenYears() {
        doc.says("3 (clock) 2 in YEARS of an even number, else 0");
        DollCongress x = Check.made(KINDS);
        int[] due = {2, 2, 4, 4, 6, 6, 8};
        for (int years = 0; years < due.length; years++) {
            doc.due("warm ahead of year " + years, x.warm(3, 1), due[years]);
            x.year(1);
            sits(x, 3, due[years]);
        }
        // Laid back in year 7; up in year 8, which counts, and in year 9, which does not.
        x.lay(3, true);
        x.year(1);
        sits(x, 3, 7);
        x.lay(3, false);
        x.year(1);
        sits(x, 3, 9);
        x.year(1);
        sits(x, 3, 9);
        doc.due("first by one more from an even year", x.first(3, 10), 1);
        doc.due("first by three more from an even year", x.first(3, 12), 3);
        x.undo();
        doc.due("first by one more from an odd year", x.first(3, 10), 2);
        x.undo();
        doc.due("year(2)", x.year(2), 10);
        sits(x, 3, 9);
        doc.due("year(2)", x.year(2), 12);
        sits(x, 3, 11);
    }

    private static void atMost99() {
        doc.says("WARM by 0 (at first) to 99");
        DollCongress x = Check.made(KINDS);
        x.year(32);
        sits(x, 2, 96);
        x.year(1);
        sits(x, 2, 99);
        x.year(1);
        sits(x, 2, 99);
        realFrom(98);
        realFrom(97);
        x = Check.made(KINDS);
        x.year(60);
        x.year(37);
        sits(x, 0, 97);
        sits(x, 3, 98);
        x.year(1);
        sits(x, 0, 98);
        sits(x, 3, 98);
        x.year(1);
        sits(x, 0, 99);
        sits(x, 3, 99);
        x.year(1);
        sits(x, 0, 99);
        x.year(1);
        sits(x, 0, 99);
        sits(x, 3, 99);
        sits(x, 1, 0);
        clockFrom97();
    }

    /** From just below 99: three more would be 100 or 101. */
    private static void realFrom(int warm) {
        DollCongress x = Check.made(KINDS);
        x.year(33);
        x.lay(2, true);
        x.year(99 - warm);
        sits(x, 2, warm);
        doc.due("tried laid back", x.warm(2, 1), warm - 1);
        x.lay(2, false);
        doc.due("tried up", x.warm(2, 1), 99);
        doc.due("first by 99", x.first(2, 99), 1);
        x.year(1);
        sits(x, 2, 99);
    }

    /** Behind 97 years it is warm by 98, laid back in year 97 by 97, up in year 98 by 99 and not by 100 in year 100. */
    private static void clockFrom97() {
        DollCongress x = Check.made(KINDS);
        x.year(60);
        x.year(37);
        x.lay(3, true);
        x.year(1);
        sits(x, 3, 97);
        x.lay(3, false);
        x.year(1);
        sits(x, 3, 99);
        x.year(2);
        sits(x, 3, 99);
    }

    private static void atLeast0() {
        doc.says("each that is laid back is 1 less (0 at least)");
        DollCongress x = Check.made(KINDS);
        x.year(1);
        for (int d = 0; d < 4; d++) {
            x.lay(d, true);
        }
        int[] due = {1, 0, 3, 2};
        for (int years = 0; years <= 5; years++) {
            for (int d = 0; d < 4; d++) {
                sits(x, d, Math.max(due[d] - years, 0));
                doc.due("warm behind " + (5 - years), x.warm(d, 5 - years), 0);
            }
            x.year(1);
        }
        x = Check.made(KINDS);
        x.year(33);
        x.lay(2, true);
        x.year(1);
        sits(x, 2, 98);
        x.year(60);
        sits(x, 2, 38);
        x.year(37);
        sits(x, 2, 1);
        x.year(1);
        sits(x, 2, 0);
        x.year(60);
        sits(x, 2, 0);
    }

    // ---- tears

    /** Up six years it is warm by 18; laid back so many years, then up for one, it ends by 21 less these. */
    private static void tearsFrom20() {
        doc.says("TEARS of a DOLL: how many YEARS it was of KIND 2, up, and WARM by 20 or more at their end");
        int[] due = {1, 1, 0};
        for (int back = 0; back <= 2; back++) {
            DollCongress x = Check.made(KINDS);
            x.year(6);
            doc.due("tears at 18", x.doll(2, TEARS), 0);
            x.lay(2, true);
            if (back > 0) {
                x.year(back);
            }
            x.lay(2, false);
            x.year(1);
            sits(x, 2, 21 - back);
            doc.due("tears at " + (21 - back), x.doll(2, TEARS), due[back]);
            x.year(1);
            doc.due("tears a year on", x.doll(2, TEARS), due[back] + 1);
        }
        DollCongress x = Check.made(KINDS);
        x.year(7);
        x.lay(2, true);
        x.year(1);
        sits(x, 2, 20);
        doc.due("no tears laid back at 20", x.doll(2, TEARS), 1);
        x.lay(2, false);
        x.year(60);
        doc.due("tears of sixty years", x.doll(2, TEARS), 61);
    }

    private static void tearsOfWhom() {
        doc.says("it was of KIND 2, up");
        DollCongress x = Check.made(KINDS);
        x.year(60);
        sits(x, 0, 60);
        sits(x, 3, 60);
        doc.due("wax", x.doll(0, TEARS), 0);
        doc.due("wood", x.doll(1, TEARS), 0);
        doc.due("real", x.doll(2, TEARS), 54);
        doc.due("clock", x.doll(3, TEARS), 0);
        x.lay(2, true);
        x.year(30);
        sits(x, 2, 69);
        doc.due("real, laid back", x.doll(2, TEARS), 54);
        x.post(2, 0);
        x.lay(2, false);
        x.mask(2, 0);
        x.year(2);
        doc.due("real, up elsewhere", x.doll(2, TEARS), 56);
    }

    // ---- posts, mixings

    private static void posted() {
        doc.says("POSTED: a DOLL comes to another COURT, laid back.");
        DollCongress x = Check.made(KINDS);
        doc.due("post(0, 3)", x.post(0, 3), 0);
        doc.due("at", x.doll(0, 2), 3);
        doc.due("up", x.doll(0, UP), 0);
        doc.due("belongs", x.doll(0, 1), 0);
        doc.due("the others are up", x.told(6), 14);
        doc.says("POSTED: the COURT where it was. UNKNOWN, NOT: it is there.");
        doc.due("post(0, 3) again", x.post(0, 3), NOT);
        x.lay(0, false);
        doc.due("post(0, 3), up", x.post(0, 3), NOT);
        doc.due("up still", x.doll(0, UP), 1);
        doc.due("post(0, 0)", x.post(0, 0), 3);
        doc.due("post(0, 0) home again", x.post(0, 0), NOT);
        doc.due("post(-1, 0)", x.post(-1, 0), UNKNOWN);
        doc.due("post(4, 0)", x.post(4, 0), UNKNOWN);
        doc.due("post(0, -1)", x.post(0, -1), UNKNOWN);
        doc.due("post(0, 4)", x.post(0, 4), UNKNOWN);
        doc.due("post(3, 0)", x.post(3, 0), 3);
        doc.due("post of one laid back", x.post(3, 1), 0);
        doc.due("laid back still", x.doll(3, UP), 0);
    }

    private static void mixed() {
        doc.says("MIXED: two DOLLS change COURTS, both laid back.");
        DollCongress x = Check.made(KINDS + "d0 0 0;");
        doc.due("mix(0, 3)", x.mix(0, 3), 3);
        doc.due("at", x.doll(0, 2), 3);
        doc.due("the other at", x.doll(3, 2), 0);
        doc.due("up", x.told(6), 22);
        x.lay(0, false);
        doc.due("mix(3, 0), one laid back", x.mix(3, 0), 3);
        doc.due("up", x.told(6), 22);
        doc.due("mix(0, 4) at one court", x.mix(0, 4), 0);
        doc.due("up", x.told(6), 6);
        doc.due("rings", x.told(7), 0);
        doc.says("MIXED: the COURT of the first then. UNKNOWN.");
        doc.due("mix(1, 2)", x.mix(1, 2), 2);
        doc.due("mix(1, 2) again", x.mix(1, 2), 1);
        doc.due("mix(2, 1)", x.mix(2, 1), 1);
        doc.due("mix(-1, 0)", x.mix(-1, 0), UNKNOWN);
        doc.due("mix(0, -1)", x.mix(0, -1), UNKNOWN);
        doc.due("mix(5, 0)", x.mix(5, 0), UNKNOWN);
        doc.due("mix(0, 5)", x.mix(0, 5), UNKNOWN);
        doc.says("one twice, where two are asked");
        for (int d = 0; d < 5; d++) {
            doc.due("mix(" + d + ", " + d + ")", x.mix(d, d), UNKNOWN);
        }
        doc.due("up as it was", x.told(6), 0);
    }

    private static void laid() {
        doc.says("LAID BACK (is), or up: 1 it was laid back, 0 not. UNKNOWN.");
        DollCongress x = Check.made(KINDS);
        doc.due("lay(3, false), up", x.lay(3, false), 0);
        doc.due("up", x.told(6), 15);
        doc.due("lay(3, true)", x.lay(3, true), 0);
        doc.due("up", x.told(6), 7);
        doc.due("lay(3, true), back", x.lay(3, true), 1);
        doc.due("up", x.told(6), 7);
        doc.due("lay(3, false), back", x.lay(3, false), 1);
        doc.due("up", x.told(6), 15);
        doc.due("lay(-1, true)", x.lay(-1, true), UNKNOWN);
        doc.due("lay(4, true)", x.lay(4, true), UNKNOWN);
        doc.due("lay(4, false)", x.lay(4, false), UNKNOWN);
        doc.due("up", x.told(6), 15);
        doc.due("each can be undone", x.told(16), 4);
    }

    // ---- nods, audiences

    private static void nods() {
        doc.says("NODS of a COURT: it nods, if a DOLL is up AT it, and no DOLL that is up there is of KIND 1.");
        DollCongress x = Check.made("c1,1,1;d0 0 0;d1 0 0;d2 1 0;d3 1 0;");
        nodding(x, "wood is up beside wax", 2);
        x.lay(1, true);
        nodding(x, "wood is laid back", 3);
        x.lay(0, true);
        nodding(x, "none is up", 2);
        x.lay(1, false);
        nodding(x, "wood alone is up", 2);
        x.lay(2, true);
        nodding(x, "one of two is up", 2);
        x.lay(3, true);
        nodding(x, "both are laid back", 0);
        x.post(1, 2);
        x.lay(1, false);
        x.lay(0, false);
        nodding(x, "wood is up elsewhere", 1);
        x.post(0, 2);
        x.lay(0, false);
        nodding(x, "by where it is, not by where it belongs", 0);
        x.lay(1, true);
        nodding(x, "at the third", 4);
    }

    private static void nodding(DollCongress x, String how, int set) {
        doc.due(how, x.told(9), set);
        for (int c = 0; c < 3; c++) {
            doc.due(how + ", court " + c, x.court(c, 3), (set >> c) & 1);
        }
    }

    private static void audiences() {
        doc.says("treaties, and those that held, are counted");
        DollCongress x = Check.made("c1,1;d0 0 0;d0 1 0;");
        for (int i = 1; i <= 100; i++) {
            doc.due("audience()", x.audience(), 1);
            doc.due("audiences", x.told(10), i);
            doc.due("held", x.told(11), i);
        }
        x.lay(0, true);
        for (int i = 1; i <= 20; i++) {
            doc.due("audience() that does not hold", x.audience(), 0);
            doc.due("audiences", x.told(10), 100 + i);
            doc.due("held", x.told(11), 100);
        }
        doc.says("An AUDIENCE: 1 the TREATY HOLDS, 0 not. NOT: no CONGRESS.");
        x = new DollCongress();
        doc.due("no congress", x.audience(), NOT);
        doc.due("none counted", x.told(10), 0);
        doc.due("none can be undone", x.told(16), 0);
        doc.due("no dolls", Check.made("c9,9;q1;").audience(), 0);
    }

    private static void audienceHolds() {
        doc.says("it HOLDS, if that is QUOTA or more");
        // Of 5, 1, 1 votes those of court 0 alone are 5, with court 1 they are 6, with all 7.
        for (int quota = 1; quota <= 8; quota++) {
            DollCongress x = Check.made("c5,1,1;d0 0 0;d0 1 0;d0 2 0;q" + quota + ";");
            doc.due("7 votes by " + quota, x.audience(), 7 >= quota ? 1 : 0);
            x.lay(2, true);
            doc.due("6 votes by " + quota, x.audience(), 6 >= quota ? 1 : 0);
            x.lay(1, true);
            doc.due("5 votes by " + quota, x.audience(), 5 >= quota ? 1 : 0);
            x.lay(0, true);
            doc.due("no votes by " + quota, x.audience(), 0);
            x.lay(1, false);
            doc.due("1 vote by " + quota, x.audience(), 1 >= quota ? 1 : 0);
        }
        DollCongress x = Check.made("c9,9,9,9,9,9,9;d0 0 0;d0 1 0;d0 2 0;d0 3 0;d0 4 0;d0 5 0;d0 6 0;q63;");
        doc.due("63 votes by 63", x.audience(), 1);
        x.lay(6, true);
        doc.due("54 votes by 63", x.audience(), 0);
        x = Check.made("c8,9,9,9,9,9,9;d0 0 0;d0 1 0;d0 2 0;d0 3 0;d0 4 0;d0 5 0;d0 6 0;q63;");
        doc.due("62 votes by 63", x.audience(), 0);
        x = Check.made("c3,9;d0 0 0;d0 0 0;d2 0 0;q4;");
        doc.due("a court's votes count once", x.audience(), 0);
    }

    private static void masked() {
        doc.says("MASKED (0 .. 63): what SIGNS were. UNKNOWN, OUTSIDE.");
        DollCongress x = Check.made(KINDS);
        int were = 8;
        for (int signs = 0; signs <= 63; signs++) {
            doc.due("mask(3, " + signs + ")", x.mask(3, signs), were);
            doc.due("signs", x.doll(3, 3), signs);
            were = signs;
        }
        doc.due("mask(3, -1)", x.mask(3, -1), OUTSIDE);
        doc.due("mask(3, 64)", x.mask(3, 64), OUTSIDE);
        doc.due("mask(3, least)", x.mask(3, Integer.MIN_VALUE), OUTSIDE);
        doc.due("mask(-1, 0)", x.mask(-1, 0), UNKNOWN);
        doc.due("mask(4, 0)", x.mask(4, 0), UNKNOWN);
        doc.due("mask(4, 64)", x.mask(4, 64), UNKNOWN);
        doc.due("signs", x.doll(3, 3), 63);
        doc.due("signs of another", x.doll(2, 3), 4);
    }

    private static void right() {
        doc.says("RIGHT: a DOLL AT the COURT to which it belongs.");
        DollCongress x = Check.made("c1,1;" + "d0 1 0;".repeat(8));
        doc.due("all are right", x.told(7), 0);
        for (int d = 0; d < 8; d++) {
            x.post(d, 0);
            doc.due("not right up to " + d, x.told(7), (2 << d) - 1);
        }
        x.mix(0, 7);
        doc.due("mixed at one court", x.told(7), 255);
        x.post(7, 1);
        doc.due("right again", x.told(7), 127);
    }

    // ---- promises 13, 14

    private static void yearsAtOnce() {
        doc.says("n YEARS (1 .. 60): YEARS. OUTSIDE, NOT: no CONGRESS; FULL: YEARS are above 9000.");
        DollCongress x = Check.made(KINDS);
        doc.due("year(0)", x.year(0), OUTSIDE);
        doc.due("year(-1)", x.year(-1), OUTSIDE);
        doc.due("year(61)", x.year(61), OUTSIDE);
        doc.due("years", x.told(5), 0);
        doc.due("year(1)", x.year(1), 1);
        doc.due("year(60)", x.year(60), 61);
        doc.due("year(59)", x.year(59), 120);
        doc.due("no congress", new DollCongress().year(1), NOT);
        doc.due("no congress, 60", new DollCongress().year(60), NOT);
        doc.due("no congress, 0", new DollCongress().year(0), OUTSIDE);
        doc.due("no congress, 61", new DollCongress().year(61), OUTSIDE);
        doc.due("without dolls", Check.made("c1,1;").year(60), 60);
    }

    private static void driftsAtOnce() {
        doc.says("n YEARS (1 .. 60) BY DRAWS: YEARS. OUTSIDE, NOT: no CONGRESS; FULL: YEARS are above 9000.");
        DollCongress x = Check.made(KINDS);
        doc.due("drift(0)", x.drift(0), OUTSIDE);
        doc.due("drift(-1)", x.drift(-1), OUTSIDE);
        doc.due("drift(61)", x.drift(61), OUTSIDE);
        doc.due("years", x.told(5), 0);
        doc.due("seed", x.seed(0), 0);
        doc.due("drift(1)", x.drift(1), 1);
        doc.due("drift(60)", x.drift(60), 61);
        doc.due("drift(59)", x.drift(59), 120);
        doc.due("no congress", new DollCongress().drift(1), NOT);
        doc.due("no congress, 60", new DollCongress().drift(60), NOT);
        doc.due("no congress, 0", new DollCongress().drift(0), OUTSIDE);
        doc.due("no congress, 61", new DollCongress().drift(61), OUTSIDE);
        doc.due("without dolls", Check.made("c1,1;").drift(60), 60);
    }

    private static void yearsAbove9000() {
        doc.says("FULL: YEARS are above 9000.");
        DollCongress x = Check.made("c1,1;d3 0 0;d2 1 0;");
        for (int i = 1; i < 150; i++) {
            x.year(60);
        }
        doc.due("to 8999", x.year(59), 8999);
        doc.due("from 8999 to 9000", x.year(1), 9000);
        doc.due("from 9000 to 9001", x.year(1), 9001);
        doc.due("year(1) at 9001", x.year(1), FULL);
        doc.due("year(60) at 9001", x.year(60), FULL);
        doc.due("drift(1) at 9001", x.drift(1), FULL);
        doc.due("drift(60) at 9001", x.drift(60), FULL);
        doc.due("year(0) at 9001", x.year(0), OUTSIDE);
        doc.due("drift(61) at 9001", x.drift(61), OUTSIDE);
        doc.due("years", x.told(5), 9001);
        doc.due("warm, up to 9101", x.warm(1, 100), 99);
        x.undo();
        doc.due("from 9000 to 9060", x.year(60), 9060);
        doc.due("year(1) at 9060", x.year(1), FULL);
        x.undo();
        doc.due("drift from 9000 to 9001", x.drift(1), 9001);
        doc.due("drift(1) at 9001", x.drift(1), FULL);
        x.undo();
        doc.due("drift from 9000 to 9060", x.drift(60), 9060);
        x.undo();
        x.undo();
        doc.due("from 8999 to 9059", x.year(60), 9059);
        // 6 of its years ended below 20.
        doc.due("tears of 9059 years", x.doll(1, TEARS), 9053);
        mostTears(x);
        doc.says("FULL: YEARS are above 9000.");
        doc.due("a new congress has years again", Check.tell(x, "c1,1;"), 0);
        doc.due("year(1)", x.year(1), 1);
    }

    /** No run of calls comes to more: years end at 9060. */
    private static void mostTears(DollCongress x) {
        doc.says("(999999 at most)");
        x.undo();
        x.year(1);
        x.year(60);
        doc.due("years", x.told(5), 9060);
        doc.due("tears of 9060 years", x.doll(1, TEARS), 9054);
        doc.due("a year more", x.year(1), FULL);
        doc.due("tears", x.doll(1, TEARS), 9054);
    }
}

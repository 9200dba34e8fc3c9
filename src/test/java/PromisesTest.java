/** Each promise by its number, with answers worked out by hand from the document. */
public final class PromisesTest {
    private static final int NONE = DollCongress.NONE, UNKNOWN = DollCongress.UNKNOWN, OUTSIDE = DollCongress.OUTSIDE,
            NOT = DollCongress.NOT, FULL = DollCongress.FULL;
    private static final int LEAST = Integer.MIN_VALUE, GREATEST = Integer.MAX_VALUE;
    private static final Check check = new Check("PromisesTest");

    // 4 courts of 3, 2, 2, 1 votes; dolls: wax at 0, real at 1, wood at 2, clock at 3, wax at 0.
    private static final String FIVE = "c3,2,2,1;d0 0 5;d2 1 7;d1 2 20;d3 3 7;d0 0 63;s7;";

    public static void main(String[] args) {
        newObject();
        feed();
        congress();
        fault();
        told();
        doll();
        court();
        post();
        mix();
        lay();
        mask();
        audience();
        year();
        drift();
        undo();
        warm();
        warmest();
        first();
        swaps();
        close();
        look();
        agreed();
        agenda();
        agendaFor();
        wanted();
        know();
        parcels();
        book();
        seed();
        images();
        check.end();
    }

    private static void due(String call, int got, int want) {
        check.due(call, got, want);
    }

    private static void newObject() {
        DollCongress x = new DollCongress();
        int[] toldDue = {0, 0, 0, 0, 0, 0, 0, 0, 0, 0, 0, 0, 0, NONE, NONE, 0, 0};
        for (int what = 0; what < toldDue.length; what++) {
            due("1 told(" + what + ")", x.told(what), toldDue[what]);
        }
        due("1 fault", x.fault(), NONE);
        due("1 doll", x.doll(0, 0), UNKNOWN);
        due("1 court", x.court(0, 0), UNKNOWN);
        due("1 know", x.know(0, 0), UNKNOWN);
        due("1 write", x.write(0, 0), UNKNOWN);
        due("1 seed", x.seed(0), 0);
        due("1 tear", x.tear(), 0);
        due("1 goBack", x.goBack(0), NOT);
        due("1 wanted", x.wanted(NONE), 0);
        due("1 wanted court", x.wanted(0), UNKNOWN);
    }

    private static void feed() {
        DollCongress x = new DollCongress();
        due("2 least", x.feed(0), 1);
        due("2 greatest", x.feed(255), 2);
        due("2 below", x.feed(-1), OUTSIDE);
        due("2 above", x.feed(256), OUTSIDE);
        due("2 far below", x.feed(LEAST), OUTSIDE);
        for (int i = 3; i <= 240; i++) {
            due("2 letter", x.feed(' '), i);
        }
        due("2 full", x.feed(' '), FULL);
        due("2 outside ahead of full", x.feed(256), OUTSIDE);
        due("2 letters", x.told(2), 240);
        due("2 fault at the first", x.congress(), -11);
        due("2 empty then", x.told(2), 0);
        due("2 again", x.feed(' '), 1);
    }

    private static void congress() {
        DollCongress x = Check.made(FIVE);
        x.post(0, 1);
        x.write(0, 1);
        x.year(5);
        x.audience();
        x.mask(0, 1);
        x.keep(0);
        x.keep(1);
        x.seed(77);
        x.lay(0, false);
        due("3 fault", Check.tell(x, "c1;"), -11);
        due("3 text is empty with a fault", x.told(2), 0);
        due("3 courts stay", x.told(0), 4);
        due("3 years stay", x.told(5), 5);
        due("3 book stays", x.told(15), 1);
        due("3 undone stays", x.told(16), 1);
        due("3 pattern stays", x.told(3), 7);
        due("3 quota stays", x.told(4), 5);
        due("3 votes stay", x.court(0, 0), 3);
        due("3 image stays", x.goBack(1), 1);
        x.year(8);
        x.post(0, 2);
        due("3 can be undone", x.told(16), 2);
        due("3 dolls", Check.tell(x, FIVE), 5);
        due("3 years", x.told(5), 0);
        due("3 up", x.told(6), 31);
        due("3 at", x.told(7), 0);
        due("3 counted", x.told(10), 0);
        due("3 held", x.told(11), 0);
        due("3 book", x.told(15), 0);
        due("3 undone", x.told(16), 0);
        due("3 undo", x.undo(), NOT);
        due("3 image 0 gone", x.goBack(0), NOT);
        due("3 image 1 gone", x.goBack(1), NOT);
        due("3 signs", x.doll(0, 3), 5);
        due("3 warm", x.doll(1, 4), 0);
        due("3 tears", x.doll(1, 6), 0);
        due("3 told quota", Check.tell(x, "c1,1;q2;s9;"), 0);
        due("3 all told again", Check.tell(x, "c1,1;q1;s8;"), 0);
        due("3 the new pattern", x.told(3), 8);
        due("3 the new quota", x.told(4), 1);
        due("3 none told", Check.tell(x, "c5,5,5;"), 0);
        due("3 pattern untold", x.told(3), 0);
        due("3 quota untold", x.told(4), 8);
        x.seed(78);
        due("3 seed stays, no dolls", Check.tell(x, "c1,1;"), 0);
        due("3 seed", x.seed(0), 78);
        due("3 empty text", x.congress(), 0);
        due("3 no congress", x.told(0), 0);
        due("3 no quota", x.told(4), 0);
        due("3 no audience", x.audience(), NOT);
        Check.tell(x, FIVE);
        due("3 blanks alone", Check.tell(x, "   "), 0);
        due("3 no congress by blanks", x.told(0), 0);
        due("3 no fault of blanks", x.fault(), NONE);
    }

    private static void fault() {
        DollCongress x = new DollCongress();
        due("4 fault", Check.tell(x, "c1,1;x"), -11);
        due("4 place", x.fault(), 5);
        x.feed('c');
        due("4 place stays while fed", x.fault(), 5);
        due("4 end", x.congress(), -11);
        due("4 end place", x.fault(), 1);
        due("4 good", Check.tell(x, "c1,1;"), 0);
        due("4 none", x.fault(), NONE);
    }

    private static void told() {
        DollCongress x = Check.made(FIVE);
        due("5 below", x.told(-1), OUTSIDE);
        due("5 above", x.told(17), OUTSIDE);
        due("5 far", x.told(GREATEST), OUTSIDE);
        due("5 courts", x.told(0), 4);
        due("5 dolls", x.told(1), 5);
        x.feed('c');
        due("5 letters", x.told(2), 1);
        due("5 pattern", x.told(3), 7);
        due("5 quota", x.told(4), 5);
        x.year(2);
        due("5 years", x.told(5), 2);
        x.lay(1, true);
        due("5 up", x.told(6), 29);
        due("5 nod", x.told(9), 9);
        x.mix(0, 3);
        due("5 rings", x.told(7), 9);
        due("5 real", x.told(8), 10);
        x.audience();
        due("5 audiences", x.told(10), 1);
        due("5 held", x.told(11), 0);
        due("5 tell", x.told(12), 18);
        due("5 blocks", x.told(13), 3);
        due("5 least", x.told(14), 3);
        x.write(0, 0);
        due("5 book", x.told(15), 1);
        due("5 undone", x.told(16), 4);
        toldSets();
    }

    private static void toldSets() {
        DollCongress x = Check.made("c1,1,1;q63;");
        due("5 blocks, none needed", x.told(13), 0);
        due("5 least, none", x.told(14), NONE);
        due("5 tell, no dolls", x.told(12), 0);
        x = Check.made("c1,1,9;q1;");
        due("5 blocks, all needed", x.told(13), 7);
        due("5 least of like ones", x.told(14), 1);
        x = Check.made("c1,5,5;q5;");
        due("5 least is the lesser of two", x.told(14), 2);
        due("5 blocks two", x.told(13), 6);
        x = Check.made("c9,9;d0 0 3;d0 0 3;");
        due("5 tell, like ones need none", x.told(12), 0);
        x = Check.made("c9,9;d0 0 32;d0 0 0;");
        due("5 tell by one", x.told(12), 32);
        x = Check.made("c9,9;d0 0 48;d0 0 0;");
        due("5 tell by the least of two", x.told(12), 16);
        due("5 pattern untold: real is who has none", x.told(8), 2);
        due("5 quota of 18", x.told(4), 10);
        due("5 quota of 3", Check.made("c1,2;").told(4), 2);
    }

    private static void doll() {
        DollCongress x = Check.made(FIVE);
        x.post(1, 3);
        x.lay(1, false);
        x.mask(1, 9);
        x.year(8);
        int[] want = {2, 1, 3, 9, 24, 1, 2};
        for (int what = 0; what < want.length; what++) {
            due("6 doll(1, " + what + ")", x.doll(1, what), want[what]);
        }
        due("6 no doll", x.doll(5, 0), UNKNOWN);
        due("6 below", x.doll(-1, 0), UNKNOWN);
        due("6 unknown ahead of outside", x.doll(5, 7), UNKNOWN);
        due("6 outside", x.doll(0, 7), OUTSIDE);
        due("6 outside below", x.doll(0, -1), OUTSIDE);
        x.lay(1, true);
        due("6 not up", x.doll(1, 5), 0);
    }

    private static void court() {
        DollCongress x = Check.made(FIVE);
        x.post(1, 0);
        due("7 votes", x.court(0, 0), 3);
        due("7 at", x.court(0, 1), 19);
        due("7 belong", x.court(0, 2), 17);
        due("7 belong elsewhere", x.court(1, 2), 2);
        due("7 at none", x.court(1, 1), 0);
        due("7 nods", x.court(0, 3), 1);
        due("7 none up", x.court(1, 3), 0);
        due("7 wood", x.court(2, 3), 0);
        due("7 power", x.court(0, 4), 10);
        due("7 power like", x.court(1, 4), 6);
        due("7 power like too", x.court(2, 4), 6);
        due("7 power least", x.court(3, 4), 2);
        due("7 no court", x.court(4, 0), UNKNOWN);
        due("7 below", x.court(-1, 0), UNKNOWN);
        due("7 unknown ahead of outside", x.court(4, 9), UNKNOWN);
        due("7 outside", x.court(0, 5), OUTSIDE);
        due("7 outside below", x.court(0, -1), OUTSIDE);
        due("7 power of none", Check.made("c1,1;q63;").court(0, 4), 0);
        due("7 dictator", Check.made("c9,1,1;").court(0, 4), 6);
        due("7 dummy", Check.made("c9,1,1;").court(1, 4), 0);
        powerOfLikeCourts();
        x = Check.made("c1,1;d1 0 0;d1 1 0;d0 0 0;d0 1 0;");
        due("7 wood at two courts", x.told(9), 0);
        x.lay(0, true);
        due("7 wood laid back", x.court(0, 3), 1);
        due("7 wood up", x.court(1, 3), 0);
    }

    /** Like courts share all orders alike, whatever QUOTA is, if they can come to it. */
    private static void powerOfLikeCourts() {
        StringBuilder text = new StringBuilder("c1");
        int share = 1;
        for (int courts = 2; courts <= 7; courts++) {
            text.append(",1");
            share *= courts - 1;
            for (int quota = 1; quota <= courts; quota++) {
                DollCongress x = Check.made(text + ";q" + quota + ";");
                for (int c = 0; c < courts; c++) {
                    due("7 power of " + c + " of " + courts + " by " + quota, x.court(c, 4), share);
                }
                due("5 least by " + quota, x.told(14), (1 << quota) - 1);
                due("5 blocks by " + quota, x.told(13), (1 << (courts + 1 - quota)) - 1);
            }
        }
    }

    private static void post() {
        DollCongress x = Check.made(FIVE);
        due("8 where it was", x.post(1, 3), 1);
        due("8 where it is", x.doll(1, 2), 3);
        due("8 laid back", x.doll(1, 5), 0);
        due("8 there", x.post(1, 3), NOT);
        due("8 refused is not kept", x.told(16), 1);
        due("8 doll", x.post(5, 0), UNKNOWN);
        due("8 court", x.post(0, 4), UNKNOWN);
        due("8 below", x.post(0, -1), UNKNOWN);
        due("8 doll below", x.post(LEAST, 0), UNKNOWN);
    }

    private static void mix() {
        DollCongress x = Check.made(FIVE);
        due("9 court of the first", x.mix(1, 3), 3);
        due("9 court of the other", x.doll(3, 2), 1);
        due("9 both laid back", x.told(6), 21);
        due("9 at one court", x.mix(0, 4), 0);
        due("9 laid back all the same", x.told(6), 4);
        due("9 twice", x.mix(2, 2), UNKNOWN);
        due("9 none", x.mix(2, 5), UNKNOWN);
        due("9 none first", x.mix(-1, 2), UNKNOWN);
        due("9 kept", x.told(16), 2);
    }

    private static void lay() {
        DollCongress x = Check.made(FIVE);
        due("10 was up", x.lay(0, true), 0);
        due("10 was back", x.lay(0, true), 1);
        due("10 back", x.doll(0, 5), 0);
        due("10 up from back", x.lay(0, false), 1);
        due("10 up from up", x.lay(0, false), 0);
        due("10 up", x.doll(0, 5), 1);
        due("10 none", x.lay(5, true), UNKNOWN);
        due("10 below", x.lay(-1, false), UNKNOWN);
        due("10 kept", x.told(16), 4);
    }

    private static void mask() {
        DollCongress x = Check.made(FIVE);
        due("11 were", x.mask(0, 63), 5);
        due("11 are", x.doll(0, 3), 63);
        due("11 none", x.mask(0, 0), 63);
        due("11 above", x.mask(0, 64), OUTSIDE);
        due("11 below", x.mask(0, -1), OUTSIDE);
        due("11 unknown first", x.mask(5, 64), UNKNOWN);
        due("11 kept", x.told(16), 2);
        due("11 as it was", x.doll(0, 3), 0);
    }

    private static void audience() {
        DollCongress x = Check.made(FIVE);
        due("12 holds: 3 + 2 + 1", x.audience(), 1);
        x.lay(1, true);
        due("12 not: 3 + 1", x.audience(), 0);
        x.lay(2, true);
        x.lay(1, false);
        x.lay(3, true);
        due("12 holds by just the quota", x.audience(), 1);
        due("12 counted", x.told(10), 3);
        due("12 held", x.told(11), 2);
        due("12 kept", x.told(16), 7);
        due("12 none", new DollCongress().audience(), NOT);
        due("12 without dolls", Check.made("c1,1;").audience(), 0);
    }

    private static void year() {
        DollCongress x = Check.made(FIVE);
        due("13 one", x.year(1), 1);
        due("13 clock in year 0", x.doll(3, 4), 2);
        due("13 two", x.year(1), 2);
        due("13 clock in year 1", x.doll(3, 4), 2);
        x.lay(3, true);
        due("13 five", x.year(3), 5);
        due("13 laid back, not below 0", x.doll(3, 4), 0);
        due("13 wood", x.doll(2, 4), 0);
        due("13 wax", x.doll(0, 4), 5);
        due("13 real", x.doll(1, 4), 15);
        due("13 no tears at 15", x.doll(1, 6), 0);
        x.year(1);
        due("13 no tears at 18", x.doll(1, 6), 0);
        x.year(1);
        due("13 tears at 21", x.doll(1, 6), 1);
        x.lay(1, true);
        x.year(1);
        due("13 no tears laid back", x.doll(1, 6), 1);
        x.lay(1, false);
        x.year(1);
        due("13 tears at 23", x.doll(1, 6), 2);
        tearsAtTwenty();
        due("13 wax has no tears", Check.made("c1,1;d0 0 0;").doll(0, 6), 0);
        due("13 none", x.year(0), OUTSIDE);
        due("13 many", x.year(61), OUTSIDE);
        due("13 below", x.year(-5), OUTSIDE);
        due("13 no congress", new DollCongress().year(1), NOT);
        due("13 outside ahead of not", new DollCongress().year(0), OUTSIDE);
        yearsFull();
    }

    /** 18, laid back 17, up 20. */
    private static void tearsAtTwenty() {
        DollCongress x = Check.made("c1,1;d2 0 0;");
        x.year(6);
        x.lay(0, true);
        x.year(1);
        x.lay(0, false);
        x.year(1);
        due("13 warm by 20", x.doll(0, 4), 20);
        due("13 tears at 20", x.doll(0, 6), 1);
    }

    private static void yearsFull() {
        DollCongress x = Check.made("c1,1;d2 0 0;d0 1 0;");
        for (int i = 1; i <= 150; i++) {
            due("13 sixty", x.year(60), 60 * i);
        }
        due("13 most warm", x.doll(1, 4), 99);
        due("13 tears", x.doll(0, 6), 9000 - 6);
        due("13 wax is warm, without tears", x.doll(1, 6), 0);
        due("13 at 9000", x.year(1), 9001);
        due("13 above 9000", x.year(1), FULL);
        due("14 above 9000", x.drift(1), FULL);
        due("13 outside ahead of full", x.year(61), OUTSIDE);
        due("13 refused changes nothing", x.told(5), 9001);
        due("15 undone", x.undo(), 15);
        due("14 at 9000", x.drift(60), 9060);
        due("14 above", x.drift(1), FULL);
    }

    private static void drift() {
        DollCongress x = Check.made(FIVE);
        due("14 none", x.drift(0), OUTSIDE);
        due("14 many", x.drift(61), OUTSIDE);
        due("14 no congress", new DollCongress().drift(1), NOT);
        // From 0: 12345 (0 of 5), 1406932606 (doll 3 of 5: 21468), 654583775 (court 0 of 4: 9988).
        due("14 posted", x.drift(1), 1);
        due("14 where", x.doll(3, 2), 0);
        due("14 back", x.doll(3, 5), 0);
        due("14 three draws", x.seed(0), 654583775);
        due("14 undo", x.undo(), 0);
        due("14 the years go on by draws", x.drift(1), 1);
        x = Check.made("c1,1;");
        x.seed(9);
        due("14 without dolls", x.drift(60), 60);
        due("14 no draws without dolls", x.seed(0), 9);
        driftDeeds();
    }

    /** One year from seeds whose first draws are each deed in turn, on the dolls that are told here. */
    private static void driftDeeds() {
        drifted("posted to where it is: court 0, doll 4", 37, 959475208, 31, 0, 0);
        drifted("mixed: doll 0 with 2", 6, 704025629, 26, 5, 0);
        drifted("mixed with itself: doll 2", 20, 819389955, 31, 0, 0);
        drifted("laid back: doll 3", 1, 377401575, 23, 0, 0);
        drifted("an audience", 7, 642666333, 31, 0, 1);
        DollCongress x = Check.made(FIVE);
        x.lay(1, true);
        x.seed(4);
        x.drift(1);
        due("14 up again: doll 1", x.told(6), 31);
        due("14 up ahead of the year", x.doll(1, 4), 3);
        x = Check.made("c1,1;d0 0 0;");
        x.seed(1);
        x.drift(1);
        due("14 a doll alone is drawn too", x.told(6), 0);
    }

    private static void drifted(String deed, int from, int to, int up, int rings, int audiences) {
        DollCongress x = Check.made(FIVE);
        x.seed(from);
        due("14 a year, " + deed, x.drift(1), 1);
        due("14 up, " + deed, x.told(6), up);
        due("14 rings, " + deed, x.told(7), rings);
        due("14 audiences, " + deed, x.told(10), audiences);
        due("14 held, " + deed, x.told(11), audiences);
        due("14 seed, " + deed, x.seed(0), to);
    }

    private static void undo() {
        DollCongress x = Check.made(FIVE);
        for (int i = 0; i < 20; i++) {
            x.mask(0, i);
        }
        due("15 at most 16", x.told(16), 16);
        for (int i = 15; i >= 0; i--) {
            due("15 left", x.undo(), i);
            due("15 signs", x.doll(0, 3), i + 3);
        }
        due("15 none", x.undo(), NOT);
        x.year(9);
        x.audience();
        x.seed(4);
        x.drift(60);
        int seed = x.seed(3);
        x.seed(seed);
        x.write(0, 3);
        due("15 drift undone", x.undo(), 2);
        due("15 seed stays", x.seed(0), seed);
        due("15 book stays", x.told(15), 1);
        due("15 years", x.told(5), 9);
        due("15 tears", x.doll(1, 6), 3);
        due("15 audience undone", x.undo(), 1);
        due("15 not counted", x.told(10), 0);
        due("15 not held", x.told(11), 0);
        due("15 year undone", x.undo(), 0);
        due("15 years 0", x.told(5), 0);
        due("15 no tears", x.doll(1, 6), 0);
        due("15 not warm", x.doll(1, 4), 0);
    }

    private static void warm() {
        DollCongress x = Check.made(FIVE);
        x.year(1);
        due("16 now", x.warm(3, 0), 2);
        due("16 an odd year", x.warm(3, 1), 2);
        due("16 an even year", x.warm(3, 2), 4);
        due("16 most", x.warm(1, 100), 99);
        due("16 nothing changes", x.told(5), 1);
        due("16 nor warm", x.doll(1, 4), 3);
        due("16 above", x.warm(1, 101), OUTSIDE);
        due("16 below", x.warm(1, -1), OUTSIDE);
        due("16 unknown first", x.warm(5, 101), UNKNOWN);
        x.lay(1, true);
        due("16 laid back", x.warm(1, 2), 1);
        due("16 not below 0", x.warm(1, 50), 0);
    }

    private static void warmest() {
        DollCongress x = Check.made(FIVE);
        due("17 like ones", x.warmest(0), 0);
        due("17 real", x.warmest(1), 1);
        due("17 above", x.warmest(101), OUTSIDE);
        due("17 below", x.warmest(-1), OUTSIDE);
        due("17 none", Check.made("c1,1;").warmest(100), NONE);
        due("17 outside without dolls", new DollCongress().warmest(101), OUTSIDE);
        x.lay(1, true);
        due("17 clock at first", x.warmest(1), 3);
        due("17 wax and clock are like then", x.warmest(2), 0);
        due("17 wax by 100", x.warmest(100), 0);
    }

    private static void first() {
        DollCongress x = Check.made("c1,1;d0 0 0;d1 0 0;d2 0 0;d3 0 0;");
        due("18 wax", x.first(0, 99), 99);
        due("18 wood", x.first(1, 1), NONE);
        due("18 wood at 0", x.first(1, 0), 0);
        due("18 real", x.first(2, 99), 33);
        due("18 clock", x.first(3, 99), 99);
        due("18 clock at 98", x.first(3, 98), 97);
        due("18 above", x.first(0, 100), OUTSIDE);
        due("18 below", x.first(0, -1), OUTSIDE);
        due("18 unknown first", x.first(4, 100), UNKNOWN);
        x.year(10);
        due("18 already", x.first(2, 30), 0);
        due("18 from now", x.first(2, 31), 1);
        x.lay(2, true);
        due("18 laid back", x.first(2, 31), NONE);
        due("18 laid back, warm yet", x.first(2, 30), 0);
    }

    private static void swaps() {
        DollCongress x = Check.made("c1,1,1,1;d0 0 0;d0 1 0;d0 2 0;d0 3 0;d0 0 0;d0 1 0;");
        due("19 none", x.swaps(0), 0);
        due("19 none first", x.swaps(1), NONE);
        due("19 below", x.swaps(-1), OUTSIDE);
        due("19 above", x.swaps(2), OUTSIDE);
        x.mix(2, 3);
        due("19 one", x.swaps(0), 1);
        due("19 the pair", x.swaps(1), 23);
        x.mix(4, 5);
        due("19 two", x.swaps(0), 2);
        due("19 the lesser pair", x.swaps(1), 23);
        x.mix(0, 1);
        due("19 three: rings of two, not of four", x.swaps(0), 3);
        due("19 first", x.swaps(1), 1);
        due("19 nothing changes", x.told(7), 63);
        x.post(0, 3);
        due("19 by none", x.swaps(0), NONE);
        due("19 first of none", x.swaps(1), NONE);
        due("19 no congress", new DollCongress().swaps(2), OUTSIDE);
    }

    private static void close() {
        DollCongress x = Check.made(FIVE);
        due("20 just", x.close(0), 10);
        due("20 one", x.close(1), 11);
        due("20 two", x.close(2), 11);
        due("20 three", x.close(3), 31);
        due("20 six", x.close(6), 31);
        due("20 above", x.close(7), OUTSIDE);
        due("20 below", x.close(-1), OUTSIDE);
        due("20 outside without a congress", new DollCongress().close(7), OUTSIDE);
        x.mask(1, 56);
        due("20 masked", x.close(5), 29);
        due("20 masked, six unlike", x.close(6), 31);
    }

    private static void look() {
        DollCongress x = Check.made("c1,1;d0 0 1;d0 0 3;d0 0 7;d0 0 15;s1;");
        due("21 all", x.look(0, 0), 15);
        due("21 the middle", x.look(0, 1), 2);
        due("21 has what is in the pattern", x.look(1, 0), 15);
        due("21 has none that is not", x.look(2, 0), 1);
        due("21 one alone", x.look(2, 1), NONE);
        due("21 three left", x.look(8, 0), 7);
        due("21 the lesser of like ones", x.look(8, 1), 1);
        due("21 none", Check.made("c1,1;d0 0 5;d0 0 5;").look(0, 1), NONE);
        due("21 all signs", x.look(63, 0), 1);
        due("21 the first sign", Check.made("c1,1;d0 0 5;d0 0 4;").look(63, 0), 0);
        due("21 sign 0 parts", Check.made("c1,1;d0 0 5;d0 0 4;").look(2, 1), 0);
        due("21 sign 5 parts", Check.made("c1,1;d0 0 32;d0 0 0;").look(0, 1), 5);
        due("21 signs above", x.look(64, 0), OUTSIDE);
        due("21 signs below", x.look(-1, 0), OUTSIDE);
        due("21 what above", x.look(0, 2), OUTSIDE);
        due("21 what below", x.look(0, -1), OUTSIDE);
    }

    private static void agreed() {
        DollCongress x = Check.made(FIVE);
        due("22 just", x.agreed(3), 1);
        due("22 not", x.agreed(6), 0);
        due("22 none", x.agreed(0), 0);
        due("22 no such court", x.agreed(16), UNKNOWN);
        due("22 bits of such", x.agreed(19), UNKNOWN);
        due("22 below", x.agreed(-1), UNKNOWN);
        due("22 without", new DollCongress().agreed(0), 0);
        due("22 without, a court", new DollCongress().agreed(1), UNKNOWN);
    }

    private static void agenda() {
        // Likings 0: 0 1 2, 1: 0 2 1, 2: 1 0 2, 3: 1 2 0, 4: 2 0 1. With 3, 1, 1, 3, 3 votes:
        // 0 over 1: 3 + 1 + 3 to 4; 1 over 2: 3 + 1 + 3 to 4; 2 over 0: 3 + 3 to 5: a ring.
        DollCongress x = Check.made("c3,1,1,3,3;");
        due("23 0 and 1, then 2", x.agenda(0, 1), 2);
        due("23 1 and 0, then 2", x.agenda(1, 0), 2);
        due("23 0 and 2, then 1", x.agenda(0, 2), 1);
        due("23 1 and 2, then 0", x.agenda(1, 2), 0);
        due("23 two told alike", x.agenda(1, 1), OUTSIDE);
        due("23 above", x.agenda(0, 3), OUTSIDE);
        due("23 below", x.agenda(-1, 0), OUTSIDE);
        due("23 without", new DollCongress().agenda(0, 1), NOT);
        due("23 outside ahead of not", new DollCongress().agenda(0, 0), OUTSIDE);
        due("23 0 is liked by both", Check.made("c1,1;").agenda(2, 1), 0);
        // Courts 0 and 1 like 0 over 1, courts 2 and 3 like 1 over 0; both have 5 votes; 2 is behind both.
        due("23 like votes: the lesser", Check.made("c4,1,4,1;").agenda(1, 0), 0);
        due("24 like votes: none for the other", Check.made("c4,1,4,1;").agendaFor(2), NONE);
        due("23 court 6 likes as court 0", Check.made("c1,1,1,1,1,3,3;").agenda(0, 2), 0);
        due("23 court 5", Check.made("c1,1,1,1,1,9,1;").agenda(0, 1), 2);
    }

    private static void agendaFor() {
        DollCongress x = Check.made("c3,1,1,3,3;");
        due("24 0", x.agendaFor(0), 12);
        due("24 1", x.agendaFor(1), 2);
        due("24 2", x.agendaFor(2), 1);
        due("24 first of all", Check.made("c9,1;").agendaFor(0), 1);
        due("24 none", Check.made("c9,1;").agendaFor(2), NONE);
        due("24 above", x.agendaFor(3), OUTSIDE);
        due("24 below", x.agendaFor(-1), OUTSIDE);
        due("24 without", new DollCongress().agendaFor(0), NOT);
        due("24 outside ahead of not", new DollCongress().agendaFor(3), OUTSIDE);
    }

    private static void wanted() {
        DollCongress x = Check.made(FIVE);
        due("25 how much", x.wanted(NONE), 14);
        due("25 doll", x.wanted(0), 4);
        due("25 unknown", x.wanted(4), UNKNOWN);
        due("25 below", x.wanted(-2), UNKNOWN);
        // Signs of all dolls that belong to court 1 count together: doll 2 pleases it by 2.
        x = Check.made("c1,1,1;d0 1 1;d0 1 2;d0 0 3;");
        due("25 together", x.wanted(NONE), 3);
        due("25 court 0 has a doll that costs nothing", x.wanted(0), 0);
        due("25 court 1", x.wanted(1), 2);
        due("25 court 2 the last one", x.wanted(2), 1);
        x = Check.made("c1,1,1;d0 1 1;d0 2 1;");
        due("25 two wanted", x.wanted(NONE), 2);
        due("25 none for the first", x.wanted(0), NONE);
        due("25 the lesser for the next", x.wanted(1), 0);
        due("25 the other", x.wanted(2), 1);
        x.mask(0, 0);
        due("25 masked", x.wanted(NONE), 1);
        due("25 masked: what costs nothing goes first", x.wanted(0), 0);
        due("25 masked: none is left", x.wanted(1), NONE);
        due("25 no dolls", Check.made("c1,1;").wanted(NONE), 0);
        due("25 no doll", Check.made("c1,1;").wanted(1), NONE);
    }

    private static void know() {
        DollCongress x = Check.made("c1,1,1,1,1,1;");
        due("26 behind none", x.know(2, 0), 4);
        due("26 behind one", x.know(2, 1), 4 + 8 + 32);
        due("26 behind two", x.know(2, 2), 4 + 8 + 32 + 16 + 1);
        due("26 all", x.know(2, 3), 63);
        due("26 most", x.know(2, 20), 63);
        due("26 behind how many", x.know(2, NONE), 3);
        due("26 above", x.know(2, 21), OUTSIDE);
        due("26 below", x.know(2, -2), OUTSIDE);
        due("26 unknown first", x.know(6, 21), UNKNOWN);
        due("26 unknown below", x.know(-1, 0), UNKNOWN);
        x = Check.made("c1,1;");
        due("26 two courts", x.know(1, NONE), 1);
        due("26 three more than itself of three", Check.made("c1,1,1;").know(0, 1), 3);
        due("26 three courts", Check.made("c1,1,1;").know(0, NONE), 2);
    }

    private static void parcels() {
        DollCongress x = new DollCongress();
        due("27 none", x.parcels(0, 100), 1000000000);
        due("27 all wrong", x.parcels(1, 100), 0);
        due("27 none wrong", x.parcels(60, 0), 1000000000);
        due("27 half of ten", x.parcels(10, 50), 976562);
        // Cut each time: 976562 of ten, 488281, 244140, 122070, 61035, 30517.
        due("27 half of fifteen", x.parcels(15, 50), 30517);
        // A tenth each time: 1 behind nine, cut to 0 behind ten.
        due("27 ten of 90", x.parcels(9, 90), 1);
        due("27 ten of 90, then none", x.parcels(10, 90), 0);
        due("27 n above", x.parcels(61, 0), OUTSIDE);
        due("27 n below", x.parcels(-1, 0), OUTSIDE);
        due("27 q above", x.parcels(1, 101), OUTSIDE);
        due("27 q below", x.parcels(1, -1), OUTSIDE);
        long each = 1000000000L;
        for (int i = 0; i < 60; i++) {
            each = each * 97 / 100;
        }
        due("27 sixty", x.parcels(60, 3), (int) each);
    }

    private static void book() {
        DollCongress x = Check.made(FIVE);
        due("30 empty", x.judge(), NONE);
        due("28 right", x.write(0, 0), 1);
        due("30 right", x.judge(), NONE);
        due("28 wrong", x.write(1, 0), 2);
        due("28 wrong too", x.write(2, 0), 3);
        due("30 the first", x.judge(), 1);
        x.post(1, 0);
        due("30 now", x.judge(), 2);
        due("28 no doll", x.write(5, 0), UNKNOWN);
        due("28 no court", x.write(0, 4), UNKNOWN);
        due("28 below", x.write(-1, -1), UNKNOWN);
        for (int i = 4; i <= 15; i++) {
            due("28 entry", x.write(0, 0), i);
        }
        due("28 full", x.write(0, 0), FULL);
        due("28 unknown ahead of full", x.write(5, 0), UNKNOWN);
        due("29 had", x.tear(), 15);
        due("29 has none", x.tear(), 0);
        for (int i = 0; i < 15; i++) {
            x.write(3, 3);
        }
        due("30 full and right", x.judge(), NONE);
        due("29 full", x.tear(), 15);
        due("30 torn", x.judge(), NONE);
        due("28 again", x.write(3, 0), 1);
        due("30 again", x.judge(), 0);
    }

    private static void seed() {
        DollCongress x = new DollCongress();
        due("31 at first", x.seed(GREATEST), 0);
        due("31 greatest", x.seed(5), GREATEST);
        due("31 below", x.seed(-1), OUTSIDE);
        due("31 far below", x.seed(LEAST), OUTSIDE);
        due("31 stays", x.seed(0), 5);
    }

    private static void images() {
        DollCongress x = Check.made(FIVE);
        x.seed(11);
        x.year(8);
        x.audience();
        x.mask(2, 1);
        due("32 keep", x.keep(0), 1);
        due("32 nothing to undo", x.told(16), 0);
        due("32 above", x.keep(2), UNKNOWN);
        due("32 below", x.keep(-1), UNKNOWN);
        due("33 not kept", x.goBack(1), NOT);
        due("33 above", x.goBack(2), UNKNOWN);
        due("33 below", x.goBack(-1), UNKNOWN);
        x.seed(12);
        x.write(0, 3);
        x.drift(60);
        x.keep(1);
        x.mask(2, 2);
        due("33 back", x.goBack(0), 1);
        due("33 nothing to undo", x.undo(), NOT);
        due("33 years", x.told(5), 8);
        due("33 up", x.told(6), 31);
        due("33 at", x.told(7), 0);
        due("33 audiences", x.told(10), 1);
        due("33 held", x.told(11), 1);
        due("33 signs", x.doll(2, 3), 1);
        due("33 tears", x.doll(1, 6), 2);
        due("33 warm", x.doll(1, 4), 24);
        due("33 book stays", x.told(15), 1);
        due("33 seed", x.seed(1), 11);
        due("33 the other", x.goBack(1), 1);
        due("33 its years", x.told(5), 68);
        due("33 its signs", x.doll(2, 3), 1);
        due("33 refused leaves what can be undone", x.mask(0, 0), 5);
        x.goBack(2);
        x.keep(2);
        due("33 still undone", x.undo(), 0);
        due("33 an image can be gone back to again", x.goBack(0), 1);
        due("33 again", x.told(5), 8);
        due("32 without a congress", new DollCongress().keep(1), 1);
    }
}

import java.math.BigInteger;
import java.util.Arrays;

/** What is kept: the congress, the book, the seed, what can be undone, images; promises 3, 4, 14, 15 and 28 to 33. */
public final class KeptBoundsTest {
    private static final int NONE = DollCongress.NONE, UNKNOWN = DollCongress.UNKNOWN, OUTSIDE = DollCongress.OUTSIDE,
            NOT = DollCongress.NOT, FULL = DollCongress.FULL;
    private static final int GREATEST = Integer.MAX_VALUE;
    private static final Doc doc = new Doc("KeptBoundsTest");

    private static final String THREE = "c3,2,2,1;d0 0 5;d2 1 7;d3 3 20;s7;";

    public static void main(String[] args) {
        becomesTheCongress();
        oneBehindTheOther();
        textIsEmptyThen();
        faultLeavesAll();
        faultIsOfTheLatest();
        bookOf15();
        bookWrong();
        bookTorn();
        seedBounds();
        drawsLeftOver();
        drawIsLeftOver();
        drawsOfDolls();
        postedByDraws();
        mixedByDraws();
        laidByDraws();
        audienceByDraws();
        drawsAheadOfEachYear();
        sixteenUndone();
        oldestLost();
        eachDeedUndone();
        refusedIsNotUndone();
        seedStays();
        imagesTwo();
        imageNotKept();
        imageKeepsAll();
        imageForgetsPast();
        doc.end();
    }

    // ---- promises 3, 4

    /** Much is done, kept, written; then all of it must be gone. */
    private static DollCongress lived() {
        DollCongress x = Check.made(THREE);
        x.year(8);
        x.mix(0, 1);
        x.keep(0);
        x.keep(1);
        x.lay(0, false);
        x.lay(1, false);
        x.mask(2, 9);
        x.audience();
        x.write(0, 1);
        x.write(2, 3);
        x.year(9);
        x.seed(77);
        doc.due("the treaty held", x.told(11), 1);
        return x;
    }

    private static void becomesTheCongress() {
        doc.says("YEAR 0, all AT their COURTS, up, not WARM, SIGNS as told, nothing counted; no BOOK; IMAGES, what could be"
            + " undone are gone; THE SEED stays");
        for (String text : new String[] {THREE, "c3,2,2,1;", ""}) {
            DollCongress x = lived();
            int dolls = text.equals(THREE) ? 3 : 0;
            doc.due("congress()", Check.tell(x, text), dolls);
            doc.due("courts", x.told(0), text.isEmpty() ? 0 : 4);
            doc.due("years", x.told(5), 0);
            doc.due("up", x.told(6), (1 << dolls) - 1);
            doc.due("rings", x.told(7), 0);
            doc.due("audiences", x.told(10), 0);
            doc.due("held", x.told(11), 0);
            doc.due("book", x.told(15), 0);
            doc.due("judge()", x.judge(), NONE);
            doc.due("undone", x.told(16), 0);
            doc.due("undo()", x.undo(), NOT);
            doc.due("image 0", x.goBack(0), NOT);
            doc.due("image 1", x.goBack(1), NOT);
            for (int d = 0; d < dolls; d++) {
                doc.due("at of " + d, x.doll(d, 2), new int[] {0, 1, 3}[d]);
                doc.due("signs of " + d, x.doll(d, 3), new int[] {5, 7, 20}[d]);
                doc.due("warm of " + d, x.doll(d, 4), 0);
                doc.due("tears of " + d, x.doll(d, 6), 0);
            }
            doc.due("seed", x.seed(1), 77);
            doc.due("tear()", x.tear(), 0);
        }
    }

    /** Of congresses one behind the other each has what its own text told, and nothing of any earlier one. */
    private static void oneBehindTheOther() {
        doc.says("THE TEXT (it is empty then, with a FAULT, too) becomes THE CONGRESS");
        DollCongress x = new DollCongress();
        for (int round = 1; round <= 4; round++) {
            doc.due("all told", Check.tell(x, "c9,8,7;d3 2 60;d2 1 61;s" + round + ";q" + (10 + round) + ";"), 2);
            congressIs(x, 3, round, 10 + round);
            doc.due("all told at once again", Check.tell(x, "c9,8,7;q" + round + ";s" + (20 + round) + ";"), 0);
            congressIs(x, 3, 20 + round, round);
            for (int times = 0; times < 2; times++) {
                doc.due("courts alone", Check.tell(x, "c1,2;"), 0);
                congressIs(x, 2, 0, 2);
                doc.due("no such doll any more", x.doll(0, 0), UNKNOWN);
                doc.due("no such court any more", x.court(2, 0), UNKNOWN);
            }
            if (round % 2 == 0) {
                doc.due("all told once more", Check.tell(x, "c9,9;s5;q9;"), 0);
            }
            doc.due("no congress", x.congress(), 0);
            congressIs(x, 0, 0, 0);
            doc.due("no congress twice", x.congress(), 0);
            congressIs(x, 0, 0, 0);
        }
    }

    private static void congressIs(DollCongress x, int courts, int pattern, int quota) {
        doc.due("courts", x.told(0), courts);
        doc.due("pattern", x.told(3), pattern);
        doc.due("quota", x.told(4), quota);
    }

    private static void textIsEmptyThen() {
        doc.says("THE TEXT (it is empty then, with a FAULT, too)");
        DollCongress x = new DollCongress();
        doc.due("a fault", Check.tell(x, "c1,1;x"), -11);
        doc.due("letters", x.told(2), 0);
        doc.due("the text begins anew", Check.tell(x, "c1,1;d0 0 1;"), 1);
        doc.due("letters", x.told(2), 0);
        doc.due("congress() again: an empty text", x.congress(), 0);
        doc.due("no congress", x.told(0), 0);
        doc.due("fault()", x.fault(), NONE);
        doc.due("feed", x.feed('c'), 1);
        doc.due("a fault at the end", x.congress(), -11);
        doc.due("feed begins anew", x.feed('c'), 1);
        doc.due("letters", x.told(2), 1);
    }

    private static void faultLeavesAll() {
        doc.says("-10 less the number of its FAULT (all else is as it was)");
        String[] texts = {"c1;", "c1,0;", "c1,1;s0;s"};
        for (int number = 1; number <= 3; number++) {
            DollCongress x = lived();
            doc.due("fault " + number, Check.tell(x, texts[number - 1]), -10 - number);
            doc.due("courts", x.told(0), 4);
            doc.due("dolls", x.told(1), 3);
            doc.due("pattern", x.told(3), 7);
            doc.due("quota", x.told(4), 5);
            doc.due("years", x.told(5), 17);
            doc.due("up", x.told(6), 7);
            doc.due("rings", x.told(7), 3);
            doc.due("audiences", x.told(10), 1);
            doc.due("held", x.told(11), 1);
            doc.due("book", x.told(15), 2);
            doc.due("undone", x.told(16), 5);
            doc.due("signs", x.doll(2, 3), 9);
            doc.due("tears", x.doll(1, 6), 11);
            doc.due("power", x.court(0, 4), 10);
            doc.due("seed", x.seed(78), 77);
            doc.due("undo()", x.undo(), 4);
            doc.due("years", x.told(5), 8);
            doc.due("image 1", x.goBack(1), 1);
            doc.due("image 0", x.goBack(0), 1);
            doc.due("signs of the image", x.doll(2, 3), 20);
        }
        // A fault in the last clause, behind clauses that told other things.
        DollCongress x = lived();
        doc.due("a late fault", Check.tell(x, "c9,9;d1 1 1;d1 1 1;d1 1 1;s1;q1;q"), -13);
        doc.due("courts", x.told(0), 4);
        doc.due("pattern", x.told(3), 7);
        doc.due("quota", x.told(4), 5);
        doc.due("kind", x.doll(1, 0), 2);
        doc.due("votes", x.court(0, 0), 3);
        doc.due("agreed", x.agreed(3), 1);
    }

    private static void faultIsOfTheLatest() {
        doc.says("The letter of the FAULT of the latest congress(); NONE.");
        DollCongress x = new DollCongress();
        doc.due("ahead of all", x.fault(), NONE);
        x.feed('x');
        doc.due("fed, not told", x.fault(), NONE);
        x.congress();
        doc.due("the first letter", x.fault(), 0);
        x.feed('c');
        doc.due("fed behind it", x.fault(), 0);
        x.congress();
        doc.due("the end", x.fault(), 1);
        Check.tell(x, "c1,1;");
        doc.due("none", x.fault(), NONE);
        Check.tell(x, "c1,1;c");
        doc.due("a later one", x.fault(), 5);
        doc.due("asked again", x.fault(), 5);
        x.congress();
        doc.due("an empty text has none", x.fault(), NONE);
        Check.tell(x, "c1,1;" + " ".repeat(234) + "x");
        doc.due("the last letter", x.fault(), 239);
        Check.tell(x, "c1,1;" + " ".repeat(234) + "s");
        doc.due("the end of 240", x.fault(), 240);
    }

    // ---- promises 28 to 30

    private static void bookOf15() {
        doc.says("An entry behind THE BOOK: how many. UNKNOWN, FULL (15).");
        DollCongress x = Check.made(THREE);
        for (int i = 1; i <= 15; i++) {
            doc.due("entry " + i, x.write(i % 3, i % 4), i);
            doc.due("entries", x.told(15), i);
        }
        doc.due("a sixteenth", x.write(0, 0), FULL);
        doc.due("a sixteenth of no doll", x.write(3, 0), UNKNOWN);
        doc.due("a sixteenth of no court", x.write(0, 4), UNKNOWN);
        doc.due("a sixteenth of a doll below 0", x.write(-1, 0), UNKNOWN);
        doc.due("entries", x.told(15), 15);
        x.tear();
        doc.due("torn", x.write(0, 0), 1);
        doc.due("no doll", x.write(3, 0), UNKNOWN);
        doc.due("doll below 0", x.write(-1, 0), UNKNOWN);
        doc.due("no court", x.write(0, 4), UNKNOWN);
        doc.due("court below 0", x.write(0, -1), UNKNOWN);
        doc.due("the last doll, the last court", x.write(2, 3), 2);
        doc.due("no congress", new DollCongress().write(0, 0), UNKNOWN);
        doc.due("nothing written can be undone", x.told(16), 0);
    }

    private static void bookWrong() {
        doc.says("THE BOOK (15 at most) tells where DOLLS are: WRONG: the first that is otherwise now; NONE.");
        DollCongress x = Check.made(THREE);
        doc.due("empty", x.judge(), NONE);
        for (int i = 0; i < 14; i++) {
            x.write(0, 0);
        }
        x.write(2, 0);
        doc.due("the last is otherwise", x.judge(), 14);
        x.post(2, 0);
        doc.due("so now", x.judge(), NONE);
        x.post(0, 1);
        doc.due("the first is otherwise", x.judge(), 0);
        x.undo();
        doc.due("undone", x.judge(), NONE);
        x.undo();
        doc.due("the last again", x.judge(), 14);
        x.tear();
        x.write(1, 1);
        x.write(1, 2);
        x.write(1, 1);
        doc.due("two of one doll", x.judge(), 1);
        x.post(1, 2);
        doc.due("the other of them", x.judge(), 0);
        doc.due("judging changes nothing", x.judge(), 0);
        doc.due("no congress", new DollCongress().judge(), NONE);
    }

    private static void bookTorn() {
        doc.says("THE BOOK is empty: how many entries it had.");
        DollCongress x = Check.made(THREE);
        doc.due("none", x.tear(), 0);
        x.write(0, 3);
        doc.due("one", x.tear(), 1);
        doc.due("none again", x.tear(), 0);
        doc.due("none is wrong", x.judge(), NONE);
        for (int i = 0; i < 15; i++) {
            x.write(0, 3);
        }
        doc.due("fifteen", x.tear(), 15);
        doc.due("entries", x.told(15), 0);
        doc.due("no congress", new DollCongress().tear(), 0);
    }

    // ---- promises 14, 31

    private static void seedBounds() {
        doc.says("THE SEED becomes v (0 .. 2147483647): what it was. OUTSIDE.");
        DollCongress x = new DollCongress();
        doc.due("at first", x.seed(1), 0);
        doc.due("one", x.seed(GREATEST), 1);
        doc.due("the greatest", x.seed(0), GREATEST);
        doc.due("seed(-1)", x.seed(-1), OUTSIDE);
        doc.due("seed(least)", x.seed(Integer.MIN_VALUE), OUTSIDE);
        doc.due("none", x.seed(GREATEST - 1), 0);
        doc.due("one below the greatest", x.seed(0), GREATEST - 1);
    }

    /** The seed behind one draw, by numbers that never wrap. */
    private static int drawn(int seed) {
        return BigInteger.valueOf(seed).multiply(BigInteger.valueOf(1103515245)).add(BigInteger.valueOf(12345))
            .mod(BigInteger.ONE.shiftLeft(31)).intValueExact();
    }

    private static int draw(int seed, int n) {
        return seed / 65536 % n;
    }

    private static void drawsLeftOver() {
        doc.says("it becomes it times 1103515245 and 12345, left over by 2 to the 31");
        doc.due("the greatest, by hand: 2 to the 31 less 1103502900", drawn(GREATEST), 1043980748);
        doc.due("0", drawn(0), 12345);
        int[] seeds = {0, 1, 2, 3, GREATEST, GREATEST - 1, 1 << 30, (1 << 30) - 1, 65535, 65536, 12345, 1043980748};
        for (int seed : seeds) {
            // One doll at one of two courts: two draws, and a third on 0 and 1.
            DollCongress x = Check.made("c1,1;d0 0 0;");
            x.seed(seed);
            doc.due("drift(1) from " + seed, x.drift(1), 1);
            int first = drawn(seed), second = drawn(first), third = drawn(second);
            doc.due("seed from " + seed, x.seed(0), draw(first, 5) < 2 ? third : second);
        }
    }

    /** A draw of 7 courts, 8 dolls: what is left over is never the number itself, and each of the others comes. */
    private static void drawIsLeftOver() {
        doc.says("the DRAW of n is it / 65536, left over by n");
        int[] seenCourts = new int[7], seenDolls = new int[8];
        for (int seed = 0; seed < 600; seed++) {
            int first = drawn(seed), second = drawn(first), third = drawn(second);
            if (draw(first, 5) == 0) {
                DollCongress x = Check.made("c1,1,1,1,1,1,1;" + "d0 3 0;".repeat(8));
                x.seed(seed);
                x.drift(1);
                int d = draw(second, 8), c = draw(third, 7);
                doc.due("doll " + d + " from " + seed, x.told(7), c == 3 ? 0 : 1 << d);
                doc.due("court from " + seed, x.doll(d, 2), c);
                seenDolls[d] = 1;
                seenCourts[c] = 1;
            }
        }
        doc.due("dolls that were drawn", Arrays.stream(seenDolls).sum(), 8);
        doc.due("courts that were drawn", Arrays.stream(seenCourts).sum(), 7);
    }

    private static void drawsOfDolls() {
        doc.says("ahead of each, if there are DOLLS, a DRAW of 5, of DOLLS");
        DollCongress x = Check.made("c1,1;");
        x.seed(9);
        doc.due("no dolls", x.drift(60), 60);
        doc.due("no draws", x.seed(0), 9);
        doc.due("no audiences", x.told(10), 0);
        int[] seen = new int[8];
        for (int seed = 0; seed < 400; seed++) {
            int first = drawn(seed), second = drawn(first);
            if (draw(first, 5) == 3) {
                x = Check.made("c1,1;" + "d0 0 0;".repeat(8));
                x.seed(seed);
                x.drift(1);
                doc.due("laid back from " + seed, x.told(6), 255 ^ 1 << draw(second, 8));
                seen[draw(second, 8)]++;
            }
        }
        for (int d = 0; d < 8; d++) {
            doc.due("doll " + d + " was drawn", Math.min(seen[d], 1), 1);
        }
    }

    private static void postedByDraws() {
        doc.says("on 0 it is POSTED to a DRAW of COURTS, if it is not there");
        int there = 0, elsewhere = 0;
        for (int seed = 0; seed < 400; seed++) {
            int first = drawn(seed), second = drawn(first), third = drawn(second);
            if (draw(first, 5) != 0) {
                continue;
            }
            DollCongress x = Check.made("c1,1,1,1,1,1,1;d0 6 0;d0 6 0;");
            x.seed(seed);
            x.drift(1);
            int d = draw(second, 2), c = draw(third, 7);
            doc.due("court from " + seed, x.doll(d, 2), c);
            doc.due("the other from " + seed, x.doll(1 - d, 2), 6);
            doc.due("up from " + seed, x.told(6), c == 6 ? 3 : 3 ^ 1 << d);
            doc.due("seed from " + seed, x.seed(0), third);
            there += c == 6 ? 1 : 0;
            elsewhere += c == 6 ? 0 : 1;
        }
        doc.due("both were drawn", Math.min(there, 1) + Math.min(elsewhere, 1), 2);
    }

    private static void mixedByDraws() {
        doc.says("on 1 it is MIXED with a DRAW of DOLLS, if that is another one");
        int itself = 0, another = 0;
        for (int seed = 0; seed < 400; seed++) {
            int first = drawn(seed), second = drawn(first), third = drawn(second);
            if (draw(first, 5) != 1) {
                continue;
            }
            DollCongress x = Check.made("c1,1,1;d0 0 0;d0 1 0;d0 2 0;");
            x.seed(seed);
            x.drift(1);
            int d = draw(second, 3), e = draw(third, 3);
            doc.due("court from " + seed, x.doll(d, 2), e);
            doc.due("court of the other from " + seed, x.doll(e, 2), d);
            doc.due("up from " + seed, x.told(6), d == e ? 7 : 7 ^ 1 << d ^ 1 << e);
            doc.due("seed from " + seed, x.seed(0), third);
            itself += d == e ? 1 : 0;
            another += d == e ? 0 : 1;
        }
        doc.due("both were drawn", Math.min(itself, 1) + Math.min(another, 1), 2);
        alone();
    }

    private static void alone() {
        int seed = seedFor(1);
        DollCongress x = Check.made("c1,1;d0 1 0;");
        x.seed(seed);
        x.drift(1);
        doc.due("a doll alone is up", x.told(6), 1);
        doc.due("three draws all the same", x.seed(0), drawn(drawn(drawn(seed))));
    }

    /** The least seed whose first draw of 5 is this. */
    private static int seedFor(int deed) {
        int seed = 0;
        while (draw(drawn(seed), 5) != deed) {
            seed++;
        }
        return seed;
    }

    private static void laidByDraws() {
        doc.says("on 2 it is up; on 3 LAID BACK");
        for (int deed = 2; deed <= 3; deed++) {
            int seed = seedFor(deed);
            for (int up = 0; up <= 1; up++) {
                DollCongress x = Check.made("c1,1;d0 1 0;");
                x.year(5);
                x.lay(0, up == 0);
                x.seed(seed);
                doc.due("drift(1)", x.drift(1), 6);
                doc.due("up", x.told(6), deed == 2 ? 1 : 0);
                doc.due("ahead of the year", x.doll(0, 4), deed == 2 ? 6 : 4);
                doc.due("two draws", x.seed(0), drawn(drawn(seed)));
            }
        }
    }

    private static void audienceByDraws() {
        doc.says("on 4 there is an AUDIENCE");
        int seed = seedFor(4);
        for (int quota = 1; quota <= 2; quota++) {
            DollCongress x = Check.made("c1,1;d0 1 0;q" + quota + ";");
            x.seed(seed);
            doc.due("drift(1)", x.drift(1), 1);
            doc.due("audiences", x.told(10), 1);
            doc.due("held", x.told(11), quota == 1 ? 1 : 0);
            doc.due("up", x.told(6), 1);
            doc.due("two draws", x.seed(0), drawn(drawn(seed)));
        }
    }

    private static void drawsAheadOfEachYear() {
        doc.says("n YEARS: ahead of each, if there are DOLLS");
        DollCongress once = Check.made(THREE);
        DollCongress often = Check.made(THREE);
        once.seed(99);
        often.seed(99);
        doc.due("sixty at once", once.drift(60), 60);
        for (int years = 1; years <= 60; years++) {
            doc.due("one by one", often.drift(1), years);
        }
        for (int what = 0; what <= 15; what++) {
            doc.due("told(" + what + ")", often.told(what), once.told(what));
        }
        for (int d = 0; d < 3; d++) {
            for (int what = 0; what <= 6; what++) {
                doc.due("doll(" + d + ", " + what + ")", often.doll(d, what), once.doll(d, what));
            }
        }
        doc.due("undone at once", once.undo(), 0);
        doc.due("years", once.told(5), 0);
        int seed = once.seed(0);
        doc.due("seed", often.seed(0), seed);
    }

    // ---- promise 15

    private static void sixteenUndone() {
        doc.says("16 at most are kept, the oldest are lost");
        for (int deeds = 0; deeds <= 40; deeds++) {
            DollCongress x = Check.made(THREE);
            for (int i = 1; i <= deeds; i++) {
                x.mask(0, i);
                doc.due("can be undone behind " + i, x.told(16), Math.min(i, 16));
            }
            int kept = Math.min(deeds, 16);
            for (int left = kept - 1; left >= 0; left--) {
                doc.due("undo() of " + deeds, x.undo(), left);
                doc.due("can be undone", x.told(16), left);
                int signs = deeds - kept + left;
                doc.due("signs with " + left + " left of " + deeds, x.doll(0, 3), signs == 0 ? 5 : signs);
            }
            doc.due("one more of " + deeds, x.undo(), NOT);
            int oldest = deeds - kept;
            doc.due("as it was behind the oldest lost", x.doll(0, 3), oldest == 0 ? 5 : oldest);
        }
    }

    private static void oldestLost() {
        doc.says("The latest is undone: how many more can be. NOT: none.");
        DollCongress x = Check.made(THREE);
        doc.due("none", x.undo(), NOT);
        // Undone and done by turns, so that what is kept goes round more than once.
        for (int i = 0; i < 30; i++) {
            x.mask(0, 2 * i % 64);
            x.mask(0, 63);
            doc.due("undo()", x.undo(), Math.min(i + 1, 15));
            doc.due("signs", x.doll(0, 3), 2 * i % 64);
        }
        for (int i = 29; i > 14; i--) {
            doc.due("undo()", x.undo(), i - 15);
            doc.due("signs", x.doll(0, 3), 2 * (i - 1) % 64);
        }
        doc.due("none is left", x.undo(), NOT);
        doc.due("no congress", new DollCongress().undo(), NOT);
    }

    private static void eachDeedUndone() {
        doc.says("the latest of post(), mix(), lay(), mask(), audience(), year(), drift() that was not refused");
        for (int deed = 0; deed < 7; deed++) {
            DollCongress x = lived();
            int had = x.told(16);
            int[] before = seen(x);
            switch (deed) {
                case 0 -> x.post(2, 0);
                case 1 -> x.mix(0, 2);
                case 2 -> x.lay(0, true);
                case 3 -> x.mask(0, 63);
                case 4 -> x.audience();
                case 5 -> x.year(60);
                default -> x.drift(60);
            }
            doc.due("deed " + deed + " can be undone", x.told(16), had + 1);
            doc.due("deed " + deed + " changed something", Arrays.equals(before, seen(x)) ? 1 : 0, 0);
            doc.due("undo() of deed " + deed, x.undo(), had);
            int[] after = seen(x);
            for (int i = 0; i < before.length; i++) {
                doc.due("part " + i + " behind deed " + deed, after[i], before[i]);
            }
        }
        // What changes nothing that can be seen was done all the same.
        DollCongress x = Check.made(THREE);
        x.lay(0, false);
        x.mask(0, 5);
        doc.due("two can be undone", x.told(16), 2);
        doc.due("undo()", x.undo(), 1);
        doc.due("undo()", x.undo(), 0);
    }

    /** All of section 2. */
    private static int[] seen(DollCongress x) {
        int[] parts = new int[5 + 3 * 5];
        int[] of = {5, 6, 7, 10, 11};
        int[] ofDoll = {2, 3, 4, 5, 6};
        for (int i = 0; i < 5; i++) {
            parts[i] = x.told(of[i]);
            for (int d = 0; d < 3; d++) {
                parts[5 + 5 * d + i] = x.doll(d, ofDoll[i]);
            }
        }
        return parts;
    }

    private static void refusedIsNotUndone() {
        doc.says("that was not refused");
        DollCongress x = Check.made(THREE);
        x.mask(0, 1);
        x.post(0, 0);
        x.post(3, 0);
        x.mix(0, 0);
        x.lay(3, true);
        x.mask(0, 64);
        x.year(0);
        x.drift(61);
        x.write(0, 0);
        x.tear();
        x.seed(3);
        x.warm(0, 50);
        doc.due("one can be undone", x.told(16), 1);
        doc.due("undo()", x.undo(), 0);
        doc.due("signs", x.doll(0, 3), 5);
        doc.due("a refused undo() changes nothing", x.undo(), NOT);
        doc.due("one can be undone again", x.mask(0, 2), 5);
        doc.due("undo()", x.undo(), 0);
    }

    private static void seedStays() {
        doc.says("all of section 2 is as ahead of it; THE SEED stays.");
        DollCongress x = Check.made(THREE);
        x.seed(5);
        x.write(0, 3);
        x.drift(1);
        int seed = x.seed(0);
        x.seed(seed);
        x.write(0, 2);
        doc.due("undo()", x.undo(), 0);
        doc.due("years", x.told(5), 0);
        doc.due("seed", x.seed(seed), seed);
        doc.due("the book is of section 3: it stays", x.told(15), 2);
        doc.due("the draws differ then", seed == 5 ? 1 : 0, 0);
        x.mask(0, 1);
        x.seed(8);
        x.undo();
        doc.due("a seed put between", x.seed(0), 8);
    }

    // ---- promises 32, 33

    private static void imagesTwo() {
        doc.says("IMAGE i becomes what is so (nothing can be undone then): 1. UNKNOWN.");
        DollCongress x = Check.made(THREE);
        doc.due("keep(-1)", x.keep(-1), UNKNOWN);
        doc.due("keep(2)", x.keep(2), UNKNOWN);
        doc.due("keep(least)", x.keep(Integer.MIN_VALUE), UNKNOWN);
        doc.due("keep(greatest)", x.keep(GREATEST), UNKNOWN);
        doc.due("keep(0)", x.keep(0), 1);
        x.mask(0, 1);
        doc.due("keep(1)", x.keep(1), 1);
        x.mask(0, 2);
        doc.due("goBack(0)", x.goBack(0), 1);
        doc.due("signs of 0", x.doll(0, 3), 5);
        doc.due("goBack(1)", x.goBack(1), 1);
        doc.due("signs of 1", x.doll(0, 3), 1);
        x.mask(0, 3);
        doc.due("keep(0) again", x.keep(0), 1);
        doc.due("goBack(1)", x.goBack(1), 1);
        doc.due("signs of 1", x.doll(0, 3), 1);
        doc.due("goBack(0)", x.goBack(0), 1);
        doc.due("signs of 0 as kept last", x.doll(0, 3), 3);
    }

    private static void imageNotKept() {
        doc.says("What is so becomes IMAGE i (nothing can be undone then): 1. UNKNOWN, NOT: it was not kept.");
        DollCongress x = Check.made(THREE);
        doc.due("goBack(-1)", x.goBack(-1), UNKNOWN);
        doc.due("goBack(0)", x.goBack(0), NOT);
        doc.due("goBack(1)", x.goBack(1), NOT);
        doc.due("goBack(2)", x.goBack(2), UNKNOWN);
        doc.due("goBack(least)", x.goBack(Integer.MIN_VALUE), UNKNOWN);
        x.keep(1);
        doc.due("the other was not kept", x.goBack(0), NOT);
        doc.due("this one was", x.goBack(1), 1);
        doc.due("and is still", x.goBack(1), 1);
        x.mask(0, 9);
        x.goBack(1);
        doc.due("what is done later is not in it", x.doll(0, 3), 5);
        x.mask(0, 9);
        x.goBack(1);
        doc.due("nor behind going back once", x.doll(0, 3), 5);
        Check.tell(x, THREE);
        doc.due("gone with the congress", x.goBack(1), NOT);
        x = new DollCongress();
        doc.due("no congress", x.goBack(0), NOT);
        doc.due("no congress, kept", x.keep(0), 1);
        doc.due("no congress, gone back", x.goBack(0), 1);
        doc.due("courts", x.told(0), 0);
    }

    private static void imageKeepsAll() {
        doc.says("IMAGES 0, 1 keep all of section 2, THE SEED.");
        DollCongress x = lived();
        x.seed(GREATEST);
        int[] kept = seen(x);
        x.keep(0);
        x.seed(4);
        x.drift(60);
        x.mask(0, 40);
        x.mask(1, 41);
        x.write(0, 0);
        x.audience();
        doc.due("goBack(0)", x.goBack(0), 1);
        int[] now = seen(x);
        for (int i = 0; i < kept.length; i++) {
            doc.due("part " + i, now[i], kept[i]);
        }
        doc.due("seed", x.seed(0), GREATEST);
        doc.due("the book is no part of it", x.told(15), 3);
    }

    private static void imageForgetsPast() {
        doc.says("nothing can be undone then");
        DollCongress x = Check.made(THREE);
        for (int i = 0; i < 20; i++) {
            x.mask(0, i);
        }
        x.keep(2);
        x.goBack(2);
        x.goBack(1);
        doc.due("refused: all can be undone", x.told(16), 16);
        x.keep(0);
        doc.due("kept: none", x.told(16), 0);
        doc.due("undo()", x.undo(), NOT);
        doc.due("signs", x.doll(0, 3), 19);
        x.mask(0, 40);
        doc.due("one again", x.told(16), 1);
        x.goBack(0);
        doc.due("gone back: none", x.told(16), 0);
        doc.due("undo()", x.undo(), NOT);
        doc.due("signs", x.doll(0, 3), 19);
        x.mask(0, 41);
        doc.due("undo()", x.undo(), 0);
        doc.due("signs", x.doll(0, 3), 19);
    }
}

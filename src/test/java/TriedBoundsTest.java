/** Part 3 of the document up to POST, and promises 16 to 27, sentence by sentence: each bound, and one beyond it. */
public final class TriedBoundsTest {
    private static final int NONE = DollCongress.NONE, UNKNOWN = DollCongress.UNKNOWN, OUTSIDE = DollCongress.OUTSIDE,
            NOT = DollCongress.NOT;
    private static final int LEAST = Integer.MIN_VALUE, GREATEST = Integer.MAX_VALUE;
    private static final Doc doc = new Doc("TriedBoundsTest");

    // A doll of each kind, by its number: 0 wax, 1 wood, 2 real, 3 clock.
    private static final String KINDS = "c1,1,1,1;d0 0 1;d1 1 2;d2 2 4;d3 3 8;";
    // A doll at each of seven courts, and an eighth at the last of them.
    private static final String EIGHT = "c1,1,1,1,1,1,1;d0 0 0;d0 1 0;d0 2 0;d0 3 0;d0 4 0;d0 5 0;d0 6 0;d0 6 0;";

    public static void main(String[] args) {
        warm();
        warmest();
        warmestOfLikeOnes();
        first();
        firstNone();
        swapsNoneNeeded();
        swapsFewest();
        swapsByNone();
        swapsBounds();
        real();
        close();
        tell();
        look();
        lookNext();
        power();
        agreed();
        agreedBits();
        blocks();
        least();
        agenda();
        agendaOfLikeVotes();
        agendaRound();
        agendaFor();
        wanted();
        wantedOfLikeOnes();
        know();
        knowRound();
        knowAll();
        parcels();
        parcelsCut();
        doc.end();
    }

    // ---- years tried

    private static void warm() {
        doc.says("WARM behind n YEARS (0 .. 100).");
        DollCongress x = Check.made(KINDS);
        doc.due("warm(0, -1)", x.warm(0, -1), OUTSIDE);
        for (int n = 0; n <= 100; n++) {
            doc.due("wax behind " + n, x.warm(0, n), Math.min(n, 99));
            doc.due("wood behind " + n, x.warm(1, n), 0);
            doc.due("real behind " + n, x.warm(2, n), Math.min(3 * n, 99));
            doc.due("clock behind " + n, x.warm(3, n), Math.min((n + 1) / 2 * 2, 99));
        }
        doc.due("warm(0, 101)", x.warm(0, 101), OUTSIDE);
        doc.due("warm(0, least)", x.warm(0, LEAST), OUTSIDE);
        doc.due("warm(0, greatest)", x.warm(0, GREATEST), OUTSIDE);
        doc.due("warm(-1, 0)", x.warm(-1, 0), UNKNOWN);
        doc.due("warm(4, 0)", x.warm(4, 0), UNKNOWN);
        doc.due("warm(4, 101)", x.warm(4, 101), UNKNOWN);
        doc.due("years", x.told(5), 0);
    }

    private static void warmest() {
        doc.says("WARMEST behind n YEARS (0 .. 100); NONE. OUTSIDE.");
        DollCongress x = Check.made(KINDS);
        doc.due("warmest(-1)", x.warmest(-1), OUTSIDE);
        doc.due("warmest(0)", x.warmest(0), 0);
        doc.due("warmest(1)", x.warmest(1), 2);
        doc.due("warmest(98)", x.warmest(98), 2);
        // Behind 99 years wax, real and clock are all warm by 99.
        doc.due("warmest(99)", x.warmest(99), 0);
        doc.due("warmest(100)", x.warmest(100), 0);
        doc.due("warmest(101)", x.warmest(101), OUTSIDE);
        doc.due("warmest(least)", x.warmest(LEAST), OUTSIDE);
        doc.due("warmest(greatest)", x.warmest(GREATEST), OUTSIDE);
        doc.says("NONE: there are none.");
        doc.due("no dolls", Check.made("c1,1;").warmest(0), NONE);
        doc.due("no dolls, 100", Check.made("c1,1;").warmest(100), NONE);
        doc.due("no dolls, 101", Check.made("c1,1;").warmest(101), OUTSIDE);
        doc.due("no congress", new DollCongress().warmest(0), NONE);
        doc.due("no congress, -1", new DollCongress().warmest(-1), OUTSIDE);
        doc.due("one doll, not warm", Check.made("c1,1;d1 0 0;").warmest(100), 0);
    }

    private static void warmestOfLikeOnes() {
        doc.says("WARMEST behind n YEARS: the DOLL; of like ones the least");
        DollCongress x = Check.made("c1,1;d1 0 0;d0 0 0;d0 0 0;d0 0 0;");
        doc.due("all like", x.warmest(0), 0);
        doc.due("three like", x.warmest(5), 1);
        x.lay(1, true);
        doc.due("two like", x.warmest(5), 2);
        x.year(1);
        doc.due("now", x.warmest(0), 2);
        x.lay(1, false);
        x.lay(2, true);
        doc.due("like behind none alone", x.warmest(0), 2);
        doc.due("the last is warmer behind one", x.warmest(1), 3);
        x.lay(3, true);
        doc.due("1 and 2 and 3 behind one: 1, 0, 0", x.warmest(1), 1);
    }

    private static void first() {
        doc.says("FIRST behind which YEARS (0 .. 200) a DOLL is WARM by v or more (0 .. 99)");
        DollCongress x = Check.made(KINDS);
        for (int v = 0; v <= 99; v++) {
            doc.due("wax by " + v, x.first(0, v), v);
            doc.due("real by " + v, x.first(2, v), (v + 2) / 3);
            // Two behind one year, two behind two, four behind three.
            doc.due("clock by " + v, x.first(3, v), v == 0 ? 0 : (v + 1) / 2 * 2 - 1);
        }
        doc.due("first(0, -1)", x.first(0, -1), OUTSIDE);
        doc.due("first(0, 100)", x.first(0, 100), OUTSIDE);
        doc.due("first(0, least)", x.first(0, LEAST), OUTSIDE);
        doc.due("first(-1, 0)", x.first(-1, 0), UNKNOWN);
        doc.due("first(4, 0)", x.first(4, 0), UNKNOWN);
        doc.due("first(4, 100)", x.first(4, 100), UNKNOWN);
        // From an odd year on the clock takes longest: 99 is come to in year 99, the hundredth from year 1 on.
        x.lay(3, true);
        x.year(1);
        x.lay(3, false);
        doc.due("clock by 1 from year 1", x.first(3, 1), 2);
        doc.due("clock by 98 from year 1", x.first(3, 98), 98);
        doc.due("clock by 99 from year 1", x.first(3, 99), 100);
    }

    private static void firstNone() {
        doc.says("`int first(int d, int v)`: FIRST; NONE. UNKNOWN, OUTSIDE.");
        DollCongress x = Check.made(KINDS);
        doc.due("wood by 0", x.first(1, 0), 0);
        for (int v = 1; v <= 99; v++) {
            doc.due("wood by " + v, x.first(1, v), NONE);
        }
        x.year(10);
        x.lay(2, true);
        doc.due("laid back at 30 by 29", x.first(2, 29), 0);
        doc.due("laid back at 30 by 30", x.first(2, 30), 0);
        doc.due("laid back at 30 by 31", x.first(2, 31), NONE);
        doc.due("laid back at 30 by 0", x.first(2, 0), 0);
        x.lay(2, false);
        doc.due("up at 30 by 30", x.first(2, 30), 0);
        doc.due("up at 30 by 31", x.first(2, 31), 1);
        doc.due("up at 30 by 33", x.first(2, 33), 1);
        doc.due("up at 30 by 34", x.first(2, 34), 2);
    }

    // ---- mixings

    private static void swapsNoneNeeded() {
        doc.says("the first of such a row (10 times the lesser DOLL and the other; the least number; NONE: none is needed)");
        DollCongress x = Check.made(EIGHT);
        doc.due("how many", x.swaps(0), 0);
        doc.due("the first", x.swaps(1), NONE);
        doc.due("no dolls", Check.made("c1,1;").swaps(0), 0);
        doc.due("no dolls, the first", Check.made("c1,1;").swaps(1), NONE);
        doc.due("no congress", new DollCongress().swaps(0), 0);
        doc.due("no congress, the first", new DollCongress().swaps(1), NONE);
        x.mix(6, 7);
        doc.due("mixed at one court", x.swaps(0), 0);
        x.mix(0, 1);
        doc.due("the least pair", x.swaps(1), 1);
        x.mix(0, 1);
        x.mix(7, 5);
        doc.due("a pair by its lesser doll", x.swaps(1), 57);
        x.mix(5, 7);
        doc.due("none again", x.swaps(1), NONE);
        x = Check.made("c1,1;d0 0 0;d0 0 0;d0 0 0;d0 0 0;d0 0 0;d0 0 0;d0 0 0;d0 1 0;");
        x.mix(7, 6);
        doc.due("the greatest pair", x.swaps(1), 67);
    }

    private static void swapsFewest() {
        doc.says("SWAPS: the fewest MIXINGS, one behind the other, by which all DOLLS are RIGHT: how many");
        DollCongress x = Check.made(EIGHT);
        for (int d = 0; d < 6; d++) {
            x.mix(d, d + 1);
            doc.due("a ring of " + (d + 2), x.swaps(0), d + 1);
            doc.due("the first", x.swaps(1), 1);
        }
        // Dolls 0 and 1 belong to court 0, 2 and 3 to court 1: two rings of two, by either pairs.
        x = Check.made("c1,1,1;d0 0 0;d0 0 0;d0 1 0;d0 1 0;d0 2 0;");
        x.mix(0, 2);
        x.mix(1, 3);
        doc.due("two rings", x.swaps(0), 2);
        doc.due("the least first: 0 with 2", x.swaps(1), 2);
        x.mix(0, 3);
        doc.due("one ring behind another first", x.swaps(0), 1);
        doc.due("the other ring", x.swaps(1), 12);
        // A ring of three, and the second doll of court 0 that is right has no part in it.
        x = Check.made("c1,1,1;d0 0 0;d0 0 0;d0 1 0;d0 2 0;");
        x.mix(1, 2);
        x.mix(2, 3);
        doc.due("a ring of three", x.swaps(0), 2);
        doc.due("not the right one", x.swaps(1), 12);
    }

    private static void swapsByNone() {
        doc.says("NONE: by none (some COURT has not as many AT it as belong to it)");
        DollCongress x = Check.made("c1,1,1;d0 0 0;d0 1 0;d0 2 0;");
        x.post(0, 1);
        doc.due("one away", x.swaps(0), NONE);
        doc.due("one away, the first", x.swaps(1), NONE);
        x.post(1, 2);
        doc.due("two away", x.swaps(0), NONE);
        x.post(2, 0);
        doc.due("each court has as many", x.swaps(0), 2);
        doc.due("each court has as many, the first", x.swaps(1), 1);
        x = Check.made("c1,1;" + "d0 1 0;".repeat(8));
        for (int d = 0; d < 8; d++) {
            x.post(d, 0);
            doc.due("more and more away", x.swaps(0), NONE);
        }
        x = Check.made("c1,1,1;d0 0 0;d0 0 0;d0 1 0;d0 1 0;");
        x.mix(0, 2);
        x.post(1, 2);
        doc.due("a ring, and one away", x.swaps(0), NONE);
        doc.due("a ring, and one away, the first", x.swaps(1), NONE);
    }

    private static void swapsBounds() {
        doc.says("SWAPS: what = 0 how many, 1 the first; NONE. OUTSIDE.");
        for (DollCongress x : new DollCongress[] {new DollCongress(), Check.made(EIGHT)}) {
            doc.due("swaps(-1)", x.swaps(-1), OUTSIDE);
            doc.due("swaps(0)", x.swaps(0), 0);
            doc.due("swaps(1)", x.swaps(1), NONE);
            doc.due("swaps(2)", x.swaps(2), OUTSIDE);
            doc.due("swaps(least)", x.swaps(LEAST), OUTSIDE);
        }
    }

    // ---- signs

    private static void real() {
        doc.says("REAL: DOLLS whose SIGNS are just PATTERN (a SET)");
        DollCongress x = Check.made("c1,1;d0 0 7;d0 0 6;d0 0 15;d0 0 7;s7;");
        doc.due("one less, one more, just so", x.told(8), 9);
        doc.due("none has none", x.look(0, 0), 15);
        doc.due("untold: who has none", Check.made("c1,1;d2 0 1;d0 0 0;").told(8), 2);
        doc.due("all signs", Check.made("c1,1;d2 0 63;d0 0 62;s63;").told(8), 1);
        doc.due("no dolls", Check.made("c1,1;s0;").told(8), 0);
        x.mask(1, 7);
        doc.due("by the signs as they are now", x.told(8), 11);
        doc.due("eight", Check.made("c1,1;" + "d0 0 9;".repeat(8) + "s9;").told(8), 255);
    }

    private static void close() {
        doc.says("CLOSE to it by at most n SIGNS unlike (0 .. 6: a SET)");
        // Doll k is unlike the pattern in k signs, some that it has not and some that it has too many.
        DollCongress x = Check.made("c1,1;s42;d0 0 42;d0 0 43;d0 0 41;d0 0 45;d0 0 37;d0 0 53;d0 0 21;");
        doc.due("close(-1)", x.close(-1), OUTSIDE);
        for (int n = 0; n <= 6; n++) {
            doc.due("close(" + n + ")", x.close(n), (2 << n) - 1);
        }
        doc.due("close(7)", x.close(7), OUTSIDE);
        doc.due("close(least)", x.close(LEAST), OUTSIDE);
        doc.due("close(greatest)", x.close(GREATEST), OUTSIDE);
        doc.due("no congress", new DollCongress().close(6), 0);
        doc.due("no congress, 7", new DollCongress().close(7), OUTSIDE);
        x.mask(0, 21);
        doc.due("masked", x.close(5), 62);
    }

    private static void tell() {
        doc.says("TELL: the fewest SIGNS (a SET; of like ones the least) by which alone no two DOLLS with unlike SIGNS are alike.");
        doc.due("no congress", new DollCongress().told(12), 0);
        doc.due("no dolls", Check.made("c1,1;").told(12), 0);
        doc.due("one doll", Check.made("c1,1;d0 0 63;").told(12), 0);
        doc.due("all alike", Check.made("c1,1;" + "d0 0 63;".repeat(8)).told(12), 0);
        doc.due("two by the least sign", Check.made("c1,1;d0 0 63;d0 0 0;").told(12), 1);
        doc.due("two by the greatest", Check.made("c1,1;d0 0 63;d0 0 31;").told(12), 32);
        doc.due("all six", Check.made("c1,1;d0 0 0;d0 0 1;d0 0 2;d0 0 4;d0 0 8;d0 0 16;d0 0 32;d0 0 32;").told(12), 63);
        doc.due("all but the last", Check.made("c1,1;d0 0 0;d0 0 1;d0 0 2;d0 0 4;d0 0 8;d0 0 16;").told(12), 31);
        doc.due("all but the first", Check.made("c1,1;d0 0 0;d0 0 2;d0 0 4;d0 0 8;d0 0 16;d0 0 32;").told(12), 62);
        // 0, 3 and 12 need two signs: 1 or 2 with 4 or 8.
        doc.due("of like ones the least", Check.made("c1,1;d0 0 0;d0 0 3;d0 0 12;").told(12), 5);
        // Signs 0 and 1 tell, and so do 4 and 5.
        doc.due("the least two", Check.made("c1,1;d0 0 48;d0 0 17;d0 0 34;d0 0 3;").told(12), 3);
        // Signs 0, 1 and 2 tell too and are a lesser set, but three; no two tell but 4 and 5.
        doc.due("fewer ahead of less", Check.made("c1,1;d0 0 0;d0 0 17;d0 0 34;d0 0 52;").told(12), 48);
        doc.due("eight by three", Check.made("c1,1;d0 0 0;d0 0 8;d0 0 16;d0 0 24;d0 0 32;d0 0 40;d0 0 48;d0 0 56;").told(12), 56);
        DollCongress x = Check.made("c1,1;d0 0 1;d0 0 2;");
        x.mask(0, 34);
        doc.due("by the signs as they are now", x.told(12), 32);
    }

    private static void look() {
        doc.says("OUTSIDE (a SET of SIGNS is 0 .. 63)");
        DollCongress x = Check.made("c1,1;d0 0 0;d0 0 63;d0 0 9;d0 0 41;s9;");
        doc.due("look(-1, 0)", x.look(-1, 0), OUTSIDE);
        doc.due("look(0, 0)", x.look(0, 0), 15);
        doc.due("look(63, 0)", x.look(63, 0), 4);
        doc.due("look(64, 0)", x.look(64, 0), OUTSIDE);
        doc.due("look(0, -1)", x.look(0, -1), OUTSIDE);
        doc.due("look(0, 2)", x.look(0, 2), OUTSIDE);
        doc.due("look(63, 1)", x.look(63, 1), NONE);
        doc.due("look(64, 1)", x.look(64, 1), OUTSIDE);
        doc.due("look(-1, 2)", x.look(-1, 2), OUTSIDE);
        doc.due("look(least, 0)", x.look(LEAST, 0), OUTSIDE);
        doc.says("has each that is in PATTERN, none that is not");
        doc.due("one in the pattern", x.look(1, 0), 14);
        doc.due("one not in it", x.look(2, 0), 13);
        doc.due("both", x.look(3, 0), 12);
        doc.due("the last", x.look(32, 0), 5);
        doc.due("the last and one in it", x.look(33, 0), 4);
        doc.due("no congress", new DollCongress().look(63, 0), 0);
        doc.due("no congress, next", new DollCongress().look(0, 1), NONE);
    }

    private static void lookNext() {
        doc.says("the greatest part that is alike is least; of like ones the least; NONE: none parts them.");
        doc.due("no dolls", Check.made("c1,1;").look(0, 1), NONE);
        doc.due("one doll", Check.made("c1,1;d0 0 9;").look(0, 1), NONE);
        doc.due("two alike", Check.made("c1,1;d0 0 9;d0 0 9;").look(0, 1), NONE);
        doc.due("two unlike in the last", Check.made("c1,1;d0 0 9;d0 0 41;").look(0, 1), 5);
        doc.due("two unlike in all", Check.made("c1,1;d0 0 0;d0 0 63;").look(0, 1), 0);
        // Sign 0 parts them 1 to 3, sign 1 2 to 2, sign 2 2 to 2, sign 3 3 to 1.
        DollCongress x = Check.made("c1,1;d0 0 9;d0 0 10;d0 0 14;d0 0 4;");
        doc.due("the evenest, the least of two", x.look(0, 1), 1);
        doc.due("of those with sign 0 unlike", x.look(1, 0), 14);
        doc.due("three: 2 to 1 by signs 1, 2 and 3", x.look(1, 1), 1);
        doc.due("two: sign 2 alone", Check.made("c1,1;d0 0 10;d0 0 14;d0 0 4;s2;").look(2, 1), 2);
        doc.due("the one looked at parts no more", x.look(63, 1), NONE);
        doc.due("parts by those that have it not, too", Check.made("c1,1;d0 0 1;d0 0 1;d0 0 0;").look(0, 1), 0);
        doc.due("one of eight", Check.made("c1,1;" + "d0 0 0;".repeat(7) + "d0 0 32;").look(0, 1), 5);
    }

    // ---- votes

    private static void power() {
        doc.says("POWER of a COURT: of all orders of all COURTS in how many it is by its VOTES that QUOTA is come to first.");
        powers("c1,1;q1;", 1, 1);
        powers("c1,1;q2;", 1, 1);
        powers("c1,1;q3;", 0, 0);
        powers("c1,2;", 0, 2);
        powers("c9,1,1,1,1,1,1;", 5040, 0, 0, 0, 0, 0, 0);
        powers("c9,9,9,9,9,9,9;q63;", 720, 720, 720, 720, 720, 720, 720);
        powers("c9,9,9,9,9,9,8;q63;", 0, 0, 0, 0, 0, 0, 0);
        powers("c1,1,1,1,1,1,9;q1;", 720, 720, 720, 720, 720, 720, 720);
        // By 10 of 15 the 9 needs one ahead of it, and any other is the one that decides only right behind the 9.
        powers("c9,1,1,1,1,1,1;q10;", 4320, 120, 120, 120, 120, 120, 120);
        // By 3 of 4: 2 decides if it is not first; a 1 decides right behind 2, or last behind the other 1 and 2.
        powers("c2,1,1;q3;", 4, 1, 1);
        powers("c2,1,1;q4;", 2, 2, 2);
        powers("c2,1,1;q2;", 4, 1, 1);
        powers("c2,1,1;q5;", 0, 0, 0);
    }

    private static void powers(String text, int... due) {
        DollCongress x = Check.made(text);
        for (int c = 0; c < due.length; c++) {
            doc.due(text + " court " + c, x.court(c, 4), due[c]);
        }
    }

    private static void agreed() {
        doc.says("AGREED by a SET of COURTS: whether (1, 0) these have QUOTA.");
        for (int quota = 1; quota <= 10; quota++) {
            DollCongress x = Check.made("c3,2,4;q" + quota + ";");
            int[] votes = {0, 3, 2, 5, 4, 7, 6, 9};
            for (int set = 0; set < 8; set++) {
                doc.due("agreed(" + set + ") by " + quota, x.agreed(set), votes[set] >= quota ? 1 : 0);
            }
        }
    }

    private static void agreedBits() {
        doc.says("AGREED (0 without a CONGRESS). UNKNOWN.");
        doc.due("no congress", new DollCongress().agreed(0), 0);
        doc.due("bits of no court, no congress", new DollCongress().agreed(1), UNKNOWN);
        String text = "c9";
        for (int courts = 2; courts <= 7; courts++) {
            text += ",9";
            DollCongress x = Check.made(text + ";");
            doc.due("none of " + courts, x.agreed(0), 0);
            doc.due("all of " + courts, x.agreed((1 << courts) - 1), 1);
            doc.due("one more", x.agreed(1 << courts), UNKNOWN);
            doc.due("one more with all", x.agreed((2 << courts) - 1), UNKNOWN);
            doc.due("a far bit", x.agreed(1 << 30 | 1), UNKNOWN);
            doc.due("below 0", x.agreed(-1), UNKNOWN);
            doc.due("least", x.agreed(LEAST), UNKNOWN);
            doc.due("greatest", x.agreed(GREATEST), UNKNOWN);
        }
        DollCongress x = Check.made("c9,9;");
        x.congress();
        doc.due("no congress again", x.agreed(0), 0);
    }

    private static void blocks() {
        doc.says("BLOCKS: the fewest COURTS (a SET; of like ones the least) without which all others have not QUOTA.");
        doc.due("none is needed", Check.made("c1,1;q3;").told(13), 0);
        doc.due("all votes just are the quota", Check.made("c1,1;q2;").told(13), 1);
        doc.due("any vote is the quota", Check.made("c1,1;q1;").told(13), 3);
        doc.due("all of seven", Check.made("c1,1,1,1,1,1,1;q1;").told(13), 127);
        doc.due("none of seven", Check.made("c9,9,9,9,9,9,8;q63;").told(13), 0);
        doc.due("the last alone", Check.made("c1,1,1,1,1,1,9;").told(13), 64);
        // 2 + 2 of 4 + 2 + 2 come to 4; so does 4: two of the three are needed.
        doc.due("of like ones the least", Check.made("c4,2,2;q4;").told(13), 3);
        doc.due("fewer ahead of less", Check.made("c1,1,4;q3;").told(13), 4);
        // 5, 3, 3 by 6: without 5 there are 6 left, without a 3 there are 8.
        doc.due("just the quota is left", Check.made("c5,3,3;q6;").told(13), 3);
        doc.due("one less than the quota is left", Check.made("c5,3,2;q6;").told(13), 1);
    }

    private static void least() {
        doc.says("LEAST: the fewest COURTS with QUOTA together (likewise); NONE.");
        doc.due("none", Check.made("c1,1;q3;").told(14), NONE);
        doc.due("all", Check.made("c1,1;q2;").told(14), 3);
        doc.due("the first", Check.made("c1,1;q1;").told(14), 1);
        doc.due("all of seven", Check.made("c9,9,9,9,9,9,9;q63;").told(14), 127);
        doc.due("none of seven", Check.made("c9,9,9,9,9,9,8;q63;").told(14), NONE);
        doc.due("the last alone", Check.made("c1,1,1,1,1,1,9;").told(14), 64);
        doc.due("of like ones the least", Check.made("c2,3,3,3;q6;").told(14), 6);
        doc.due("fewer ahead of less", Check.made("c1,1,1,3;q3;").told(14), 8);
    }

    // ---- agendas

    private static void agenda() {
        doc.says("what wins, if things a and b (0 .. 2, unlike) come first. OUTSIDE, NOT: no CONGRESS.");
        DollCongress x = Check.made("c3,1,1,3,3;");
        int[][] due = {{OUTSIDE, 2, 1}, {2, OUTSIDE, 0}, {1, 0, OUTSIDE}};
        for (int a = 0; a < 3; a++) {
            for (int b = 0; b < 3; b++) {
                doc.due("agenda(" + a + ", " + b + ")", x.agenda(a, b), due[a][b]);
                doc.due("no congress", new DollCongress().agenda(a, b), a == b ? OUTSIDE : NOT);
            }
            for (int beyond : new int[] {-1, 3, LEAST, GREATEST}) {
                doc.due("agenda(" + a + ", " + beyond + ")", x.agenda(a, beyond), OUTSIDE);
                doc.due("agenda(" + beyond + ", " + a + ")", x.agenda(beyond, a), OUTSIDE);
                doc.due("no congress", new DollCongress().agenda(a, beyond), OUTSIDE);
            }
        }
        doc.due("agenda(3, 3)", x.agenda(3, 3), OUTSIDE);
    }

    /** Courts 0 to 5 have a liking each; of each two things three courts like the one more and three the other. */
    private static void agendaOfLikeVotes() {
        doc.says("what has more VOTES wins, of like ones the lesser");
        doc.due("all like", Check.made("c1,1,1,1,1,1;").agenda(1, 2), 0);
        doc.due("0 and 1 by 7 to 7", Check.made("c5,1,5,1,1,1;").agenda(0, 1), 0);
        doc.due("1 by one more", Check.made("c5,1,6,1,1,1;").agenda(0, 1), 1);
        doc.due("0 by one more", Check.made("c6,1,5,1,1,1;").agenda(0, 1), 0);
        doc.due("0 and 2 by 7 to 7", Check.made("c1,5,1,1,5,1;").agenda(0, 2), 0);
        doc.due("2 by one more", Check.made("c1,5,1,1,6,1;").agenda(0, 2), 2);
        doc.due("0 by one more", Check.made("c1,6,1,1,5,1;").agenda(0, 2), 0);
        doc.due("1 and 2 by 7 to 7", Check.made("c1,1,1,5,1,5;").agenda(1, 2), 1);
        doc.due("2 by one more", Check.made("c1,1,1,5,1,6;").agenda(1, 2), 2);
        doc.due("1 by one more", Check.made("c1,1,1,6,1,5;").agenda(1, 2), 1);
        // The lesser wins whichever comes first.
        doc.due("1 and 0 by 7 to 7", Check.made("c5,1,5,1,1,1;").agenda(1, 0), 0);
        doc.due("2 and 1 by 7 to 7", Check.made("c1,1,1,5,1,5;").agenda(2, 1), 1);
        // And where the third thing is the like one: 0 loses to both at first, 1 and 2 are like.
        doc.due("what won and the third are like", Check.made("c1,1,1,5,1,5;").agenda(0, 2), 1);
    }

    private static void agendaRound() {
        doc.says("COURT k likes things in the order k left over by 6 (0: 0 1 2, 1: 0 2 1, 2: 1 0 2, 3: 1 2 0, 4: 2 0 1, 5: 2 1 0)");
        // Nine votes against one each: the court's own liking decides each two things.
        int[][] orders = {{0, 1, 2}, {0, 2, 1}, {1, 0, 2}, {1, 2, 0}, {2, 0, 1}, {2, 1, 0}, {0, 1, 2}};
        for (int c = 0; c < 7; c++) {
            StringBuilder text = new StringBuilder("c");
            for (int k = 0; k < 7; k++) {
                text.append(k == c ? 9 : 1).append(k < 6 ? ',' : ';');
            }
            DollCongress x = Check.made(text.toString());
            int best = orders[c][0];
            for (int a = 0; a < 3; a++) {
                doc.due(text + " agenda(" + a + ", " + (a + 1) % 3 + ")", x.agenda(a, (a + 1) % 3), best);
                doc.due(text + " agendaFor(" + a + ")", x.agendaFor(a), a == best ? 1 : NONE);
            }
        }
        // Court 6 likes 1 more than 2, as court 0: 12 to 12. If it liked 2 more, these would be 11 to 13.
        doc.due("court 6", Check.made("c1,2,1,9,1,9,1;").agenda(1, 2), 1);
        doc.due("without court 6", Check.made("c1,2,1,9,1,9;").agenda(1, 2), 2);
    }

    private static void agendaFor() {
        doc.says("the first order (10 times the one and the other, the lesser first, rising) by which a told thing wins; NONE.");
        DollCongress x = Check.made("c3,1,1,3,3;");
        doc.due("0", x.agendaFor(0), 12);
        doc.due("1", x.agendaFor(1), 2);
        doc.due("2", x.agendaFor(2), 1);
        x = Check.made("c1,9;");
        doc.due("by all orders", x.agendaFor(0), 1);
        doc.due("by none", x.agendaFor(1), NONE);
        doc.due("by none", x.agendaFor(2), NONE);
        doc.says("AGENDA by which a thing (0 .. 2) wins; NONE. OUTSIDE, NOT: no CONGRESS.");
        doc.due("-1", x.agendaFor(-1), OUTSIDE);
        doc.due("3", x.agendaFor(3), OUTSIDE);
        doc.due("greatest", x.agendaFor(GREATEST), OUTSIDE);
        for (int thing = 0; thing < 3; thing++) {
            doc.due("no congress, " + thing, new DollCongress().agendaFor(thing), NOT);
        }
        doc.due("no congress, -1", new DollCongress().agendaFor(-1), OUTSIDE);
        doc.due("no congress, 3", new DollCongress().agendaFor(3), OUTSIDE);
    }

    // ---- heirs

    private static void wanted() {
        doc.says("WANTED: c = NONE how much, else the DOLL of a COURT; NONE. UNKNOWN.");
        heirs("c1,1;", 0, NONE, NONE);
        heirs("c1,1;d0 0 63;", 6, 0, NONE);
        heirs("c1,1;d0 1 63;", 6, NONE, 0);
        heirs("c1,1;d0 1 0;", 0, 0, NONE);
        // More dolls than courts: 2 and 3 please either court by 3.
        heirs("c1,1;d0 0 1;d0 1 2;d0 0 7;d0 1 7;", 6, 2, 3);
        // More courts than dolls: court 1 alone is pleased, so that court 0 has none.
        heirs("c1,1,1;d0 1 3;", 2, NONE, 0, NONE);
        heirs("c1,1,1,1,1,1,1;d0 0 1;d0 1 2;d0 2 4;d0 3 8;d0 4 16;d0 5 32;d0 6 63;d0 6 63;", 12, 0, 1, 2, 3, 4, 5, 6);
        heirs("c1,1,1,1,1,1,1;" + "d0 6 63;".repeat(8), 6, 0, 1, 2, 3, 4, 5, 6);
        DollCongress x = Check.made("c1,1;d0 0 63;");
        doc.due("wanted(-2)", x.wanted(-2), UNKNOWN);
        doc.due("wanted(2)", x.wanted(2), UNKNOWN);
        doc.due("wanted(least)", x.wanted(LEAST), UNKNOWN);
        doc.due("no congress", new DollCongress().wanted(NONE), 0);
        doc.due("no congress, a court", new DollCongress().wanted(0), UNKNOWN);
        doc.due("seven courts, the last", Check.made("c1,1,1,1,1,1,1;").wanted(6), NONE);
        doc.due("seven courts, one more", Check.made("c1,1,1,1,1,1,1;").wanted(7), UNKNOWN);
        doc.says("a DOLL pleases a COURT by how many of its SIGNS any DOLL has that belongs to that COURT");
        x.post(0, 1);
        doc.due("to which it belongs, not where it is", x.wanted(0), 0);
        x.mask(0, 7);
        doc.due("its signs as they are now", x.wanted(NONE), 3);
        heirs("c1,1;d0 1 1;d0 1 2;d0 0 3;", 3, 0, 2);
    }

    private static void heirs(String text, int much, int... dolls) {
        DollCongress x = Check.made(text);
        doc.due(text + " how much", x.wanted(NONE), much);
        for (int c = 0; c < dolls.length; c++) {
            doc.due(text + " court " + c, x.wanted(c), dolls[c]);
        }
    }

    private static void wantedOfLikeOnes() {
        doc.says("the most together; of like ones the first (COURT by COURT the lesser DOLL, none last)");
        heirs("c1,1;d0 0 1;d0 0 1;d0 0 1;", 1, 0, 1);
        heirs("c1,1;d0 0 1;d0 1 1;", 2, 0, 1);
        // Court 0 is pleased most by doll 1, court 1 by dolls 0 and 1 alike.
        heirs("c1,1;d0 1 2;d0 0 3;d0 0 1;", 3, 1, 0);
        // Doll 0 pleases nobody: court 0, which is pleased by nobody, has it ahead of none.
        heirs("c1,1;d0 1 0;d0 1 4;", 1, 0, 1);
        // Court 0 is pleased by dolls 0 and 1 alike and gives up the lesser: 2 and 2 together are more than 2 and 1.
        heirs("c1,1;d0 0 3;d0 0 12;d0 1 1;d0 1 2;", 4, 1, 0);
        // One at most to each, no doll to two.
        heirs("c1,1,1;d0 0 63;d0 1 63;d0 2 63;", 18, 0, 1, 2);
        heirs("c1,1,1;d0 0 1;d0 1 1;d0 2 0;", 2, 0, 1, 2);
    }

    // ---- talk, the post

    private static void know() {
        doc.says("who knows behind n YEARS (0 .. 20; a SET of COURTS)");
        DollCongress x = Check.made("c1,1,1,1,1,1,1;");
        int[] due = {1, 11, 95, 127};
        for (int n = 0; n <= 20; n++) {
            doc.due("know(0, " + n + ")", x.know(0, n), due[Math.min(n, 3)]);
        }
        doc.due("know(0, 21)", x.know(0, 21), OUTSIDE);
        doc.due("know(0, -2)", x.know(0, -2), OUTSIDE);
        doc.due("know(0, least)", x.know(0, LEAST), OUTSIDE);
        doc.due("know(0, greatest)", x.know(0, GREATEST), OUTSIDE);
        doc.due("know(-1, 0)", x.know(-1, 0), UNKNOWN);
        doc.due("know(7, 0)", x.know(7, 0), UNKNOWN);
        doc.due("know(7, 21)", x.know(7, 21), UNKNOWN);
        doc.due("know(7, NONE)", x.know(7, NONE), UNKNOWN);
        doc.due("no congress", new DollCongress().know(0, 0), UNKNOWN);
        doc.due("years", x.told(5), 0);
    }

    private static void knowRound() {
        doc.says("tells the COURT that is one more, and the one that is three more (round)");
        for (int courts = 2; courts <= 7; courts++) {
            DollCongress x = Check.made("c1" + ",1".repeat(courts - 1) + ";");
            for (int c = 0; c < courts; c++) {
                int due = 1 << c | 1 << (c + 1) % courts | 1 << (c + 3) % courts;
                doc.due("of " + courts + " behind none", x.know(c, 0), 1 << c);
                doc.due("of " + courts + " behind one", x.know(c, 1), due);
            }
        }
        DollCongress x = Check.made("c1,1,1,1,1,1,1;");
        doc.due("from the last", x.know(6, 1), 64 + 1 + 4);
        doc.due("from the fifth", x.know(4, 1), 16 + 32 + 1);
        doc.due("from the fourth", x.know(3, 1), 8 + 16 + 64);
    }

    private static void knowAll() {
        doc.says("n = NONE behind how many all do, else who does behind n YEARS. UNKNOWN, OUTSIDE.");
        int[] due = {0, 0, 1, 2, 2, 2, 3, 3};
        for (int courts = 2; courts <= 7; courts++) {
            DollCongress x = Check.made("c1" + ",1".repeat(courts - 1) + ";");
            int all = (1 << courts) - 1;
            for (int c = 0; c < courts; c++) {
                doc.due("of " + courts + " from " + c, x.know(c, NONE), due[courts]);
                doc.due("all then", x.know(c, due[courts]), all);
                doc.due("not all a year ahead", x.know(c, due[courts] - 1) == all ? 1 : 0, 0);
            }
        }
    }

    private static void parcels() {
        doc.says("odds that none of n parcels (0 .. 60) goes wrong, each by q of a hundred (0 .. 100)");
        DollCongress x = new DollCongress();
        doc.due("parcels(-1, 0)", x.parcels(-1, 0), OUTSIDE);
        doc.due("parcels(61, 0)", x.parcels(61, 0), OUTSIDE);
        doc.due("parcels(0, -1)", x.parcels(0, -1), OUTSIDE);
        doc.due("parcels(0, 101)", x.parcels(0, 101), OUTSIDE);
        doc.due("parcels(-1, 101)", x.parcels(-1, 101), OUTSIDE);
        doc.due("parcels(least, 0)", x.parcels(LEAST, 0), OUTSIDE);
        doc.due("parcels(0, least)", x.parcels(0, LEAST), OUTSIDE);
        for (int q = 0; q <= 100; q++) {
            doc.due("parcels(0, " + q + ")", x.parcels(0, q), 1000000000);
            doc.due("parcels(1, " + q + ")", x.parcels(1, q), 10000000 * (100 - q));
        }
        for (int n = 0; n <= 60; n++) {
            doc.due("parcels(" + n + ", 0)", x.parcels(n, 0), 1000000000);
            doc.due("parcels(" + n + ", 100)", x.parcels(n, 100), n == 0 ? 1000000000 : 0);
        }
    }

    private static void parcelsCut() {
        doc.says("a BILLION times (100 less q) / 100 each (cut)");
        DollCongress x = new DollCongress();
        doc.due("parcels(4, 99)", x.parcels(4, 99), 10);
        doc.due("parcels(5, 99)", x.parcels(5, 99), 0);
        doc.due("parcels(60, 99)", x.parcels(60, 99), 0);
        doc.due("parcels(9, 10)", x.parcels(9, 10), 387420489);
        doc.due("parcels(10, 10)", x.parcels(10, 10), 348678440);
        // Cut each time: 313810596, 282429536, 254186582, 228767923; cut once it would be 228767924.
        doc.due("parcels(14, 10)", x.parcels(14, 10), 228767923);
        doc.due("parcels(4, 1)", x.parcels(4, 1), 960596010);
        // 950990049.9, then 941480148.51, 932065346.52: each is cut.
        doc.due("parcels(5, 1)", x.parcels(5, 1), 950990049);
        doc.due("parcels(6, 1)", x.parcels(6, 1), 941480148);
        doc.due("parcels(7, 1)", x.parcels(7, 1), 932065346);
    }
}

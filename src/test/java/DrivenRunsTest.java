import java.util.Random;

/** Drives DollCongress and Oracle by the same calls, from fixed seeds, and holds every answer against the other's. */
public final class DrivenRunsTest {
    private static final Check check = new Check("DrivenRunsTest");
    private static final int RUNS = 1500;
    // The document promises nothing behind an object's 512th call; a round below makes at most 400 with its texts.
    private static final int LAST_ROUND = 110;
    private static final int LAST_TEXT = 160;

    private final Random random;
    private final DollCongress x = new DollCongress();
    private final Oracle o = new Oracle();
    private final int run;
    private int calls;

    private DrivenRunsTest(int run) {
        this.run = run;
        random = new Random(run);
    }

    public static void main(String[] args) {
        for (int run = 0; run < RUNS; run++) {
            new DrivenRunsTest(run).go();
        }
        check.end();
    }

    private void go() {
        // What is dear for the oracle is asked of great congresses in few runs alone.
        boolean great = run % 100 == 0;
        if (run % 3 != 2) {
            tell(goodText(great ? 7 : 5, great ? 8 : 6));
        }
        for (int round = 0; round < LAST_ROUND; round++) {
            if (calls < LAST_TEXT && random.nextInt(20) == 0) {
                String text = goodText(great ? 7 : 5, great ? 8 : 6);
                tell(random.nextInt(3) == 0 ? text : marred(text));
                if (calls < LAST_TEXT && random.nextInt(3) != 0) {
                    tell(goodText(great ? 7 : 5, great ? 8 : 6));
                }
            }
            one(random.nextInt(great ? 33 : 40));
        }
        for (int what = 0; what <= 16; what++) {
            due("told(" + what + ")", x.told(what), o.told(what));
        }
        check.holds("run " + run + " keeps to 512 calls: " + calls, calls <= 512);
    }

    private void due(String call, int got, int want) {
        calls++;
        check.due("run " + run + " call " + calls + ": " + call, got, want);
    }

    private void tell(String text) {
        for (int i = 0; i < text.length(); i++) {
            due("feed", x.feed(text.charAt(i)), o.feed(text.charAt(i)));
        }
        due("congress() of '" + text + "'", x.congress(), o.congress());
        due("fault() of '" + text + "'", x.fault(), o.fault());
    }

    private String blanks() {
        return random.nextInt(12) == 0 ? " " : "";
    }

    private String goodText(int mostCourts, int mostDolls) {
        StringBuilder text = new StringBuilder(blanks()).append('c');
        int courts = 2 + random.nextInt(mostCourts - 1);
        for (int c = 0; c < courts; c++) {
            text.append(blanks()).append(1 + random.nextInt(9)).append(blanks()).append(c + 1 < courts ? ',' : ';');
        }
        boolean pattern = random.nextInt(4) != 0, quota = random.nextInt(3) == 0;
        int dolls = random.nextInt(8) == 0 ? 0 : random.nextInt(mostDolls + 1);
        int few = 1 + random.nextInt(63);
        for (int d = 0; d < dolls; d++) {
            text.append(blanks()).append('d').append(random.nextInt(4)).append(' ').append(random.nextInt(courts))
                .append(' ').append(blanks()).append(random.nextInt(64) & few).append(blanks()).append(';');
        }
        if (pattern) {
            text.append('s').append(random.nextInt(64) & few).append(';');
        }
        if (quota) {
            text.append('q').append(1 + random.nextInt(random.nextBoolean() ? 63 : 20)).append(';');
        }
        return text.substring(0, Math.min(240, text.length()));
    }

    private String marred(String text) {
        StringBuilder marred = new StringBuilder(text);
        String letters = "cdsq;,0123456789 $n" + (char) 0 + (char) 255;
        int times = 1 + random.nextInt(2);
        for (int i = 0; i < times && marred.length() > 1; i++) {
            int at = random.nextInt(marred.length());
            char letter = letters.charAt(random.nextInt(letters.length()));
            switch (random.nextInt(4)) {
                case 0 -> marred.setCharAt(at, letter);
                case 1 -> marred.insert(at, letter);
                case 2 -> marred.deleteCharAt(at);
                default -> marred.setLength(at);
            }
        }
        if (random.nextInt(4) == 0) {
            marred.append(text);
        }
        return marred.length() > 240 ? marred.substring(0, 240) : marred.toString();
    }

    /** Mostly 0 .. most, now and then a step outside or far off. */
    private int about(int most) {
        int draw = random.nextInt(40);
        if (draw == 0) {
            return random.nextInt();
        }
        return draw == 1 ? -1 : draw == 2 ? most + 1 : draw == 3 ? -2 : random.nextInt(most + 1);
    }

    private int someDoll() {
        return about(Math.max(0, o.told(1) - 1));
    }

    private int someCourt() {
        return about(Math.max(0, o.told(0) - 1));
    }

    private void one(int sort) {
        int d = someDoll(), e = someDoll(), c = someCourt();
        boolean is = random.nextInt(3) == 0;
        if (sort < 12) {
            done(sort, d, e, c, is);
        } else if (sort < 33) {
            tried(sort, d, c);
        } else {
            dear(sort, c);
        }
    }

    private void done(int sort, int d, int e, int c, boolean is) {
        int n = random.nextInt(4) == 0 ? about(60) : 1 + random.nextInt(5);
        int signs = about(63), v = random.nextInt(10) == 0 ? random.nextInt() : random.nextInt(Integer.MAX_VALUE);
        int i = about(1);
        switch (sort) {
            case 0 -> due("post(" + d + ", " + c + ")", x.post(d, c), o.post(d, c));
            case 1 -> due("mix(" + d + ", " + e + ")", x.mix(d, e), o.mix(d, e));
            case 2, 3 -> due("lay(" + d + ", " + is + ")", x.lay(d, is), o.lay(d, is));
            case 4 -> due("mask(" + d + ", " + signs + ")", x.mask(d, signs), o.mask(d, signs));
            case 5 -> due("audience()", x.audience(), o.audience());
            case 6 -> due("year(" + n + ")", x.year(n), o.year(n));
            case 7 -> due("drift(" + n + ")", x.drift(n), o.drift(n));
            case 8 -> due("undo()", x.undo(), o.undo());
            case 9 -> due("seed(" + v + ")", x.seed(v), o.seed(v));
            case 10 -> {
                if (random.nextInt(3) == 0) {
                    due("keep(" + i + ")", x.keep(i), o.keep(i));
                }
            }
            default -> {
                if (random.nextInt(3) == 0) {
                    due("goBack(" + i + ")", x.goBack(i), o.goBack(i));
                }
            }
        }
    }

    private void tried(int sort, int d, int c) {
        int n = about(100), v = about(99), few = about(6), what = about(1), signs = about(63);
        int set = about((1 << o.told(0)) - 1), a = about(2), b = about(2), years = about(20), part = about(4);
        int parcels = about(60), q = about(100), of = about(16);
        switch (sort) {
            case 12, 13, 14, 15 -> due("told(" + of + ")", x.told(of), o.told(of));
            case 16, 17, 18 -> due("doll(" + d + ", " + few + ")", x.doll(d, few), o.doll(d, few));
            case 19 -> due("court(" + c + ", " + part + ")", x.court(c, part), o.court(c, part));
            case 20 -> due("warm(" + d + ", " + n + ")", x.warm(d, n), o.warm(d, n));
            case 21 -> due("warmest(" + n + ")", x.warmest(n), o.warmest(n));
            case 22 -> due("first(" + d + ", " + v + ")", x.first(d, v), o.first(d, v));
            case 23 -> due("close(" + few + ")", x.close(few), o.close(few));
            case 24, 25 -> due("look(" + signs + ", " + what + ")", x.look(signs, what), o.look(signs, what));
            case 26 -> due("agreed(" + set + ")", x.agreed(set), o.agreed(set));
            case 27 -> due("agenda(" + a + ", " + b + ")", x.agenda(a, b), o.agenda(a, b));
            case 28 -> due("agendaFor(" + a + ")", x.agendaFor(a), o.agendaFor(a));
            case 29 -> due("know(" + c + ", " + years + ")", x.know(c, years), o.know(c, years));
            case 30 -> due("parcels(" + parcels + ", " + q + ")", x.parcels(parcels, q), o.parcels(parcels, q));
            case 31 -> due("write(" + d + ", " + c + ")", x.write(d, c), o.write(d, c));
            default -> judged(c);
        }
    }

    private void judged(int c) {
        due("judge()", x.judge(), o.judge());
        if (random.nextInt(10) == 0) {
            due("tear()", x.tear(), o.tear());
        }
        if (random.nextInt(8) == 0) {
            dear(random.nextInt(2) == 0 ? 33 : 39, c);
        }
    }

    private void dear(int sort, int c) {
        int what = about(1), court = random.nextInt(3) == 0 ? -1 : c;
        if (sort < 37) {
            due("swaps(" + what + ")", x.swaps(what), o.swaps(what));
        } else {
            due("wanted(" + court + ")", x.wanted(court), o.wanted(court));
        }
    }
}

import java.util.ArrayList;
import java.util.List;

/**
 * Each refused call, in each sort of state: that it answers as the document says, and changes nothing. Two new objects are
 * driven alike, one of them is refused something, and then all that calls can bring to light is held against the other's.
 */
public final class RefusalsTest {
    private static final int NONE = DollCongress.NONE, UNKNOWN = DollCongress.UNKNOWN, OUTSIDE = DollCongress.OUTSIDE,
            NOT = DollCongress.NOT, FULL = DollCongress.FULL;
    private static final int LEAST = Integer.MIN_VALUE, GREATEST = Integer.MAX_VALUE;
    private static final Doc doc = new Doc("RefusalsTest");
    private static final int PROBES = 6;

    private interface Call {
        int on(DollCongress x);
    }

    private record Asked(String name, Call call, int due) { }

    /** How an object comes to a state, and what can be asked there. */
    private enum State {
        NEW(0, 0), FAULTY(0, 0), NO_DOLLS(2, 0), LIVED(4, 4), FULL_TEXT(7, 3), OLD(2, 2);

        final int courts, dolls;

        State(int courts, int dolls) {
            this.courts = courts;
            this.dolls = dolls;
        }
    }

    public static void main(String[] args) {
        constants();
        unknownFirst();
        outsideNext();
        fullLast();
        lastCall();
        for (State state : State.values()) {
            doc.says("What is refused changes nothing.");
            for (Asked asked : refused(state)) {
                changesNothing(state, asked);
            }
            doc.says("TRIED from now; nothing changes by it.");
            for (Asked asked : tried(state)) {
                changesNothing(state, asked);
            }
        }
        doc.end();
    }

    // ---- the order of refusals

    private static void constants() {
        doc.says("They are far below all that is counted: -1000000001 and on.");
        doc.due("UNKNOWN", UNKNOWN, -1000000001);
        doc.due("OUTSIDE", OUTSIDE, -1000000002);
        doc.due("NOT", NOT, -1000000003);
        doc.due("FULL", FULL, -1000000004);
        doc.says("NONE is -1.");
        doc.due("NONE", NONE, -1);
    }

    private static void unknownFirst() {
        doc.says("REFUSALS, of several the first in this order: UNKNOWN");
        DollCongress x = at(State.LIVED);
        doc.due("no doll, no such part", x.doll(4, 7), UNKNOWN);
        doc.due("no court, no such part", x.court(4, 5), UNKNOWN);
        doc.due("no doll, signs outside", x.mask(4, 64), UNKNOWN);
        doc.due("no doll, years outside", x.warm(4, 101), UNKNOWN);
        doc.due("no doll, warm outside", x.first(4, 100), UNKNOWN);
        doc.due("no court, years outside", x.know(4, 21), UNKNOWN);
        doc.due("no image, none is kept", at(State.NEW).goBack(2), UNKNOWN);
        doc.due("no doll, the book is full", at(State.OLD).write(2, 0), UNKNOWN);
        doc.due("no court, the book is full", at(State.OLD).write(0, 2), UNKNOWN);
        doc.due("bits of no court, no congress", at(State.NEW).agreed(1), UNKNOWN);
        doc.says("a COURT, DOLL, SIGN, IMAGE that there is not; bits of such");
        doc.due("doll", x.lay(4, true), UNKNOWN);
        doc.due("court", x.wanted(4), UNKNOWN);
        doc.due("image", x.keep(2), UNKNOWN);
        doc.due("bits of courts", x.agreed(16), UNKNOWN);
        doc.due("bits of courts with others", x.agreed(31), UNKNOWN);
        doc.due("bits of courts, below 0", x.agreed(-16), UNKNOWN);
    }

    private static void outsideNext() {
        doc.says("OUTSIDE (another number out of its bounds), NOT (not now, as told)");
        for (State state : new State[] {State.NEW, State.FAULTY}) {
            DollCongress x = at(state);
            doc.due("year(0), no congress", x.year(0), OUTSIDE);
            doc.due("year(61), no congress", x.year(61), OUTSIDE);
            doc.due("drift(0), no congress", x.drift(0), OUTSIDE);
            doc.due("drift(61), no congress", x.drift(61), OUTSIDE);
            doc.due("agenda(0, 3), no congress", x.agenda(0, 3), OUTSIDE);
            doc.due("agenda(1, 1), no congress", x.agenda(1, 1), OUTSIDE);
            doc.due("agendaFor(-1), no congress", x.agendaFor(-1), OUTSIDE);
        }
    }

    private static void fullLast() {
        doc.says("NOT (not now, as told), FULL");
        DollCongress x = at(State.OLD);
        doc.due("year(61) at 9001", x.year(61), OUTSIDE);
        doc.due("drift(0) at 9001", x.drift(0), OUTSIDE);
        doc.due("year(60) at 9001", x.year(60), FULL);
        doc.due("post to where it is, at 9001", x.post(1, 0), NOT);
        x = at(State.FULL_TEXT);
        doc.due("feed(256), 240 letters", x.feed(256), OUTSIDE);
        doc.due("feed(-1), 240 letters", x.feed(-1), OUTSIDE);
        doc.due("feed(255), 240 letters", x.feed(255), FULL);
    }

    private static void lastCall() {
        doc.says("An object is used for at most 512 calls after it has been made");
        DollCongress x = new DollCongress();
        String text = "c1,1;d0 0 0;";
        feed(x, text);
        x.congress();
        int calls = text.length() + 1;
        for (; calls < 511; calls++) {
            doc.due("an audience", x.audience(), 0);
        }
        doc.due("the 512th", x.told(10), 511 - text.length() - 1);
    }

    // ---- states

    private static DollCongress at(State state) {
        DollCongress x = new DollCongress();
        switch (state) {
            case FAULTY -> faulty(x);
            case NO_DOLLS -> noDolls(x);
            case LIVED -> lived(x);
            case FULL_TEXT -> fullText(x);
            case OLD -> old(x);
            default -> { }
        }
        return x;
    }

    private static void feed(DollCongress x, String text) {
        for (int i = 0; i < text.length(); i++) {
            x.feed(text.charAt(i));
        }
    }

    /** No congress, a text begun behind one with a fault, a seed, an image. */
    private static void faulty(DollCongress x) {
        x.seed(7);
        x.keep(1);
        Check.tell(x, "c1,1;x");
        feed(x, "c1,1;d0 1 9");
    }

    private static void noDolls(DollCongress x) {
        Check.tell(x, "c5,4;s3;");
        x.year(3);
        x.audience();
        x.keep(0);
        x.year(1);
        x.seed(GREATEST);
        feed(x, "c9,9");
    }

    /** Four courts and dolls, image 0, a book, three deeds that can be undone, a text begun. */
    private static void lived(DollCongress x) {
        Check.tell(x, "c3,2,2,1;d0 0 5;d2 1 7;d1 2 20;d3 3 7;s7;");
        x.seed(11);
        x.year(7);
        x.mix(0, 1);
        x.lay(0, false);
        x.audience();
        x.post(2, 0);
        x.keep(0);
        x.year(9);
        x.mask(3, 9);
        x.drift(5);
        x.undo();
        x.lay(1, false);
        x.write(0, 1);
        x.write(1, 2);
        x.write(3, 0);
        feed(x, "c9,9;d0 0 ");
    }

    private static void fullText(DollCongress x) {
        Check.tell(x, "c1,2,3,4,5,6,7;d0 0 0;d3 5 5;d2 6 6;");
        x.year(8);
        x.mix(1, 2);
        x.mask(0, 1);
        feed(x, "c9,9;" + " ".repeat(228) + "d0 1 9;");
    }

    /** Years above 9000, a full book, as many deeds as are kept, both images. */
    private static void old(DollCongress x) {
        Check.tell(x, "c5,4;d2 0 1;d3 1 2;");
        for (int i = 0; i < 149; i++) {
            x.year(60);
        }
        x.keep(0);
        x.mask(0, 9);
        x.keep(1);
        for (int i = 0; i < 15; i++) {
            x.mask(1, i);
            x.write(i % 2, i % 2);
        }
        x.year(60);
        x.post(1, 0);
        x.year(1);
    }

    // ---- what is held against one another

    private static void changesNothing(State state, Asked asked) {
        for (int probe = 0; probe < PROBES; probe++) {
            DollCongress x = at(state);
            DollCongress plain = at(state);
            String name = state + " " + asked.name;
            doc.due(name, asked.call.on(x), asked.due);
            doc.due(name + " again", asked.call.on(x), asked.due);
            List<Integer> got = new ArrayList<>();
            List<Integer> want = new ArrayList<>();
            bringToLight(x, state, probe, got);
            bringToLight(plain, state, probe, want);
            doc.due(name + ", all is as it was, probe " + probe, got.equals(want) ? 1 : 0, 1);
        }
    }

    private static void bringToLight(DollCongress x, State state, int probe, List<Integer> seen) {
        switch (probe) {
            case 0 -> allThatIsTold(x, state, seen);
            case 1 -> whatCanBeUndone(x, state, seen);
            case 2 -> images(x, state, seen);
            case 3 -> draws(x, state, seen);
            case 4 -> book(x, state, seen);
            default -> text(x, seen);
        }
    }

    private static void scene(DollCongress x, State state, List<Integer> seen) {
        for (int what : new int[] {5, 6, 7, 10, 11}) {
            seen.add(x.told(what));
        }
        for (int d = 0; d < state.dolls; d++) {
            for (int what : new int[] {2, 3, 4, 6}) {
                seen.add(x.doll(d, what));
            }
        }
    }

    private static void allThatIsTold(DollCongress x, State state, List<Integer> seen) {
        for (int what = 0; what <= 16; what++) {
            seen.add(x.told(what));
        }
        for (int d = 0; d < state.dolls; d++) {
            for (int what = 0; what <= 6; what++) {
                seen.add(x.doll(d, what));
            }
        }
        for (int c = 0; c < state.courts; c++) {
            for (int what = 0; what <= 4; what++) {
                seen.add(x.court(c, what));
            }
        }
        seen.add(x.fault());
        seen.add(x.judge());
        seen.add(x.seed(0));
    }

    private static void whatCanBeUndone(DollCongress x, State state, List<Integer> seen) {
        int left = 16;
        for (int i = 0; i < 17 && left != NOT; i++) {
            left = x.undo();
            seen.add(left);
            scene(x, state, seen);
        }
    }

    private static void images(DollCongress x, State state, List<Integer> seen) {
        for (int i = 0; i < 2; i++) {
            seen.add(x.goBack(i));
            scene(x, state, seen);
            seen.add(x.seed(3));
        }
    }

    /** An old congress has to be made younger first, for years to pass by draws. */
    private static void draws(DollCongress x, State state, List<Integer> seen) {
        if (state == State.OLD) {
            seen.add(x.undo());
        }
        seen.add(x.drift(60));
        scene(x, state, seen);
        seen.add(x.seed(0));
    }

    private static void book(DollCongress x, State state, List<Integer> seen) {
        for (int c = 0; c < state.courts; c++) {
            for (int d = 0; d < state.dolls; d++) {
                seen.add(x.post(d, c));
                seen.add(x.judge());
            }
        }
        seen.add(x.write(0, 0));
        seen.add(x.tear());
    }

    private static void text(DollCongress x, List<Integer> seen) {
        seen.add(x.told(2));
        seen.add(x.feed(';'));
        seen.add(x.congress());
        seen.add(x.fault());
        seen.add(x.told(0));
        seen.add(x.told(1));
        seen.add(x.doll(0, 3));
        seen.add(x.court(1, 0));
    }

    // ---- what is refused

    private static List<Asked> refused(State state) {
        List<Asked> list = new ArrayList<>();
        refusedEverywhere(list);
        refusedOfDolls(list, state);
        refusedOfCourts(list, state);
        refusedOfBoth(list, state);
        refusedYears(list, state);
        refusedWithoutCongress(list, state);
        refusedAsItStands(list, state);
        return list;
    }

    private static void add(List<Asked> list, int due, String name, Call call) {
        list.add(new Asked(name, call, due));
    }

    private static void refusedEverywhere(List<Asked> list) {
        for (int v : new int[] {LEAST, -157, -1, 256, 355, GREATEST}) {
            add(list, OUTSIDE, "feed(" + v + ")", x -> x.feed(v));
        }
        for (int v : new int[] {LEAST, -1, 17, GREATEST}) {
            add(list, OUTSIDE, "told(" + v + ")", x -> x.told(v));
        }
        for (int v : new int[] {LEAST, -1, 101, GREATEST}) {
            add(list, OUTSIDE, "warmest(" + v + ")", x -> x.warmest(v));
            add(list, OUTSIDE, "parcels(0, " + v + ")", x -> x.parcels(0, v));
            add(list, OUTSIDE, "parcels(61, " + v + ")", x -> x.parcels(61, v));
        }
        for (int v : new int[] {LEAST, -1, 61, GREATEST}) {
            add(list, OUTSIDE, "parcels(" + v + ", 50)", x -> x.parcels(v, 50));
        }
        for (int v : new int[] {LEAST, -1, 2, GREATEST}) {
            add(list, OUTSIDE, "swaps(" + v + ")", x -> x.swaps(v));
            add(list, OUTSIDE, "look(7, " + v + ")", x -> x.look(7, v));
            add(list, UNKNOWN, "keep(" + v + ")", x -> x.keep(v));
            add(list, UNKNOWN, "goBack(" + v + ")", x -> x.goBack(v));
        }
        for (int v : new int[] {LEAST, -1, 7, GREATEST}) {
            add(list, OUTSIDE, "close(" + v + ")", x -> x.close(v));
        }
        for (int v : new int[] {LEAST, -1, 64, GREATEST}) {
            add(list, OUTSIDE, "look(" + v + ", 0)", x -> x.look(v, 0));
            add(list, OUTSIDE, "look(" + v + ", 2)", x -> x.look(v, 2));
        }
        for (int v : new int[] {LEAST, -1, 3, GREATEST}) {
            add(list, OUTSIDE, "agenda(" + v + ", 0)", x -> x.agenda(v, 0));
            add(list, OUTSIDE, "agenda(0, " + v + ")", x -> x.agenda(0, v));
            add(list, OUTSIDE, "agendaFor(" + v + ")", x -> x.agendaFor(v));
        }
        for (int v = 0; v < 3; v++) {
            int thing = v;
            add(list, OUTSIDE, "agenda(" + v + ", " + v + ")", x -> x.agenda(thing, thing));
        }
        for (int v : new int[] {LEAST, -2, -1}) {
            add(list, OUTSIDE, "seed(" + v + ")", x -> x.seed(v));
        }
    }

    /** A doll that there is not, ahead of all else that is wrong; what is outside, of one that there is. */
    private static void refusedOfDolls(List<Asked> list, State state) {
        for (int d : new int[] {LEAST, -1, state.dolls, 8, GREATEST}) {
            for (int what : new int[] {-1, 0, 6, 7}) {
                add(list, UNKNOWN, "doll(" + d + ", " + what + ")", x -> x.doll(d, what));
            }
            add(list, UNKNOWN, "lay(" + d + ", true)", x -> x.lay(d, true));
            add(list, UNKNOWN, "lay(" + d + ", false)", x -> x.lay(d, false));
            for (int v : new int[] {-1, 0, 63, 64}) {
                add(list, UNKNOWN, "mask(" + d + ", " + v + ")", x -> x.mask(d, v));
            }
            for (int v : new int[] {-1, 0, 100, 101}) {
                add(list, UNKNOWN, "warm(" + d + ", " + v + ")", x -> x.warm(d, v));
            }
            for (int v : new int[] {-1, 0, 99, 100}) {
                add(list, UNKNOWN, "first(" + d + ", " + v + ")", x -> x.first(d, v));
            }
            add(list, UNKNOWN, "mix(" + d + ", 0)", x -> x.mix(d, 0));
            add(list, UNKNOWN, "mix(0, " + d + ")", x -> x.mix(0, d));
            add(list, UNKNOWN, "mix(" + d + ", " + d + ")", x -> x.mix(d, d));
        }
        for (int doll = 0; doll < state.dolls; doll++) {
            int d = doll;
            add(list, UNKNOWN, "mix(" + d + ", " + d + ")", x -> x.mix(d, d));
            add(list, OUTSIDE, "doll(" + d + ", -1)", x -> x.doll(d, -1));
            add(list, OUTSIDE, "doll(" + d + ", 7)", x -> x.doll(d, 7));
            for (int v : new int[] {LEAST, -1, 64, GREATEST}) {
                add(list, OUTSIDE, "mask(" + d + ", " + v + ")", x -> x.mask(d, v));
            }
            for (int v : new int[] {LEAST, -1, 101, GREATEST}) {
                add(list, OUTSIDE, "warm(" + d + ", " + v + ")", x -> x.warm(d, v));
            }
            for (int v : new int[] {LEAST, -1, 100, GREATEST}) {
                add(list, OUTSIDE, "first(" + d + ", " + v + ")", x -> x.first(d, v));
            }
        }
    }

    private static void refusedOfCourts(List<Asked> list, State state) {
        for (int c : new int[] {LEAST, -1, state.courts, 7, GREATEST}) {
            for (int what : new int[] {-1, 0, 4, 5}) {
                add(list, UNKNOWN, "court(" + c + ", " + what + ")", x -> x.court(c, what));
            }
            for (int n : new int[] {-2, NONE, 0, 20, 21}) {
                add(list, UNKNOWN, "know(" + c + ", " + n + ")", x -> x.know(c, n));
            }
            if (c != NONE) {
                add(list, UNKNOWN, "wanted(" + c + ")", x -> x.wanted(c));
            }
        }
        add(list, UNKNOWN, "wanted(-2)", x -> x.wanted(-2));
        for (int set : new int[] {LEAST, -1, 1 << state.courts, (2 << state.courts) - 1, 1 << 7, GREATEST}) {
            add(list, UNKNOWN, "agreed(" + set + ")", x -> x.agreed(set));
        }
        for (int court = 0; court < state.courts; court++) {
            int c = court;
            add(list, OUTSIDE, "court(" + c + ", -1)", x -> x.court(c, -1));
            add(list, OUTSIDE, "court(" + c + ", 5)", x -> x.court(c, 5));
            for (int n : new int[] {LEAST, -2, 21, GREATEST}) {
                add(list, OUTSIDE, "know(" + c + ", " + n + ")", x -> x.know(c, n));
            }
        }
    }

    private static void refusedOfBoth(List<Asked> list, State state) {
        for (int d : new int[] {-1, 0, state.dolls, 8}) {
            for (int c : new int[] {-1, 0, state.courts, 7}) {
                boolean known = d == 0 && c == 0 && state.dolls > 0;
                if (!known) {
                    add(list, UNKNOWN, "post(" + d + ", " + c + ")", x -> x.post(d, c));
                    add(list, UNKNOWN, "write(" + d + ", " + c + ")", x -> x.write(d, c));
                }
            }
        }
        for (int doll = 0; doll < state.dolls; doll++) {
            int d = doll;
            add(list, NOT, "post(" + d + ") to where it is", x -> x.post(d, x.doll(d, 2)));
        }
    }

    private static void refusedYears(List<Asked> list, State state) {
        for (int n : new int[] {LEAST, -1, 0, 61, GREATEST}) {
            add(list, OUTSIDE, "year(" + n + ")", x -> x.year(n));
            add(list, OUTSIDE, "drift(" + n + ")", x -> x.drift(n));
        }
        if (state.courts == 0 || state == State.OLD) {
            int due = state == State.OLD ? FULL : NOT;
            for (int n : new int[] {1, 60}) {
                add(list, due, "year(" + n + ")", x -> x.year(n));
                add(list, due, "drift(" + n + ")", x -> x.drift(n));
            }
        }
    }

    private static void refusedWithoutCongress(List<Asked> list, State state) {
        if (state.courts > 0) {
            return;
        }
        add(list, NOT, "audience()", x -> x.audience());
        for (int thing = 0; thing < 3; thing++) {
            int a = thing, b = (thing + 1) % 3;
            add(list, NOT, "agenda(" + a + ", " + b + ")", x -> x.agenda(a, b));
            add(list, NOT, "agenda(" + b + ", " + a + ")", x -> x.agenda(b, a));
            add(list, NOT, "agendaFor(" + a + ")", x -> x.agendaFor(a));
        }
        add(list, NOT, "undo()", x -> x.undo());
    }

    private static void refusedAsItStands(List<Asked> list, State state) {
        switch (state) {
            case NEW -> {
                add(list, NOT, "goBack(0)", x -> x.goBack(0));
                add(list, NOT, "goBack(1)", x -> x.goBack(1));
            }
            case FAULTY -> add(list, NOT, "goBack(0)", x -> x.goBack(0));
            case NO_DOLLS, LIVED -> add(list, NOT, "goBack(1)", x -> x.goBack(1));
            case FULL_TEXT -> {
                for (int letter : new int[] {0, ' ', ';', 255}) {
                    add(list, FULL, "feed(" + letter + ")", x -> x.feed(letter));
                }
            }
            case OLD -> {
                add(list, FULL, "write(0, 0)", x -> x.write(0, 0));
                add(list, FULL, "write(1, 1)", x -> x.write(1, 1));
            }
        }
    }

    // ---- what is asked, and changes nothing

    private static List<Asked> tried(State state) {
        List<Asked> list = new ArrayList<>();
        for (int what = 0; what <= 16; what++) {
            int of = what;
            ask(list, state, "told(" + what + ")", x -> x.told(of));
        }
        for (int d = 0; d < state.dolls; d++) {
            triedOfDoll(list, state, d);
        }
        for (int c = 0; c < state.courts; c++) {
            triedOfCourt(list, state, c);
        }
        for (int n : new int[] {0, 1, 100}) {
            ask(list, state, "warmest(" + n + ")", x -> x.warmest(n));
            ask(list, state, "parcels(60, " + n + ")", x -> x.parcels(60, n));
        }
        for (int what = 0; what <= 1; what++) {
            int of = what;
            ask(list, state, "swaps(" + what + ")", x -> x.swaps(of));
            ask(list, state, "look(0, " + what + ")", x -> x.look(0, of));
            ask(list, state, "look(63, " + what + ")", x -> x.look(63, of));
        }
        ask(list, state, "close(0)", x -> x.close(0));
        ask(list, state, "close(6)", x -> x.close(6));
        ask(list, state, "agreed(0)", x -> x.agreed(0));
        ask(list, state, "agreed of all", x -> x.agreed((1 << state.courts) - 1));
        ask(list, state, "wanted(NONE)", x -> x.wanted(NONE));
        ask(list, state, "fault()", x -> x.fault());
        ask(list, state, "judge()", x -> x.judge());
        if (state.courts > 0) {
            ask(list, state, "agenda(2, 0)", x -> x.agenda(2, 0));
            ask(list, state, "agendaFor(1)", x -> x.agendaFor(1));
        }
        return list;
    }

    private static void triedOfDoll(List<Asked> list, State state, int d) {
        for (int what = 0; what <= 6; what++) {
            int of = what;
            ask(list, state, "doll(" + d + ", " + what + ")", x -> x.doll(d, of));
        }
        ask(list, state, "warm(" + d + ", 100)", x -> x.warm(d, 100));
        ask(list, state, "first(" + d + ", 99)", x -> x.first(d, 99));
    }

    private static void triedOfCourt(List<Asked> list, State state, int c) {
        for (int what = 0; what <= 4; what++) {
            int of = what;
            ask(list, state, "court(" + c + ", " + what + ")", x -> x.court(c, of));
        }
        ask(list, state, "wanted(" + c + ")", x -> x.wanted(c));
        ask(list, state, "know(" + c + ", 20)", x -> x.know(c, 20));
        ask(list, state, "know(" + c + ", NONE)", x -> x.know(c, NONE));
    }

    /** What is due here is what a like object answers: other tests hold the answers themselves. */
    private static void ask(List<Asked> list, State state, String name, Call call) {
        list.add(new Asked(name, call, call.on(at(state))));
    }
}

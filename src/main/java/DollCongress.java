import java.util.Arrays;

/** A congress of small courts and their dolls, told in a text; ../shared/DOC.md says what each call promises. */
public final class DollCongress {
    public static final int NONE = -1, UNKNOWN = -1000000001, OUTSIDE = -1000000002, NOT = -1000000003, FULL = -1000000004;

    private static final int MOST_LETTERS = 240;
    private static final int MOST_COURTS = 7;
    private static final int MOST_DOLLS = 8;
    private static final int SIGN_COUNT = 6;
    private static final int ALL_SIGNS = 63;
    private static final int MOST_VOTES = 9;
    private static final int MOST_QUOTA = 63;

    private static final int WAX = 0;
    private static final int WOOD = 1;
    private static final int REAL = 2;
    private static final int CLOCK = 3;

    private static final int MOST_WARM = 99;
    private static final int TEARFUL_FROM = 20;
    private static final int MOST_TEARS = 999999;
    private static final int MOST_YEARS_AT_ONCE = 60;
    private static final int LAST_FREE_YEAR = 9000;
    private static final int MOST_YEARS_WARMED = 100;
    private static final int MOST_YEARS_AWAITED = 200;
    private static final int MOST_YEARS_OF_TALK = 20;

    private static final int THINGS = 3;
    private static final int LIKINGS = 6;
    private static final int MOST_PARCELS = 60;
    private static final int HUNDRED = 100;
    private static final long BILLION = 1000000000L;
    private static final int MOST_ENTRIES = 15;
    private static final int MOST_UNDONE = 16;
    private static final int IMAGES = 2;
    private static final int GREATEST_SEED = 0x7fffffff;

    private final Text text = new Text();
    private final Scene now = new Scene();
    private final Past past = new Past();
    private final Book book = new Book();
    private final Image[] images = new Image[IMAGES];
    private final Mixings mixings = new Mixings();
    private final Wants wants = new Wants();
    private Roll roll = new Roll();
    // A text with a fault must leave the congress as it was, so it is read into this one first.
    private Roll spare = new Roll();
    private int chance;

    public DollCongress() {
        for (int i = 0; i < IMAGES; i++) {
            images[i] = new Image();
        }
    }

    // ---- the congress

    public int feed(int letter) {
        if (letter < 0 || letter > 255) {
            return OUTSIDE;
        }
        if (text.size >= MOST_LETTERS) {
            return FULL;
        }
        text.letters[text.size] = letter;
        text.size++;
        return text.size;
    }

    public int congress() {
        if (!text.readInto(spare)) {
            return -10 - text.faultNumber;
        }
        Roll former = roll;
        roll = spare;
        spare = former;
        now.begin(roll);
        past.forget();
        book.size = 0;
        for (int i = 0; i < IMAGES; i++) {
            images[i].kept = false;
        }
        return roll.dolls;
    }

    public int fault() {
        return text.faultPlace;
    }

    public int told(int what) {
        switch (what) {
            case 0: return roll.courts;
            case 1: return roll.dolls;
            case 2: return text.size;
            case 3: return roll.pattern;
            case 4: return roll.quota;
            case 5: return now.years;
            case 6: return now.up;
            case 7: return now.strays(roll);
            case 8: return Signs.within(roll, now, 0);
            case 9: return now.nodding(roll);
            case 10: return now.audiences;
            case 11: return now.held;
            case 12: return Signs.telling(roll, now);
            case 13: return hasCongress() ? roll.fewestBlocking() : NONE;
            case 14: return hasCongress() ? roll.fewestAgreeing() : NONE;
            case 15: return book.size;
            case 16: return past.size;
            default: return OUTSIDE;
        }
    }

    public int doll(int d, int what) {
        if (!roll.hasDoll(d)) {
            return UNKNOWN;
        }
        switch (what) {
            case 0: return roll.kind[d];
            case 1: return roll.home[d];
            case 2: return now.at[d];
            case 3: return now.signs[d];
            case 4: return now.warmth[d];
            case 5: return now.isUp(d) ? 1 : 0;
            case 6: return now.tears[d];
            default: return OUTSIDE;
        }
    }

    public int court(int c, int what) {
        if (!roll.hasCourt(c)) {
            return UNKNOWN;
        }
        switch (what) {
            case 0: return roll.votes[c];
            case 1: return dollsWith(now.at, c);
            case 2: return dollsWith(roll.home, c);
            case 3: return (now.nodding(roll) >> c) & 1;
            case 4: return roll.powerOf(c);
            default: return OUTSIDE;
        }
    }

    // ---- what is done

    public int post(int d, int c) {
        if (!roll.hasDoll(d) || !roll.hasCourt(c)) {
            return UNKNOWN;
        }
        if (now.at[d] == c) {
            return NOT;
        }
        past.remember(now);
        int from = now.at[d];
        now.send(d, c);
        return from;
    }

    public int mix(int d, int e) {
        if (!roll.hasDoll(d) || !roll.hasDoll(e) || d == e) {
            return UNKNOWN;
        }
        past.remember(now);
        now.exchange(d, e);
        return now.at[d];
    }

    public int lay(int d, boolean is) {
        if (!roll.hasDoll(d)) {
            return UNKNOWN;
        }
        past.remember(now);
        int before = now.isUp(d) ? 0 : 1;
        if (is) {
            now.layBack(d);
        } else {
            now.raise(d);
        }
        return before;
    }

    public int mask(int d, int signs) {
        if (!roll.hasDoll(d)) {
            return UNKNOWN;
        }
        if (signs < 0 || signs > ALL_SIGNS) {
            return OUTSIDE;
        }
        past.remember(now);
        int before = now.signs[d];
        now.signs[d] = signs;
        return before;
    }

    public int audience() {
        if (!hasCongress()) {
            return NOT;
        }
        past.remember(now);
        return now.holdAudience(roll) ? 1 : 0;
    }

    public int year(int n) {
        int refusal = refusalOfYears(n);
        if (refusal != 0) {
            return refusal;
        }
        past.remember(now);
        for (int i = 0; i < n; i++) {
            now.passYear(roll);
        }
        return now.years;
    }

    public int drift(int n) {
        int refusal = refusalOfYears(n);
        if (refusal != 0) {
            return refusal;
        }
        past.remember(now);
        for (int i = 0; i < n; i++) {
            if (roll.dolls > 0) {
                meddle();
            }
            now.passYear(roll);
        }
        return now.years;
    }

    public int undo() {
        if (past.size == 0) {
            return NOT;
        }
        past.recall(now);
        return past.size;
    }

    // ---- tried

    public int warm(int d, int n) {
        if (!roll.hasDoll(d)) {
            return UNKNOWN;
        }
        if (n < 0 || n > MOST_YEARS_WARMED) {
            return OUTSIDE;
        }
        return now.warmthBehind(roll, d, n);
    }

    public int warmest(int n) {
        if (n < 0 || n > MOST_YEARS_WARMED) {
            return OUTSIDE;
        }
        int best = NONE;
        int bestWarmth = -1;
        for (int d = 0; d < roll.dolls; d++) {
            int warmth = now.warmthBehind(roll, d, n);
            if (warmth > bestWarmth) {
                best = d;
                bestWarmth = warmth;
            }
        }
        return best;
    }

    public int first(int d, int v) {
        if (!roll.hasDoll(d)) {
            return UNKNOWN;
        }
        if (v < 0 || v > MOST_WARM) {
            return OUTSIDE;
        }
        return now.yearsUntilWarm(roll, d, v);
    }

    public int swaps(int what) {
        if (what < 0 || what > 1) {
            return OUTSIDE;
        }
        return what == 0 ? mixings.fewest(roll, now) : mixings.leastOpening(roll, now);
    }

    public int close(int n) {
        if (n < 0 || n > SIGN_COUNT) {
            return OUTSIDE;
        }
        return Signs.within(roll, now, n);
    }

    public int look(int signs, int what) {
        if (signs < 0 || signs > ALL_SIGNS || what < 0 || what > 1) {
            return OUTSIDE;
        }
        int fitting = Signs.fitting(roll, now, signs);
        return what == 0 ? fitting : Signs.parting(roll, now, fitting);
    }

    public int agreed(int set) {
        if (set < 0 || set > roll.allCourts()) {
            return UNKNOWN;
        }
        return hasCongress() && roll.weight[set] >= roll.quota ? 1 : 0;
    }

    public int agenda(int a, int b) {
        if (!isThing(a) || !isThing(b) || a == b) {
            return OUTSIDE;
        }
        if (!hasCongress()) {
            return NOT;
        }
        return roll.winnerFrom(a, b);
    }

    public int agendaFor(int thing) {
        if (!isThing(thing)) {
            return OUTSIDE;
        }
        if (!hasCongress()) {
            return NOT;
        }
        for (int a = 0; a < THINGS; a++) {
            for (int b = a + 1; b < THINGS; b++) {
                if (roll.winnerFrom(a, b) == thing) {
                    return 10 * a + b;
                }
            }
        }
        return NONE;
    }

    public int wanted(int c) {
        if (c != NONE && !roll.hasCourt(c)) {
            return UNKNOWN;
        }
        wants.weigh(roll, now);
        return c == NONE ? wants.most() : wants.dollOf(roll, now, c);
    }

    public int know(int c, int n) {
        if (!roll.hasCourt(c)) {
            return UNKNOWN;
        }
        if (n != NONE && (n < 0 || n > MOST_YEARS_OF_TALK)) {
            return OUTSIDE;
        }
        int knowing = 1 << c;
        if (n == NONE) {
            return yearsUntilAllKnow(knowing);
        }
        for (int i = 0; i < n; i++) {
            knowing = roll.toldOn(knowing);
        }
        return knowing;
    }

    public int parcels(int n, int q) {
        if (n < 0 || n > MOST_PARCELS || q < 0 || q > HUNDRED) {
            return OUTSIDE;
        }
        long odds = BILLION;
        for (int i = 0; i < n; i++) {
            odds = odds * (HUNDRED - q) / HUNDRED;
        }
        return (int) odds;
    }

    // ---- the book

    public int write(int d, int c) {
        if (!roll.hasDoll(d) || !roll.hasCourt(c)) {
            return UNKNOWN;
        }
        if (book.size >= MOST_ENTRIES) {
            return FULL;
        }
        book.add(d, c);
        return book.size;
    }

    public int tear() {
        int had = book.size;
        book.size = 0;
        return had;
    }

    public int judge() {
        return book.firstWrong(now);
    }

    // ---- draws, images

    public int seed(int v) {
        if (v < 0) {
            return OUTSIDE;
        }
        int before = chance;
        chance = v;
        return before;
    }

    public int keep(int i) {
        if (i < 0 || i >= IMAGES) {
            return UNKNOWN;
        }
        Image image = images[i];
        image.scene.copyFrom(now);
        image.chance = chance;
        image.kept = true;
        past.forget();
        return 1;
    }

    public int goBack(int i) {
        if (i < 0 || i >= IMAGES) {
            return UNKNOWN;
        }
        Image image = images[i];
        if (!image.kept) {
            return NOT;
        }
        now.copyFrom(image.scene);
        chance = image.chance;
        past.forget();
        return 1;
    }

    private boolean hasCongress() {
        return roll.courts > 0;
    }

    private static boolean isThing(int thing) {
        return thing >= 0 && thing < THINGS;
    }

    private int dollsWith(int[] courtOf, int c) {
        int set = 0;
        for (int d = 0; d < roll.dolls; d++) {
            if (courtOf[d] == c) {
                set |= 1 << d;
            }
        }
        return set;
    }

    /** 0 where n years may pass. */
    private int refusalOfYears(int n) {
        if (n < 1 || n > MOST_YEARS_AT_ONCE) {
            return OUTSIDE;
        }
        if (!hasCongress()) {
            return NOT;
        }
        return now.years > LAST_FREE_YEAR ? FULL : 0;
    }

    private int draw(int n) {
        chance = (chance * 1103515245 + 12345) & GREATEST_SEED;
        return n > 0 ? chance / 65536 % n : 0;
    }

    /** What happens by draws ahead of a year; the order of the draws is the document's. */
    private void meddle() {
        int deed = draw(5);
        int d = draw(roll.dolls);
        switch (deed) {
            case 0:
                int c = draw(roll.courts);
                if (now.at[d] != c) {
                    now.send(d, c);
                }
                break;
            case 1:
                int e = draw(roll.dolls);
                if (e != d) {
                    now.exchange(d, e);
                }
                break;
            case 2:
                now.raise(d);
                break;
            case 3:
                now.layBack(d);
                break;
            default:
                now.holdAudience(roll);
                break;
        }
    }

    /** Each year the next court round is told at least, so as many years as there are courts suffice. */
    private int yearsUntilAllKnow(int knowing) {
        int set = knowing;
        int years = 0;
        while (years < MOST_COURTS && set != roll.allCourts()) {
            set = roll.toldOn(set);
            years++;
        }
        return years;
    }

    /** What a text told: the congress as it was ordered, which nothing that is done changes. */
    private static final class Roll {
        private static final int[] FACTORIAL = {1, 1, 2, 6, 24, 120, 720};
        // Where each of the six likings has things 0, 1, 2: the lesser place is the better liked.
        private static final int[] LIKING_PLACE = {0, 1, 2, 0, 2, 1, 1, 0, 2, 2, 0, 1, 1, 2, 0, 2, 1, 0};

        final int[] votes = new int[MOST_COURTS];
        final int[] kind = new int[MOST_DOLLS];
        final int[] home = new int[MOST_DOLLS];
        final int[] signs = new int[MOST_DOLLS];
        // By set of courts: their votes together. Most questions about votes ask it for many sets.
        final int[] weight = new int[1 << MOST_COURTS];
        int courts;
        int dolls;
        int pattern;
        int quota;
        boolean hasPattern;
        boolean hasQuota;

        void clear() {
            courts = 0;
            dolls = 0;
            pattern = 0;
            quota = 0;
            hasPattern = false;
            hasQuota = false;
        }

        boolean hasCourt(int c) {
            return c >= 0 && c < courts;
        }

        boolean hasDoll(int d) {
            return d >= 0 && d < dolls;
        }

        int allCourts() {
            return (1 << courts) - 1;
        }

        void addCourt(int itsVotes) {
            if (courts < MOST_COURTS) {
                votes[courts] = itsVotes;
                courts++;
            }
        }

        void addDoll(int itsKind, int itsHome, int itsSigns) {
            if (dolls < MOST_DOLLS) {
                kind[dolls] = itsKind;
                home[dolls] = itsHome;
                signs[dolls] = itsSigns;
                dolls++;
            }
        }

        /** What follows from the clauses, once all of them are read. */
        void settle() {
            weight[0] = 0;
            for (int c = 0; c < courts; c++) {
                int bit = 1 << c;
                for (int s = 0; s < bit; s++) {
                    weight[s | bit] = weight[s] + votes[c];
                }
            }
            if (courts > 0 && !hasQuota) {
                quota = weight[allCourts()] / 2 + 1;
            }
        }

        /** Orders are counted by who stands ahead of the court, not one by one: each such set has its orders on both sides. */
        int powerOf(int c) {
            int orders = 0;
            for (int ahead = 0; ahead <= allCourts(); ahead++) {
                boolean decides = weight[ahead] < quota && weight[ahead] + votes[c] >= quota;
                if (((ahead >> c) & 1) == 0 && decides) {
                    int count = Integer.bitCount(ahead);
                    orders += FACTORIAL[count] * FACTORIAL[courts - 1 - count];
                }
            }
            return orders;
        }

        int fewestBlocking() {
            int all = allCourts();
            int best = all;
            for (int s = 0; s <= all; s++) {
                if (weight[all ^ s] < quota && Integer.bitCount(s) < Integer.bitCount(best)) {
                    best = s;
                }
            }
            return best;
        }

        int fewestAgreeing() {
            int best = NONE;
            for (int s = 0; s <= allCourts(); s++) {
                if (weight[s] >= quota && (best == NONE || Integer.bitCount(s) < Integer.bitCount(best))) {
                    best = s;
                }
            }
            return best;
        }

        /** The winner of the agenda that begins with things a and b. */
        int winnerFrom(int a, int b) {
            // Things 0, 1, 2 are 3 together.
            int third = 3 - a - b;
            return winnerOf(winnerOf(a, b), third);
        }

        private int winnerOf(int a, int b) {
            int lesser = Math.min(a, b);
            int greater = Math.max(a, b);
            int lead = 0;
            for (int c = 0; c < courts; c++) {
                int liking = c % LIKINGS * THINGS;
                boolean likesLesser = LIKING_PLACE[liking + lesser] < LIKING_PLACE[liking + greater];
                lead += likesLesser ? votes[c] : -votes[c];
            }
            return lead >= 0 ? lesser : greater;
        }

        /** Who knows a year after these did. */
        int toldOn(int knowing) {
            int set = knowing;
            for (int c = 0; c < courts; c++) {
                if (((knowing >> c) & 1) == 1) {
                    set |= (1 << ((c + 1) % courts)) | (1 << ((c + 3) % courts));
                }
            }
            return set;
        }
    }

    /** The text as it is fed, and the reading of it up to its first fault. */
    private static final class Text {
        private static final int STANDS_WRONG = 1;
        private static final int NUMBER_WRONG = 2;
        private static final int TOO_OFTEN = 3;
        private static final int MOST_FIGURES = 3;

        final int[] letters = new int[MOST_LETTERS];
        int size;
        int faultNumber;
        int faultPlace = NONE;
        private int place;

        /** The text is empty then; answers whether it had no fault. */
        boolean readInto(Roll roll) {
            place = 0;
            faultNumber = 0;
            faultPlace = NONE;
            roll.clear();
            skipBlanks();
            for (int clause = 0; clause < MOST_LETTERS && faultNumber == 0 && place < size; clause++) {
                readClause(roll);
                skipBlanks();
            }
            size = 0;
            if (faultNumber != 0) {
                return false;
            }
            roll.settle();
            return true;
        }

        private void readClause(Roll roll) {
            int word = letterHere();
            if (word != 'c' && roll.courts == 0) {
                fail(STANDS_WRONG, place);
                return;
            }
            switch (word) {
                case 'c':
                    readCourts(roll);
                    break;
                case 'd':
                    readDoll(roll);
                    break;
                case 's':
                    readPattern(roll);
                    break;
                case 'q':
                    readQuota(roll);
                    break;
                default:
                    fail(STANDS_WRONG, place);
                    break;
            }
        }

        private void readCourts(Roll roll) {
            if (roll.courts > 0) {
                fail(TOO_OFTEN, place);
                return;
            }
            place++;
            boolean more = true;
            for (int c = 0; more && c < MOST_COURTS; c++) {
                int votes = readNumber(1, MOST_VOTES);
                if (faultNumber != 0) {
                    return;
                }
                roll.addCourt(votes);
                more = readCourtsMark(roll);
            }
        }

        /** What stands behind the votes of a court; answers whether another court follows. */
        private boolean readCourtsMark(Roll roll) {
            skipBlanks();
            int mark = letterHere();
            boolean goesOn = mark == ',' && roll.courts < MOST_COURTS;
            boolean ends = mark == ';' && roll.courts > 1;
            if (!goesOn && !ends) {
                fail(STANDS_WRONG, place);
                return false;
            }
            place++;
            return goesOn;
        }

        private void readDoll(Roll roll) {
            if (roll.dolls >= MOST_DOLLS) {
                fail(TOO_OFTEN, place);
                return;
            }
            place++;
            int kind = readNumber(WAX, CLOCK);
            int home = readNumber(0, roll.courts - 1);
            int signs = readNumber(0, ALL_SIGNS);
            readEnd();
            if (faultNumber == 0) {
                roll.addDoll(kind, home, signs);
            }
        }

        private void readPattern(Roll roll) {
            if (roll.hasPattern) {
                fail(TOO_OFTEN, place);
                return;
            }
            place++;
            roll.pattern = readNumber(0, ALL_SIGNS);
            roll.hasPattern = true;
            readEnd();
        }

        private void readQuota(Roll roll) {
            if (roll.hasQuota) {
                fail(TOO_OFTEN, place);
                return;
            }
            place++;
            roll.quota = readNumber(1, MOST_QUOTA);
            roll.hasQuota = true;
            readEnd();
        }

        private void readEnd() {
            skipBlanks();
            if (letterHere() != ';') {
                fail(STANDS_WRONG, place);
                return;
            }
            place++;
        }

        private int readNumber(int least, int greatest) {
            skipBlanks();
            int start = place;
            int value = 0;
            while (place < size && isFigure(letterHere())) {
                // Held down, so that a long row of figures can't wrap round into the bounds.
                value = Math.min(value * 10 + letterHere() - '0', 1000);
                place++;
            }
            if (place == start) {
                fail(STANDS_WRONG, start);
            } else if (place - start > MOST_FIGURES || value < least || value > greatest) {
                fail(NUMBER_WRONG, start);
            }
            return value;
        }

        private static boolean isFigure(int letter) {
            return letter >= '0' && letter <= '9';
        }

        private void skipBlanks() {
            while (place < size && letterHere() == ' ') {
                place++;
            }
        }

        /** NONE at the end, which is like no letter. */
        private int letterHere() {
            return place >= 0 && place < size && place < MOST_LETTERS ? letters[place] : NONE;
        }

        /** Reading goes from the left, so the first fault that is found is the one to tell. */
        private void fail(int number, int where) {
            if (faultNumber == 0) {
                faultNumber = number;
                faultPlace = where;
            }
        }
    }

    /** All that can be done and undone: section 2 of the document. */
    private static final class Scene {
        final int[] at = new int[MOST_DOLLS];
        final int[] signs = new int[MOST_DOLLS];
        final int[] warmth = new int[MOST_DOLLS];
        final int[] tears = new int[MOST_DOLLS];
        int up;
        int years;
        int audiences;
        int held;

        void begin(Roll roll) {
            System.arraycopy(roll.home, 0, at, 0, MOST_DOLLS);
            System.arraycopy(roll.signs, 0, signs, 0, MOST_DOLLS);
            Arrays.fill(warmth, 0);
            Arrays.fill(tears, 0);
            up = (1 << roll.dolls) - 1;
            years = 0;
            audiences = 0;
            held = 0;
        }

        void copyFrom(Scene other) {
            System.arraycopy(other.at, 0, at, 0, MOST_DOLLS);
            System.arraycopy(other.signs, 0, signs, 0, MOST_DOLLS);
            System.arraycopy(other.warmth, 0, warmth, 0, MOST_DOLLS);
            System.arraycopy(other.tears, 0, tears, 0, MOST_DOLLS);
            up = other.up;
            years = other.years;
            audiences = other.audiences;
            held = other.held;
        }

        boolean isUp(int d) {
            return ((up >> d) & 1) == 1;
        }

        void raise(int d) {
            up |= 1 << d;
        }

        void layBack(int d) {
            up &= ~(1 << d);
        }

        void send(int d, int c) {
            at[d] = c;
            layBack(d);
        }

        void exchange(int d, int e) {
            int c = at[d];
            send(d, at[e]);
            send(e, c);
        }

        /** The dolls that are not where they belong. */
        int strays(Roll roll) {
            int set = 0;
            for (int d = 0; d < roll.dolls; d++) {
                if (at[d] != roll.home[d]) {
                    set |= 1 << d;
                }
            }
            return set;
        }

        int nodding(Roll roll) {
            int attended = 0;
            int wooden = 0;
            for (int d = 0; d < roll.dolls; d++) {
                if (isUp(d)) {
                    attended |= 1 << at[d];
                    if (roll.kind[d] == WOOD) {
                        wooden |= 1 << at[d];
                    }
                }
            }
            return attended & ~wooden;
        }

        boolean holdAudience(Roll roll) {
            boolean holds = roll.weight[nodding(roll)] >= roll.quota;
            audiences++;
            if (holds) {
                held++;
            }
            return holds;
        }

        void passYear(Roll roll) {
            for (int d = 0; d < roll.dolls; d++) {
                warmth[d] = warmthNext(roll.kind[d], isUp(d), warmth[d], years);
                boolean weeps = roll.kind[d] == REAL && isUp(d) && warmth[d] >= TEARFUL_FROM;
                if (weeps && tears[d] < MOST_TEARS) {
                    tears[d]++;
                }
            }
            years++;
        }

        int warmthBehind(Roll roll, int d, int n) {
            int level = warmth[d];
            for (int i = 0; i < n; i++) {
                level = warmthNext(roll.kind[d], isUp(d), level, years + i);
            }
            return level;
        }

        int yearsUntilWarm(Roll roll, int d, int wish) {
            int level = warmth[d];
            for (int i = 0; i <= MOST_YEARS_AWAITED; i++) {
                if (level >= wish) {
                    return i;
                }
                level = warmthNext(roll.kind[d], isUp(d), level, years + i);
            }
            return NONE;
        }

        /** A year's number is how many had passed ahead of it: the first is even. */
        private static int warmthNext(int kind, boolean isUp, int level, int yearNumber) {
            if (!isUp) {
                return Math.max(level - 1, 0);
            }
            int gain = 0;
            switch (kind) {
                case WAX:
                    gain = 1;
                    break;
                case REAL:
                    gain = 3;
                    break;
                case CLOCK:
                    gain = yearNumber % 2 == 0 ? 2 : 0;
                    break;
                default:
                    break;
            }
            return Math.min(level + gain, MOST_WARM);
        }
    }

    /** The scenes ahead of the latest deeds, in a ring, so that the oldest is lost first. */
    private static final class Past {
        private final Scene[] scenes = new Scene[MOST_UNDONE];
        private int next;
        int size;

        Past() {
            for (int i = 0; i < MOST_UNDONE; i++) {
                scenes[i] = new Scene();
            }
        }

        void forget() {
            size = 0;
        }

        void remember(Scene scene) {
            scenes[next].copyFrom(scene);
            next = (next + 1) % MOST_UNDONE;
            size = Math.min(size + 1, MOST_UNDONE);
        }

        void recall(Scene scene) {
            next = (next + MOST_UNDONE - 1) % MOST_UNDONE;
            scene.copyFrom(scenes[next]);
            size = Math.max(size - 1, 0);
        }
    }

    private static final class Image {
        final Scene scene = new Scene();
        int chance;
        boolean kept;
    }

    /** What is written of where dolls are; it is no part of a scene, so that nothing undone changes it. */
    private static final class Book {
        private final int[] dolls = new int[MOST_ENTRIES];
        private final int[] courts = new int[MOST_ENTRIES];
        int size;

        void add(int d, int c) {
            if (size < MOST_ENTRIES) {
                dolls[size] = d;
                courts[size] = c;
                size++;
            }
        }

        int firstWrong(Scene scene) {
            for (int i = 0; i < size; i++) {
                if (scene.at[dolls[i]] != courts[i]) {
                    return i;
                }
            }
            return NONE;
        }
    }

    /** Who may be real, by signs. */
    private static final class Signs {
        /** The dolls that are unlike the pattern in at most n signs. */
        static int within(Roll roll, Scene scene, int n) {
            int set = 0;
            for (int d = 0; d < roll.dolls; d++) {
                if (Integer.bitCount(scene.signs[d] ^ roll.pattern) <= n) {
                    set |= 1 << d;
                }
            }
            return set;
        }

        /** The dolls that are as the pattern in all of the asked signs. */
        static int fitting(Roll roll, Scene scene, int asked) {
            int set = 0;
            for (int d = 0; d < roll.dolls; d++) {
                if (((scene.signs[d] ^ roll.pattern) & asked) == 0) {
                    set |= 1 << d;
                }
            }
            return set;
        }

        /** The sign that tells these dolls apart best. */
        static int parting(Roll roll, Scene scene, int dolls) {
            int count = Integer.bitCount(dolls);
            int best = NONE;
            // A sign that leaves all of them alike parts nothing, so the part to beat is the whole.
            int bestPart = count;
            for (int sign = 0; sign < SIGN_COUNT; sign++) {
                int having = 0;
                for (int d = 0; d < roll.dolls; d++) {
                    having += (dolls >> d) & (scene.signs[d] >> sign) & 1;
                }
                int part = Math.max(having, count - having);
                if (part < bestPart) {
                    best = sign;
                    bestPart = part;
                }
            }
            return best;
        }

        /** The fewest signs by which dolls with unlike signs are still unlike. */
        static int telling(Roll roll, Scene scene) {
            int best = ALL_SIGNS;
            for (int asked = 0; asked < ALL_SIGNS; asked++) {
                if (Integer.bitCount(asked) < Integer.bitCount(best) && tells(roll, scene, asked)) {
                    best = asked;
                }
            }
            return best;
        }

        private static boolean tells(Roll roll, Scene scene, int asked) {
            for (int d = 0; d < roll.dolls; d++) {
                for (int e = d + 1; e < roll.dolls; e++) {
                    int unlike = scene.signs[d] ^ scene.signs[e];
                    if (unlike != 0 && (unlike & asked) == 0) {
                        return false;
                    }
                }
            }
            return true;
        }
    }

    /**
     * The fewest mixings that put all dolls right. Strays part into rings, in each of which the courts left are the
     * courts come to; a ring of k dolls takes k - 1 mixings, so the most rings make the fewest mixings.
     */
    private static final class Mixings {
        // Four bits a court: 8 dolls can't carry from one court's count into the next and come to 0.
        private static final int BITS_A_COURT = 4;

        private final int[] strays = new int[MOST_DOLLS];
        private final int[] moves = new int[MOST_DOLLS];
        // By set of strays: what their going home takes from each court and adds to it; the most rings closed in it.
        private final int[] surplus = new int[1 << MOST_DOLLS];
        private final int[] rings = new int[1 << MOST_DOLLS];
        private int count;

        int fewest(Roll roll, Scene scene) {
            gatherStrays(roll, scene);
            int all = (1 << count) - 1;
            surplus[0] = 0;
            rings[0] = 0;
            for (int set = 1; set <= all; set++) {
                countRings(set);
            }
            return surplus[all] == 0 ? count - rings[all] : NONE;
        }

        /** Any two dolls of a ring part it in two rings, so each ring of a best parting can be begun with. */
        int leastOpening(Roll roll, Scene scene) {
            if (fewest(roll, scene) <= 0) {
                return NONE;
            }
            int all = (1 << count) - 1;
            int least = NONE;
            for (int set = 1; set <= all; set++) {
                // Where the others close all rings but one, this set is that one ring.
                if (surplus[set] == 0 && rings[all ^ set] + 1 == rings[all]) {
                    int pair = leastPair(set);
                    least = least == NONE ? pair : Math.min(least, pair);
                }
            }
            return least;
        }

        private int leastPair(int set) {
            int lesser = NONE;
            for (int i = 0; i < count; i++) {
                if (((set >> i) & 1) == 1) {
                    if (lesser != NONE) {
                        return 10 * lesser + strays[i];
                    }
                    lesser = strays[i];
                }
            }
            return NONE;
        }

        private void gatherStrays(Roll roll, Scene scene) {
            count = 0;
            for (int d = 0; d < roll.dolls; d++) {
                if (scene.at[d] != roll.home[d]) {
                    strays[count] = d;
                    moves[count] = (1 << (BITS_A_COURT * scene.at[d])) - (1 << (BITS_A_COURT * roll.home[d]));
                    count++;
                }
            }
        }

        /** The last doll taken into a set closes a ring if the set has no surplus then. */
        private void countRings(int set) {
            int most = 0;
            int sum = 0;
            for (int i = 0; i < count; i++) {
                if (((set >> i) & 1) == 1) {
                    int rest = set ^ (1 << i);
                    most = Math.max(most, rings[rest]);
                    sum = surplus[rest] + moves[i];
                }
            }
            surplus[set] = sum;
            rings[set] = sum == 0 ? most + 1 : most;
        }
    }

    /** Heirs to courts, court by court, so that they please most together. */
    private static final class Wants {
        private final int[] liked = new int[MOST_COURTS];
        // By court and set of dolls given to the courts ahead: the most that this court and the later ones can have.
        private final int[][] best = new int[MOST_COURTS + 1][1 << MOST_DOLLS];

        void weigh(Roll roll, Scene scene) {
            Arrays.fill(liked, 0);
            for (int d = 0; d < roll.dolls; d++) {
                liked[roll.home[d]] |= scene.signs[d];
            }
            Arrays.fill(best[roll.courts], 0);
            for (int c = roll.courts - 1; c >= 0; c--) {
                for (int given = 0; given < (1 << roll.dolls); given++) {
                    // The courts ahead can't have taken more dolls than they are.
                    if (Integer.bitCount(given) <= c) {
                        best[c][given] = mostFrom(roll, scene, c, given);
                    }
                }
            }
        }

        private int mostFrom(Roll roll, Scene scene, int c, int given) {
            int most = best[c + 1][given];
            for (int d = 0; d < roll.dolls; d++) {
                if (((given >> d) & 1) == 0) {
                    most = Math.max(most, pleasure(scene, c, d) + best[c + 1][given | (1 << d)]);
                }
            }
            return most;
        }

        private int pleasure(Scene scene, int c, int d) {
            return Integer.bitCount(scene.signs[d] & liked[c]);
        }

        int most() {
            return best[0][0];
        }

        int dollOf(Roll roll, Scene scene, int court) {
            int given = 0;
            int taken = NONE;
            for (int c = 0; c <= court; c++) {
                taken = leastTaken(roll, scene, c, given);
                if (taken != NONE) {
                    given |= 1 << taken;
                }
            }
            return taken;
        }

        private int leastTaken(Roll roll, Scene scene, int c, int given) {
            for (int d = 0; d < roll.dolls; d++) {
                boolean free = ((given >> d) & 1) == 0;
                if (free && pleasure(scene, c, d) + best[c + 1][given | (1 << d)] == best[c][given]) {
                    return d;
                }
            }
            return NONE;
        }
    }
}

import java.math.BigInteger;
import java.util.ArrayDeque;
import java.util.ArrayList;
import java.util.Arrays;
import java.util.HashMap;
import java.util.List;
import java.util.Map;

/** The document once more, slowly and by trying all: what DrivenRunsTest holds DollCongress against. */
final class Oracle {
    static final int NONE = -1, UNKNOWN = -1000000001, OUTSIDE = -1000000002, NOT = -1000000003, FULL = -1000000004;

    private record Token(char sort, int place, String figures) { }

    private record Fault(int number, int place) { }

    private static final class Doll {
        int kind, home, told;
    }

    private static final class State {
        int[] at = new int[8], signs = new int[8], warm = new int[8], tears = new int[8];
        boolean[] up = new boolean[8];
        int years, audiences, held;

        State copy() {
            State s = new State();
            s.at = at.clone();
            s.signs = signs.clone();
            s.warm = warm.clone();
            s.tears = tears.clone();
            s.up = up.clone();
            s.years = years;
            s.audiences = audiences;
            s.held = held;
            return s;
        }
    }

    private StringBuilder text = new StringBuilder();
    private int faultPlace = NONE;
    private List<Integer> votes = new ArrayList<>();
    private List<Doll> dolls = new ArrayList<>();
    private int pattern, quota;
    private State now = new State();
    private final List<State> past = new ArrayList<>();
    private final List<int[]> book = new ArrayList<>();
    private final State[] images = new State[2];
    private final long[] imageSeeds = new long[2];
    private long seed;

    // ---- the text: tokens first, then the grammar over them

    private static List<Token> tokens(String text) {
        List<Token> list = new ArrayList<>();
        for (int i = 0; i < text.length(); ) {
            char letter = text.charAt(i);
            int j = i + 1;
            if (letter >= '0' && letter <= '9') {
                while (j < text.length() && text.charAt(j) >= '0' && text.charAt(j) <= '9') {
                    j++;
                }
                list.add(new Token('n', i, text.substring(i, j)));
            } else if (letter != ' ') {
                list.add(new Token(letter == 'n' ? '?' : letter, i, ""));
            }
            i = j;
        }
        list.add(new Token('$', text.length(), ""));
        return list;
    }

    private static boolean within(Token t, int least, int greatest) {
        if (t.figures.length() > 3) {
            return false;
        }
        int value = Integer.parseInt(t.figures);
        return value >= least && value <= greatest;
    }

    private static final class Reading {
        List<Integer> votes = new ArrayList<>();
        List<Doll> dolls = new ArrayList<>();
        int pattern = -1, quota = -1;
    }

    /** Each clause is a row of what may stand: "n" with bounds, or a mark. */
    private static Fault read(String text, Reading r) {
        List<Token> ts = tokens(text);
        int i = 0;
        // '$' may itself be a letter of the text: the end is told by its place.
        while (ts.get(i).place < text.length()) {
            Token word = ts.get(i++);
            if (r.votes.isEmpty() && word.sort != 'c') {
                return new Fault(1, word.place);
            }
            if ("cdsq".indexOf(word.sort) < 0) {
                return new Fault(1, word.place);
            }
            boolean again = word.sort == 'c' && !r.votes.isEmpty() || word.sort == 's' && r.pattern >= 0
                    || word.sort == 'q' && r.quota >= 0 || word.sort == 'd' && r.dolls.size() == 8;
            if (again) {
                return new Fault(3, word.place);
            }
            if (word.sort == 'c') {
                boolean more = true;
                while (more) {
                    Token n = ts.get(i++);
                    if (n.sort != 'n') {
                        return new Fault(1, n.place);
                    }
                    if (!within(n, 1, 9)) {
                        return new Fault(2, n.place);
                    }
                    r.votes.add(Integer.parseInt(n.figures));
                    Token mark = ts.get(i++);
                    more = mark.sort == ',';
                    if (more && r.votes.size() == 7 || !more && (mark.sort != ';' || r.votes.size() == 1)) {
                        return new Fault(1, mark.place);
                    }
                }
                continue;
            }
            int[][] bounds = word.sort == 'd' ? new int[][] {{0, 3}, {0, r.votes.size() - 1}, {0, 63}}
                    : word.sort == 's' ? new int[][] {{0, 63}} : new int[][] {{1, 63}};
            int[] values = new int[3];
            for (int k = 0; k < bounds.length; k++) {
                Token n = ts.get(i++);
                if (n.sort != 'n') {
                    return new Fault(1, n.place);
                }
                if (!within(n, bounds[k][0], bounds[k][1])) {
                    return new Fault(2, n.place);
                }
                values[k] = Integer.parseInt(n.figures);
            }
            Token end = ts.get(i++);
            if (end.sort != ';') {
                return new Fault(1, end.place);
            }
            if (word.sort == 'd') {
                Doll d = new Doll();
                d.kind = values[0];
                d.home = values[1];
                d.told = values[2];
                r.dolls.add(d);
            } else if (word.sort == 's') {
                r.pattern = values[0];
            } else {
                r.quota = values[0];
            }
        }
        return null;
    }

    int feed(int letter) {
        if (letter < 0 || letter > 255) {
            return OUTSIDE;
        }
        if (text.length() == 240) {
            return FULL;
        }
        text.append((char) letter);
        return text.length();
    }

    int congress() {
        Reading r = new Reading();
        Fault f = read(text.toString(), r);
        text = new StringBuilder();
        faultPlace = f == null ? NONE : f.place;
        if (f != null) {
            return -10 - f.number;
        }
        votes = r.votes;
        dolls = r.dolls;
        pattern = Math.max(r.pattern, 0);
        quota = r.quota >= 0 ? r.quota : votes.isEmpty() ? 0 : votesOf(all()) / 2 + 1;
        now = new State();
        for (int d = 0; d < dolls.size(); d++) {
            now.at[d] = dolls.get(d).home;
            now.signs[d] = dolls.get(d).told;
            now.up[d] = true;
        }
        past.clear();
        book.clear();
        Arrays.fill(images, null);
        return dolls.size();
    }

    int fault() {
        return faultPlace;
    }

    private int all() {
        return (1 << votes.size()) - 1;
    }

    private int votesOf(int set) {
        int sum = 0;
        for (int c = 0; c < votes.size(); c++) {
            sum += (set >> c & 1) * votes.get(c);
        }
        return sum;
    }

    private boolean isDoll(int d) {
        return d >= 0 && d < dolls.size();
    }

    private boolean isCourt(int c) {
        return c >= 0 && c < votes.size();
    }

    private boolean nods(int c) {
        boolean up = false, wood = false;
        for (int d = 0; d < dolls.size(); d++) {
            if (now.at[d] == c && now.up[d]) {
                up = true;
                wood |= dolls.get(d).kind == 1;
            }
        }
        return up && !wood;
    }

    int told(int what) {
        int n = dolls.size();
        int set = 0;
        switch (what) {
            case 0: return votes.size();
            case 1: return n;
            case 2: return text.length();
            case 3: return pattern;
            case 4: return quota;
            case 5: return now.years;
            case 6:
                for (int d = 0; d < n; d++) {
                    set += now.up[d] ? 1 << d : 0;
                }
                return set;
            case 7:
                for (int d = 0; d < n; d++) {
                    set += now.at[d] != dolls.get(d).home ? 1 << d : 0;
                }
                return set;
            case 8:
                for (int d = 0; d < n; d++) {
                    set += now.signs[d] == pattern ? 1 << d : 0;
                }
                return set;
            case 9:
                for (int c = 0; c < votes.size(); c++) {
                    set += nods(c) ? 1 << c : 0;
                }
                return set;
            case 10: return now.audiences;
            case 11: return now.held;
            case 12: return tell();
            case 13: return votes.isEmpty() ? NONE : fewest(true);
            case 14: return votes.isEmpty() ? NONE : fewest(false);
            case 15: return book.size();
            case 16: return past.size();
            default: return OUTSIDE;
        }
    }

    private int tell() {
        for (int count = 0; count <= 6; count++) {
            for (int s = 0; s < 64; s++) {
                if (Integer.bitCount(s) != count) {
                    continue;
                }
                boolean good = true;
                for (int d = 0; d < dolls.size(); d++) {
                    for (int e = 0; e < dolls.size(); e++) {
                        boolean alike = (now.signs[d] & s) == (now.signs[e] & s);
                        good &= now.signs[d] == now.signs[e] || !alike;
                    }
                }
                if (good) {
                    return s;
                }
            }
        }
        throw new IllegalStateException();
    }

    private int fewest(boolean blocks) {
        for (int count = 0; count <= votes.size(); count++) {
            for (int s = 0; s <= all(); s++) {
                boolean good = blocks ? votesOf(all() & ~s) < quota : votesOf(s) >= quota;
                if (Integer.bitCount(s) == count && good) {
                    return s;
                }
            }
        }
        return NONE;
    }

    int doll(int d, int what) {
        if (!isDoll(d)) {
            return UNKNOWN;
        }
        if (what < 0 || what > 6) {
            return OUTSIDE;
        }
        return new int[] {dolls.get(d).kind, dolls.get(d).home, now.at[d], now.signs[d], now.warm[d], now.up[d] ? 1 : 0,
            now.tears[d]}[what];
    }

    int court(int c, int what) {
        if (!isCourt(c)) {
            return UNKNOWN;
        }
        if (what < 0 || what > 4) {
            return OUTSIDE;
        }
        if (what == 4) {
            return power(c, new ArrayList<>());
        }
        int at = 0, belong = 0;
        for (int d = 0; d < dolls.size(); d++) {
            at += now.at[d] == c ? 1 << d : 0;
            belong += dolls.get(d).home == c ? 1 << d : 0;
        }
        return new int[] {votes.get(c), at, belong, nods(c) ? 1 : 0}[what];
    }

    /** Goes through all orders one by one. */
    private int power(int c, List<Integer> order) {
        if (order.size() == votes.size()) {
            int sum = 0;
            for (int k : order) {
                sum += votes.get(k);
                if (sum >= quota) {
                    return k == c ? 1 : 0;
                }
            }
            return 0;
        }
        int count = 0;
        for (int k = 0; k < votes.size(); k++) {
            if (!order.contains(k)) {
                order.add(k);
                count += power(c, order);
                order.remove(order.size() - 1);
            }
        }
        return count;
    }

    // ---- what is done

    private void remember() {
        past.add(now.copy());
        if (past.size() > 16) {
            past.remove(0);
        }
    }

    int post(int d, int c) {
        if (!isDoll(d) || !isCourt(c)) {
            return UNKNOWN;
        }
        if (now.at[d] == c) {
            return NOT;
        }
        remember();
        int was = now.at[d];
        now.at[d] = c;
        now.up[d] = false;
        return was;
    }

    private void mixNow(int d, int e) {
        int c = now.at[d];
        now.at[d] = now.at[e];
        now.at[e] = c;
        now.up[d] = false;
        now.up[e] = false;
    }

    int mix(int d, int e) {
        if (!isDoll(d) || !isDoll(e) || d == e) {
            return UNKNOWN;
        }
        remember();
        mixNow(d, e);
        return now.at[d];
    }

    int lay(int d, boolean is) {
        if (!isDoll(d)) {
            return UNKNOWN;
        }
        remember();
        boolean was = now.up[d];
        now.up[d] = !is;
        return was ? 0 : 1;
    }

    int mask(int d, int signs) {
        if (!isDoll(d)) {
            return UNKNOWN;
        }
        if (signs < 0 || signs > 63) {
            return OUTSIDE;
        }
        remember();
        int was = now.signs[d];
        now.signs[d] = signs;
        return was;
    }

    private int audienceNow() {
        boolean holds = votesOf(told(9)) >= quota;
        now.audiences++;
        now.held += holds ? 1 : 0;
        return holds ? 1 : 0;
    }

    int audience() {
        if (votes.isEmpty()) {
            return NOT;
        }
        remember();
        return audienceNow();
    }

    private void yearOf(State s) {
        for (int d = 0; d < dolls.size(); d++) {
            int kind = dolls.get(d).kind;
            int more = kind == 0 ? 1 : kind == 1 ? 0 : kind == 2 ? 3 : s.years % 2 == 0 ? 2 : 0;
            s.warm[d] = Math.max(0, Math.min(99, s.warm[d] + (s.up[d] ? more : -1)));
            if (kind == 2 && s.up[d] && s.warm[d] >= 20) {
                s.tears[d] = Math.min(999999, s.tears[d] + 1);
            }
        }
        s.years++;
    }

    private int yearsRefused(int n) {
        return n < 1 || n > 60 ? OUTSIDE : votes.isEmpty() ? NOT : now.years > 9000 ? FULL : 0;
    }

    int year(int n) {
        int refused = yearsRefused(n);
        if (refused != 0) {
            return refused;
        }
        remember();
        for (int i = 0; i < n; i++) {
            yearOf(now);
        }
        return now.years;
    }

    private int draw(int n) {
        seed = BigInteger.valueOf(seed).multiply(BigInteger.valueOf(1103515245)).add(BigInteger.valueOf(12345))
            .mod(BigInteger.ONE.shiftLeft(31)).longValueExact();
        return (int) (seed / 65536 % n);
    }

    int drift(int n) {
        int refused = yearsRefused(n);
        if (refused != 0) {
            return refused;
        }
        remember();
        for (int i = 0; i < n; i++) {
            if (!dolls.isEmpty()) {
                int deed = draw(5);
                int d = draw(dolls.size());
                if (deed == 0) {
                    int c = draw(votes.size());
                    if (c != now.at[d]) {
                        now.at[d] = c;
                        now.up[d] = false;
                    }
                } else if (deed == 1) {
                    int e = draw(dolls.size());
                    if (e != d) {
                        mixNow(d, e);
                    }
                } else if (deed == 4) {
                    audienceNow();
                } else {
                    now.up[d] = deed == 2;
                }
            }
            yearOf(now);
        }
        return now.years;
    }

    int undo() {
        if (past.isEmpty()) {
            return NOT;
        }
        now = past.remove(past.size() - 1);
        return past.size();
    }

    // ---- tried

    private State behind(int n) {
        State s = now.copy();
        for (int i = 0; i < n; i++) {
            yearOf(s);
        }
        return s;
    }

    int warm(int d, int n) {
        return !isDoll(d) ? UNKNOWN : n < 0 || n > 100 ? OUTSIDE : behind(n).warm[d];
    }

    int warmest(int n) {
        if (n < 0 || n > 100) {
            return OUTSIDE;
        }
        State s = behind(n);
        for (int v = 99; v >= 0; v--) {
            for (int d = 0; d < dolls.size(); d++) {
                if (s.warm[d] == v) {
                    return d;
                }
            }
        }
        return NONE;
    }

    int first(int d, int v) {
        if (!isDoll(d)) {
            return UNKNOWN;
        }
        if (v < 0 || v > 99) {
            return OUTSIDE;
        }
        State s = now.copy();
        for (int n = 0; n <= 200; n++) {
            if (s.warm[d] >= v) {
                return n;
            }
            yearOf(s);
        }
        return NONE;
    }

    private static String key(int[] at, int n) {
        return Arrays.toString(Arrays.copyOf(at, n));
    }

    /** Goes backwards from all right, over all arrangements; how far each is. */
    private Map<String, Integer> distances() {
        int n = dolls.size();
        int[] right = new int[8];
        for (int d = 0; d < n; d++) {
            right[d] = dolls.get(d).home;
        }
        Map<String, Integer> far = new HashMap<>();
        ArrayDeque<int[]> queue = new ArrayDeque<>();
        far.put(key(right, n), 0);
        queue.add(right);
        while (!queue.isEmpty()) {
            int[] at = queue.remove();
            int here = far.get(key(at, n));
            for (int d = 0; d < n; d++) {
                for (int e = d + 1; e < n; e++) {
                    int[] next = at.clone();
                    next[d] = at[e];
                    next[e] = at[d];
                    if (far.putIfAbsent(key(next, n), here + 1) == null) {
                        queue.add(next);
                    }
                }
            }
        }
        return far;
    }

    int swaps(int what) {
        if (what < 0 || what > 1) {
            return OUTSIDE;
        }
        int n = dolls.size();
        Map<String, Integer> far = distances();
        Integer here = far.get(key(now.at, n));
        if (what == 0) {
            return here == null ? NONE : here;
        }
        if (here == null || here == 0) {
            return NONE;
        }
        for (int d = 0; d < n; d++) {
            for (int e = d + 1; e < n; e++) {
                int[] next = now.at.clone();
                next[d] = now.at[e];
                next[e] = now.at[d];
                if (far.get(key(next, n)) == here - 1) {
                    return 10 * d + e;
                }
            }
        }
        throw new IllegalStateException();
    }

    int close(int n) {
        if (n < 0 || n > 6) {
            return OUTSIDE;
        }
        int set = 0;
        for (int d = 0; d < dolls.size(); d++) {
            int unlike = 0;
            for (int k = 0; k < 6; k++) {
                unlike += (now.signs[d] >> k & 1) != (pattern >> k & 1) ? 1 : 0;
            }
            set += unlike <= n ? 1 << d : 0;
        }
        return set;
    }

    int look(int signs, int what) {
        if (signs < 0 || signs > 63 || what < 0 || what > 1) {
            return OUTSIDE;
        }
        List<Integer> left = new ArrayList<>();
        int set = 0;
        for (int d = 0; d < dolls.size(); d++) {
            if ((now.signs[d] & signs) == (pattern & signs)) {
                left.add(d);
                set += 1 << d;
            }
        }
        if (what == 0) {
            return set;
        }
        for (int part = 0; part < left.size(); part++) {
            for (int k = 0; k < 6; k++) {
                int have = 0;
                for (int d : left) {
                    have += now.signs[d] >> k & 1;
                }
                if (Math.max(have, left.size() - have) == part) {
                    return k;
                }
            }
        }
        return NONE;
    }

    int agreed(int set) {
        if ((set & ~all()) != 0) {
            return UNKNOWN;
        }
        return !votes.isEmpty() && votesOf(set) >= quota ? 1 : 0;
    }

    private static final String[] LIKINGS = {"012", "021", "102", "120", "201", "210"};

    private int duel(int a, int b) {
        int forA = 0, forB = 0;
        for (int c = 0; c < votes.size(); c++) {
            String liking = LIKINGS[c % 6];
            if (liking.indexOf('0' + a) < liking.indexOf('0' + b)) {
                forA += votes.get(c);
            } else {
                forB += votes.get(c);
            }
        }
        return forA > forB ? a : forB > forA ? b : Math.min(a, b);
    }

    int agenda(int a, int b) {
        if (a < 0 || a > 2 || b < 0 || b > 2 || a == b) {
            return OUTSIDE;
        }
        return votes.isEmpty() ? NOT : duel(duel(a, b), 3 - a - b);
    }

    int agendaFor(int thing) {
        if (thing < 0 || thing > 2) {
            return OUTSIDE;
        }
        if (votes.isEmpty()) {
            return NOT;
        }
        return agenda(0, 1) == thing ? 1 : agenda(0, 2) == thing ? 2 : agenda(1, 2) == thing ? 12 : NONE;
    }

    private int bestSum;
    private int[] bestGift;

    /** Goes through all gifts in the document's order, so the first of the best is kept. */
    private void giveAll(int c, int[] gift, int sum) {
        if (c == votes.size()) {
            if (sum > bestSum) {
                bestSum = sum;
                bestGift = gift.clone();
            }
            return;
        }
        for (int d = 0; d <= dolls.size(); d++) {
            boolean free = true;
            for (int k = 0; k < c; k++) {
                free &= d == dolls.size() || gift[k] != d;
            }
            if (free) {
                gift[c] = d == dolls.size() ? NONE : d;
                giveAll(c + 1, gift, sum + (d == dolls.size() ? 0 : pleases(d, c)));
            }
        }
    }

    private int pleases(int d, int c) {
        int count = 0;
        for (int k = 0; k < 6; k++) {
            boolean any = false;
            for (int e = 0; e < dolls.size(); e++) {
                any |= dolls.get(e).home == c && (now.signs[e] >> k & 1) == 1;
            }
            count += any && (now.signs[d] >> k & 1) == 1 ? 1 : 0;
        }
        return count;
    }

    int wanted(int c) {
        if (c != NONE && !isCourt(c)) {
            return UNKNOWN;
        }
        bestSum = -1;
        giveAll(0, new int[votes.size()], 0);
        return c == NONE ? bestSum : bestGift[c];
    }

    int know(int c, int n) {
        if (!isCourt(c)) {
            return UNKNOWN;
        }
        if (n < NONE || n > 20) {
            return OUTSIDE;
        }
        int size = votes.size();
        boolean[] knows = new boolean[size];
        knows[c] = true;
        for (int i = 0; i <= 1000; i++) {
            int set = 0;
            for (int k = 0; k < size; k++) {
                set += knows[k] ? 1 << k : 0;
            }
            if (i == n || n == NONE && set == all()) {
                return n == NONE ? i : set;
            }
            boolean[] next = knows.clone();
            for (int k = 0; k < size; k++) {
                if (knows[k]) {
                    next[(k + 1) % size] = true;
                    next[(k + 3) % size] = true;
                }
            }
            knows = next;
        }
        throw new IllegalStateException();
    }

    int parcels(int n, int q) {
        if (n < 0 || n > 60 || q < 0 || q > 100) {
            return OUTSIDE;
        }
        BigInteger odds = BigInteger.valueOf(1000000000);
        for (int i = 0; i < n; i++) {
            odds = odds.multiply(BigInteger.valueOf(100 - q)).divide(BigInteger.valueOf(100));
        }
        return odds.intValueExact();
    }

    // ---- the book, draws, images

    int write(int d, int c) {
        if (!isDoll(d) || !isCourt(c)) {
            return UNKNOWN;
        }
        if (book.size() == 15) {
            return FULL;
        }
        book.add(new int[] {d, c});
        return book.size();
    }

    int tear() {
        int had = book.size();
        book.clear();
        return had;
    }

    int judge() {
        for (int[] entry : book) {
            if (now.at[entry[0]] != entry[1]) {
                return book.indexOf(entry);
            }
        }
        return NONE;
    }

    int seed(int v) {
        if (v < 0) {
            return OUTSIDE;
        }
        int was = (int) seed;
        seed = v;
        return was;
    }

    int keep(int i) {
        if (i != 0 && i != 1) {
            return UNKNOWN;
        }
        images[i] = now.copy();
        imageSeeds[i] = seed;
        past.clear();
        return 1;
    }

    int goBack(int i) {
        if (i != 0 && i != 1) {
            return UNKNOWN;
        }
        if (images[i] == null) {
            return NOT;
        }
        now = images[i].copy();
        seed = imageSeeds[i];
        past.clear();
        return 1;
    }
}

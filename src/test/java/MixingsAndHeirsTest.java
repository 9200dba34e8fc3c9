import java.util.Random;

/** SWAPS and WANTED, held against the trying of all, where dolls are mixed and like one another. */
public final class MixingsAndHeirsTest {
    private static final Check check = new Check("MixingsAndHeirsTest");

    public static void main(String[] args) {
        for (int run = 0; run < 600; run++) {
            mixed(new Random(run), 2 + run % 6, 1 + run % 6, run);
        }
        for (int run = 0; run < 12; run++) {
            mixed(new Random(1000 + run), 4 + run % 4, 8, run);
        }
        for (int run = 0; run < 600; run++) {
            given(new Random(2000 + run), 2 + run % 4, run % 7, run);
        }
        for (int run = 0; run < 6; run++) {
            given(new Random(3000 + run), 7, 7 + run % 2, run);
        }
        check.end();
    }

    private static String text(Random random, int courts, int dolls, int signs) {
        StringBuilder text = new StringBuilder("c1");
        for (int c = 1; c < courts; c++) {
            text.append(",1");
        }
        text.append(';');
        for (int d = 0; d < dolls; d++) {
            text.append("d0 ").append(random.nextInt(courts)).append(' ').append(random.nextInt(64) & signs).append(';');
        }
        return text.toString();
    }

    private static Oracle oracle(String text) {
        Oracle o = new Oracle();
        for (int i = 0; i < text.length(); i++) {
            o.feed(text.charAt(i));
        }
        o.congress();
        return o;
    }

    private static void mixed(Random random, int courts, int dolls, int run) {
        String text = text(random, courts, dolls, 63);
        DollCongress x = Check.made(text);
        Oracle o = oracle(text);
        int rounds = dolls == 8 ? 2 : 6;
        for (int round = 0; round < rounds; round++) {
            for (int i = 0; i < 4; i++) {
                int d = random.nextInt(dolls), e = random.nextInt(dolls);
                check.due("mix", x.mix(d, e), o.mix(d, e));
            }
            check.due("run " + run + " " + text + " swaps(0)", x.swaps(0), o.swaps(0));
            check.due("run " + run + " " + text + " swaps(1)", x.swaps(1), o.swaps(1));
        }
        followed(x, text);
    }

    /** A row of the least openings puts all right in as many mixings as were told. */
    private static void followed(DollCongress x, String text) {
        for (int left = x.swaps(0); left > 0; left--) {
            int pair = x.swaps(1);
            x.mix(pair / 10, pair % 10);
            check.due("followed " + text, x.swaps(0), left - 1);
        }
        check.due("all right " + text, x.told(7), 0);
    }

    private static void given(Random random, int courts, int dolls, int run) {
        String text = text(random, courts, dolls, 1 + random.nextInt(63));
        DollCongress x = Check.made(text);
        Oracle o = oracle(text);
        if (dolls > 0) {
            int d = random.nextInt(dolls), signs = random.nextInt(64);
            check.due("mask", x.mask(d, signs), o.mask(d, signs));
        }
        for (int c = -1; c < courts; c++) {
            check.due("run " + run + " " + text + " wanted(" + c + ")", x.wanted(c), o.wanted(c));
        }
    }
}

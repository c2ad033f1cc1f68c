import java.util.Arrays;
import java.util.Random;

/** Long runs of calls, drawn by a fixed seed, on the class and on the model: each answer must be the same. */
public final class ModelTest {
    private static final int RUNS = 600;
    private static final int CALLS = 512;
    // least and most of each number of each call, as the document tells them
    private static final int[][] RANGES = {
        {32, 126}, {}, {}, {}, {0, 10, 0, 10, 0, 1}, {-5, 5, -5, 5}, {0, 9}, {0, 2, 1, 99}, {}, {0, 10, 0, 10},
        {0, 10, 0, 10}, {0, 10, 0, 10}, {0, 99}, {2, 4, 0, 3, 0, 1}, {0, 9, 0, 1}, {0, 10, 0, 10, 0, 3}, {},
        {0, 10, 0, 10, 1, 11}, {0, 10, 0, 10, 0, 3}, {-1, 9, 0, 6}, {1, 20, -1, 9, 0, 6}, {0, 3, 0, 990},
        {0, 3, 0, 990}, {-1, 7, 0, 6}, {0, 10}};
    private static final int[] ODD = {Integer.MIN_VALUE, Integer.MAX_VALUE, -1, -2, -6, 6, 7, 11, 12, 21, 31, 127,
        100, 991, 256 + 'g', 65536 + 'g', 1 << 30, -100};

    private final Due due = new Due("ModelTest");
    private final Random random;
    private final Calls stencil = new Calls(new EdgeStencil());
    private final Calls model = new Calls(new Model());
    private final int run;
    private int left = CALLS;
    private static int wrongRuns = 0;
    private static int answers = 0;

    private ModelTest(int run) {
        this.run = run;
        this.random = new Random(7919L * run + 1);
    }

    public static void main(String[] args) {
        Due all = new Due("ModelTest");
        for (int run = 0; run < RUNS && wrongRuns < 5; run++) {
            boolean same = new ModelTest(run).runs();
            wrongRuns += same ? 0 : 1;
            all.holds("run " + run + " as the model's", same);
        }
        System.out.println("ModelTest: " + answers + " calls compared");
        all.end();
    }

    private boolean runs() {
        boolean same = true;
        while (left > 0 && same) {
            int draw = random.nextInt(100);
            if (draw < 2) {
                same = tells(someText());
            } else if (draw < 4) {
                same = asks();
            } else if (draw < 5) {
                same = rankings();
            } else {
                same = calls(someCall());
            }
        }
        return same;
    }

    private boolean calls(int call, int... numbers) {
        if (left == 0) {
            return true;
        }
        left--;
        answers++;
        int[] n = new int[3];
        if (numbers.length == 0) {
            for (int i = 0; i < RANGES[call].length / 2; i++) {
                n[i] = some(RANGES[call][2 * i], RANGES[call][2 * i + 1]);
            }
            if (call == 0 && random.nextInt(3) == 0) {
                n[0] = "grdm;#.0123456789abcdefghijk".charAt(random.nextInt(28));
            }
        } else {
            System.arraycopy(numbers, 0, n, 0, numbers.length);
        }
        int want = model.call(call, n);
        int got = stencil.call(call, n);
        String told = "run " + run + ", call " + (CALLS - left) + ", " + Calls.NAMES[call] + Arrays.toString(n);
        due.is(told, want, got);
        return want == got;
    }

    private int some(int least, int most) {
        int draw = random.nextInt(60);
        if (draw == 0) {
            return ODD[random.nextInt(ODD.length)];
        }
        if (draw == 1) {
            return least - 1;
        }
        if (draw == 2) {
            return most + 1;
        }
        if (draw < 6) {
            return random.nextBoolean() ? least : most;
        }
        return least + random.nextInt(most - least + 1);
    }

    // A lay amid changes would end what can be undone too often, so it is drawn less than the others.
    private int someCall() {
        int call = random.nextInt(Calls.NAMES.length);
        return call < 4 && random.nextInt(8) > 0 ? 4 + random.nextInt(21) : call;
    }

    private boolean tells(String text) {
        boolean same = calls(1, 0);
        for (int i = 0; i < text.length() && same; i++) {
            same = calls(0, text.charAt(i));
        }
        return same && calls(2, 0) && calls(3, 0) && asks();
    }

    // All that can be asked of the state in a few calls.
    private boolean asks() {
        boolean same = true;
        for (int what = -1; what <= 11 && same; what++) {
            same = calls(24, what);
        }
        return same && calls(2, 0) && calls(16, 0) && calls(23, -1, 0);
    }

    private boolean rankings() {
        boolean same = true;
        int a = 1 + random.nextInt(6);
        int i = random.nextInt(10);
        for (int what = 0; what <= 6 && same; what++) {
            same = calls(19, i, what) && calls(20, a, i, what) && calls(23, i % 8, what);
        }
        return same && calls(20, a, -1, 0) && calls(19, -1, 0);
    }

    private String someText() {
        int w = 4 + random.nextInt(8);
        int h = 4 + random.nextInt(8);
        int dense = 1 + random.nextInt(9);
        StringBuilder text = new StringBuilder("g").append(Integer.toString(w, 12)).append(Integer.toString(h, 12));
        text.append(';');
        int items = random.nextInt(h + 8) + 1;
        int spanned = random.nextInt(5) + 1;
        for (int item = 0; item < items; item++) {
            int kind = random.nextInt(10);
            if (kind < 5) {
                text.append('r');
                for (int x = 0; x < w; x++) {
                    text.append(random.nextInt(10) < dense ? '#' : '.');
                }
                text.append(';');
            } else if (kind < 9) {
                text.append('d').append(someOffset(spanned)).append(someOffset(spanned)).append(';');
            } else {
                text.append('m').append(random.nextInt(3)).append(random.nextInt(10)).append(random.nextInt(10));
                text.append(';');
            }
        }
        return random.nextInt(3) == 0 ? spoiled(text) : text.toString();
    }

    private char someOffset(int spanned) {
        return (char) ('f' - spanned + random.nextInt(2 * spanned + 1));
    }

    private String spoiled(StringBuilder text) {
        int place = random.nextInt(text.length());
        switch (random.nextInt(3)) {
            case 0 -> text.setCharAt(place, (char) (32 + random.nextInt(95)));
            case 1 -> text.deleteCharAt(place);
            default -> text.insert(place, "grdm;#.059abkl:/`".charAt(random.nextInt(17)));
        }
        return text.toString();
    }
}

import java.util.Random;

/** Runs of calls by chance (the same ones each time), compared with the model. */
public final class ModelTest {
    private static final String[] CALLS = {"write", "wipe", "fault", "lay", "step", "younger", "pass", "put", "quarrel",
        "cats", "undo", "behind", "goes", "least", "round", "best", "help", "see", "forget", "within", "isCats", "was",
        "snows", "year", "keep", "back", "count"};
    /** What each number of a call is at most, when it is one that is told. */
    private static final int[][] MOST = {{126}, {}, {}, {}, {8, 3}, {7, 6}, {20}, {8, 40}, {7, 1}, {8, 9}, {}, {30, 7}, {7},
        {8, 20}, {}, {99, 20, 8}, {1}, {8, 40}, {}, {8, 1}, {8}, {7, 20, 1}, {7, 8, 10, 1}, {9999, 60, 1}, {}, {}, {11}};
    private static final int[] FAR = {-1, -2, 100, 10000, Integer.MAX_VALUE, Integer.MIN_VALUE};
    private static final int RUNS = Integer.getInteger("runs", 150);

    private final Random chance;
    private final YoungerMilk milk = new YoungerMilk();
    private final Model model = new Model();
    private final StringBuilder calls = new StringBuilder();
    /** How many calls of each name were answered by none of BAD, NO, FULL, NONE. */
    private final int[] answers;
    private boolean same = true;
    private int left = 512;

    private ModelTest(long run, int[] answers) {
        chance = new Random(run);
        this.answers = answers;
    }

    public static void main(String[] args) {
        int[] answers = new int[CALLS.length];
        for (int run = 0; run < RUNS; run++) {
            new ModelTest(run, answers).go();
        }
        for (int i = 0; i < CALLS.length; i++) {
            Due.is("answers of " + CALLS[i] + " that were none of BAD, NO, FULL, NONE", answers[i] > 0 ? 1 : 0, 1);
        }
        Due.end();
    }

    private void go() {
        if (chance.nextInt(8) > 0) {
            layText(text());
        }
        boolean mostlyActs = chance.nextBoolean();
        while (same && left > 0) {
            int which = chance.nextInt(20) == 0 ? chance.nextInt(5) : 4 + chance.nextInt(CALLS.length - 4);
            if (mostlyActs && chance.nextBoolean()) {
                which = 6 + chance.nextInt(4);
            }
            if (CALLS[which].equals("lay") || CALLS[which].equals("wipe")) {
                layText(text());
                continue;
            }
            int[] n = numbers(which);
            // the model tries each way, which takes too long where there are many steps
            if (CALLS[which].equals("best") && model.answer("count", 0, 0, 0, 0) > 4) {
                continue;
            }
            call(which, n);
        }
    }

    private int[] numbers(int which) {
        int[] n = new int[4];
        for (int i = 0; i < MOST[which].length; i++) {
            int most = MOST[which][i];
            if (most == 8 && (i == 0 || which == 15)) {
                most = model.answer("count", 0, 0, 0, 0) - chance.nextInt(2);
            } else if (most == 7) {
                most = model.answer("count", 1, 0, 0, 0) - (chance.nextInt(8) > 0 ? 1 : 0);
            }
            if (CALLS[which].equals("best") && i == 0 && chance.nextBoolean()) {
                most = 12;
            }
            n[i] = chance.nextInt(most + (chance.nextInt(9) == 0 ? 2 : 1));
            if (which == 15 && i == 2) {
                n[i]--;
            }
            if (chance.nextInt(60) == 0) {
                n[i] = FAR[chance.nextInt(FAR.length)];
            }
        }
        if (CALLS[which].equals("see") && chance.nextInt(3) > 0) {
            int would = model.answer("step", n[0], 2, 0, 0);
            n[1] = would >= 0 ? would : n[1];
        }
        if (CALLS[which].equals("pass") && chance.nextInt(3) > 0) {
            n[0] = 1;
        }
        return n;
    }

    private void call(int which, int... n) {
        if (left-- <= 0) {
            return;
        }
        String name = CALLS[which];
        calls.append(' ').append(name).append(java.util.Arrays.toString(n));
        int got = Calls.answer(milk, name, n[0], n[1], n[2], n[3]);
        int want = model.answer(name, n[0], n[1], n[2], n[3]);
        if (got != want) {
            same = false;
            Due.is("behind" + calls + " the last call", got, want);
        }
        answers[which] += got >= 0 ? 1 : 0;
    }

    private void layText(String text) {
        call(1, 0, 0, 0, 0);
        for (int i = 0; i < text.length(); i++) {
            // a text is told as one
            milk.write(text.charAt(i));
            model.answer("write", text.charAt(i), 0, 0, 0);
            left--;
        }
        calls.append(' ').append(text);
        call(2, 0, 0, 0, 0);
        call(3, 0, 0, 0, 0);
    }

    /** A text, now and then with a fault. */
    private String text() {
        StringBuilder text = new StringBuilder();
        int steps = chance.nextInt(3) > 0 ? 1 + chance.nextInt(4) : 1 + chance.nextInt(9);
        text.append('s').append(steps).append(';');
        int items = 1 + chance.nextInt(18);
        for (int i = 0; i < items; i++) {
            int x = chance.nextInt(steps);
            switch (chance.nextInt(6)) {
                case 0: text.append('c').append(x).append(',').append(chance.nextInt(41)).append(';'); break;
                case 1: text.append('c').append(x).append(',').append(chance.nextInt(12)).append(';'); break;
                case 2: text.append('k').append(x).append(',').append(chance.nextInt(10)).append(';'); break;
                case 3: text.append('h').append(1 + chance.nextInt(30)).append(';'); break;
                default:
                    text.append('y').append(chance.nextInt(4)).append(',').append(x).append(',').append(chance.nextInt(21))
                        .append(',').append(1 + chance.nextInt(9)).append(',').append(1 + chance.nextInt(20)).append(';');
                    break;
            }
        }
        if (chance.nextInt(3) == 0) {
            String letters = "sykch,;0123456789 z";
            text.setCharAt(chance.nextInt(text.length()), letters.charAt(chance.nextInt(letters.length())));
        }
        text.setLength(Math.min(text.length(), 200));
        return text.toString();
    }
}

/** What each test of the project needs: to compare answers, and to lay a text. */
final class Due {
    private static int wrong;

    private Due() {
    }

    static void is(String call, long got, long want) {
        if (got != want) {
            wrong++;
            System.out.println(call + " answered " + got + ", due is " + want);
        }
    }

    static void is(String call, String got, String want) {
        if (!got.equals(want)) {
            wrong++;
            System.out.println(call + " answered\n    " + got + ", due is\n    " + want);
        }
    }

    static YoungerMilk write(YoungerMilk milk, String text) {
        milk.wipe();
        for (int i = 0; i < text.length(); i++) {
            milk.write(text.charAt(i));
        }
        return milk;
    }

    static YoungerMilk laid(String text) {
        YoungerMilk milk = write(new YoungerMilk(), text);
        if (milk.lay() < 0) {
            wrong++;
            System.out.println("not laid: " + text);
        }
        return milk;
    }

    static void end() {
        System.out.println(wrong == 0 ? "all answers are as due" : wrong + " answers are not as due");
        if (wrong != 0) {
            System.exit(1);
        }
    }
}

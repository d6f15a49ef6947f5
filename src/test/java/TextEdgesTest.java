/** What the document names as too small, too large, empty, full of a text: a sentence a test. */
public final class TextEdgesTest {
    private static final int NONE = YoungerMilk.NONE, NO = YoungerMilk.NO, FULL = YoungerMilk.FULL, BAD = YoungerMilk.BAD;
    private static final String ONE = "y0,0,0,1,1;", EIGHT = ONE.repeat(8), FILL = "h10;";
    private static final String AT_FIRST =
            "s5;y0,0,9,2,8;y1,0,15,4,6;y2,2,7,3,5;y0,2,4,1,9;y3,3,11,2,7;y0,4,20,5,10;k2,2;k3,1;c0,5;c2,6;c3,2;c4,3;h9;";

    public static void main(String[] args) {
        atFirst();
        textIsEmptyAtFirst();
        twoHundredLetters();
        fullText();
        lettersOfAscii();
        wipedText();
        itemLetters();
        itemFigures();
        itemParts();
        steps();
        stepsWithout();
        stepsAhead();
        lastStepsCount();
        wayOfSteps();
        youngerNumbers();
        eightAtMost();
        catsNumbers();
        downNumbers();
        behindSteps();
        holds();
        without();
        lastCounts();
        firstFault();
        laidText();
        notLaid();
        laidAnew();
        Due.end();
    }

    private static void fault(String says, String text, int want) {
        Due.is(says + ": fault of " + text, Due.write(new YoungerMilk(), text).fault(), want);
    }

    /** An item as it is told with the last number that is so and with the next one, which is not. */
    private static void most(String says, String ahead, String so, String not) {
        fault(says, ahead + so, NONE);
        fault(says, ahead + not, ahead.length());
    }

    private static void atFirst() {
        String says = "P1 at first s5;y0,0,9,2,8; ..";
        YoungerMilk laid = Due.laid(AT_FIRST);
        laid.wipe();
        Due.is(says, Calls.state(new YoungerMilk()), Calls.state(laid));
    }

    private static void textIsEmptyAtFirst() {
        String says = "P1 THE TEXT is empty";
        Due.is(says + ": count(11)", new YoungerMilk().count(11), 0);
        Due.is(says + ": wipe()", new YoungerMilk().wipe(), 0);
        Due.is(says + ": write", new YoungerMilk().write('s'), 1);
        Due.is(says + ": fault()", new YoungerMilk().fault(), NONE);
        Due.is(says + ": lay()", new YoungerMilk().lay(), NO);
    }

    private static void twoHundredLetters() {
        String says = "A TEXT is letters (200 at most)";
        YoungerMilk milk = Due.write(new YoungerMilk(), EIGHT + FILL.repeat(28));
        Due.is(says + ": count(11)", milk.count(11), 200);
        Due.is(says + ": fault()", milk.fault(), NONE);
        Due.is(says + ": lay()", milk.lay(), 8);
        Due.is(says + ": it stays", milk.count(11), 200);
        milk = Due.write(new YoungerMilk(), EIGHT + FILL.repeat(27) + "h010;");
        Due.is(says + ": the 201st is left out", milk.count(11), 200);
        milk = Due.write(new YoungerMilk(), EIGHT + FILL.repeat(27) + "y0,0,0,1,1;");
        Due.is(says + ": an item that has no end then", milk.fault(), 196);
        Due.is(says + ": a text that has no end then", milk.lay(), NO);
    }

    private static void fullText() {
        String says = "P2 FULL";
        YoungerMilk milk = new YoungerMilk();
        for (int i = 1; i <= 200; i++) {
            Due.is(says + ": letter " + i, milk.write(';'), i);
        }
        Due.is(says + ": letter 201", milk.write(';'), FULL);
        Due.is(says + ": letter 201 again", milk.write(32), FULL);
        Due.is(says + ": letter 201, the last of ASCII", milk.write(126), FULL);
        Due.is(says + ": bad ones are told ahead", milk.write(31), BAD);
        Due.is(says + ": bad ones too large", milk.write(127), BAD);
        Due.is(says + ": no more", milk.count(11), 200);
        Due.is(says + ": wipe()", milk.wipe(), 200);
        Due.is(says + ": behind wipe()", milk.write(';'), 1);
    }

    private static void lettersOfAscii() {
        String says = "P2 a letter (32 to 126, as in ASCII)";
        YoungerMilk milk = new YoungerMilk();
        for (int letter = 32; letter <= 126; letter++) {
            Due.is(says + ": " + letter, milk.write(letter), letter - 31);
        }
        for (int bad : new int[] {31, 127, 0, 10, -1, -32, -115, 128, 255, 256 + 's', 65536 + 's', Integer.MIN_VALUE + 's',
            Integer.MIN_VALUE, Integer.MAX_VALUE}) {
            Due.is(says + ": " + bad, milk.write(bad), BAD);
            Due.is(says + ": nothing changes by " + bad, milk.count(11), 95);
        }
    }

    private static void wipedText() {
        String says = "P3 THE TEXT is empty: how long it was";
        YoungerMilk milk = new YoungerMilk();
        Due.is(says + ": of nothing", milk.wipe(), 0);
        milk.write('x');
        Due.is(says + ": of one", milk.wipe(), 1);
        Due.is(says + ": behind it", milk.wipe(), 0);
        Due.write(milk, "xy");
        Due.write(milk, ONE);
        Due.is(says + ": nothing stays", milk.fault(), NONE);
        Due.is(says + ": nothing of it is laid", milk.lay(), 1);
    }

    private static void itemLetters() {
        String says = "ITEMS: each a letter";
        for (char letter = 32; letter <= 126; letter++) {
            fault(says, letter + "1;", letter == 's' || letter == 'h' ? NONE : 0);
            fault(says, letter + "1,1;", letter == 'k' || letter == 'c' ? NONE : 0);
            fault(says, letter + "1,1,1,1,1;", letter == 'y' ? NONE : 0);
            fault(says, letter + "1,1,1;", 0);
            fault(says, letter + "1,1,1,1;", 0);
            fault(says, letter + "1,1,1,1,1,1;", 0);
        }
    }

    private static void itemFigures() {
        String says = "numbers (one or two figures)";
        for (String so : new String[] {"h1;", "h01;", "h10;", "h99;", "s01;", "c04,08;", "y00,00,00,01,01;"}) {
            fault(says, so, NONE);
        }
        for (String not : new String[] {"h;", "h001;", "h010;", "h100;", "h0000000001;", "h4294967297;", "k,1;", "k1,;", "k1,001;",
            "k000,1;", "y0,0,0,1,;", "y,0,0,1,1;", "y0,0,0,1,001;", "s001;", "s;"}) {
            fault(says, not, 0);
        }
        for (char letter = 32; letter <= 126; letter++) {
            boolean figure = "0123456789".indexOf(letter) >= 0;
            fault(says, "h" + letter + ";", figure && letter != '0' ? NONE : 0);
            // behind h1; there is one more ; then, which begins an item
            fault(says, "h1" + letter + ";", figure ? NONE : letter == ';' ? 3 : 0);
            fault(says, "h" + letter + "1;", figure ? NONE : 0);
        }
    }

    private static void itemParts() {
        String says = "numbers parted by , and a ; behind the last one";
        for (char letter = 32; letter <= 126; letter++) {
            fault(says, "k0" + letter + "1;", letter == ',' ? NONE : 0);
            fault(says, "k0,1" + letter, letter == ';' ? NONE : 0);
        }
        for (String not : new String[] {"h", "h1", "h1,", "h,1;", "h1,;", "h,;", "k0,,1;", "k0,1,;", "k,0,1;", "k0;1;", ";", ",",
            ";h1;", "1;", "hh1;", "h1h1;", "y0,0,0,1,1", "y0,0,0,1", "y", "s", "s5", "s5,"}) {
            fault(says, not, 0);
            fault(says, "h1;" + not, 3);
        }
    }

    private static void steps() {
        String says = "sN there are N (1 to 9) STEPS in a row";
        fault(says, "s0;", 0);
        fault(says, "s00;", 0);
        fault(says, "s10;", 0);
        fault(says, "s99;", 0);
        for (int n = 1; n <= 9; n++) {
            YoungerMilk milk = Due.laid("s" + n + ";y0," + (n - 1) + ",0,1,1;c" + (n - 1) + ",7;k" + (n - 1) + ",3;");
            Due.is(says + ": so many are " + n, milk.count(0), n);
            Due.is(says + ": the last of " + n, milk.step(n - 1, 0), 7);
            Due.is(says + ": somebody at the last of " + n, milk.step(n - 1, 3), 1);
            Due.is(says + ": all that is left over of " + n, milk.count(7), 3);
            Due.is(says + ": one more than " + n, milk.step(n, 0), BAD);
        }
    }

    private static void stepsWithout() {
        String says = "STEPS (5 without)";
        Due.is(says, Due.laid(ONE).count(0), 5);
        most(says, "", "y0,4,0,1,1;", "y0,5,0,1,1;");
        most(says, "", "k4,1;", "k5,1;");
        most(says, "", "c4,1;", "c5,1;");
        YoungerMilk milk = Due.laid("s9;" + ONE);
        Due.write(milk, ONE).lay();
        Due.is(says + ", whatever was laid ahead", milk.count(0), 5);
    }

    private static void stepsAhead() {
        String says = "sN: no other ITEM ahead of it but s";
        for (String ahead : new String[] {ONE, "k0,0;", "c0,0;", "h20;"}) {
            fault(says, ahead + "s5;", ahead.length());
            fault(says, "s5;" + ahead + "s5;", 3 + ahead.length());
            fault(says, "s5;s5;s5;" + ahead, NONE);
        }
    }

    private static void lastStepsCount() {
        String says = "sN: of several the last one counts";
        Due.is(says, Due.laid("s2;s9;" + ONE).count(0), 9);
        Due.is(says, Due.laid("s9;s2;" + ONE).count(0), 2);
        Due.is(says, Due.laid("s9;s1;s4;" + ONE).count(0), 4);
        most(says, "s9;s2;", "y0,1,0,1,1;", "y0,2,0,1,1;");
        most(says, "s1;s9;", "y0,8,0,1,1;", "y0,9,0,1,1;");
    }

    private static void wayOfSteps() {
        String says = "STEP X is X and 1 far from the DAIRY";
        for (int x = 0; x < 9; x++) {
            Due.is(says + ": there and back", Due.laid("s9;" + ONE + "c" + x + ",1;").round(), 2 * (x + 1));
        }
    }

    private static void youngerNumbers() {
        String says = "yK,X,A,N,W";
        most(says + ": KIND K (0 to 3)", "", "y3,0,0,1,1;", "y4,0,0,1,1;");
        most(says + ": at STEP X", "s1;", "y0,0,0,1,1;", "y0,1,0,1,1;");
        most(says + ": at STEP X", "s9;", "y0,8,0,1,1;", "y0,9,0,1,1;");
        most(says + ": AGED A (0 to 20)", "", "y0,0,20,1,1;", "y0,0,21,1,1;");
        most(says + ": NEEDS N (1 to 9)", "", "y0,0,0,1,1;", "y0,0,0,0,1;");
        most(says + ": NEEDS N (1 to 9)", "", "y0,0,0,9,1;", "y0,0,0,10,1;");
        most(says + ": WELL by W (1 to 20)", "", "y0,0,0,1,1;", "y0,0,0,1,0;");
        most(says + ": WELL by W (1 to 20)", "", "y0,0,0,1,20;", "y0,0,0,1,21;");
        for (int kind = 0; kind < 4; kind++) {
            Due.is(says + ": KIND", Due.laid("y" + kind + ",4,20,9,20;").younger(0, 0), kind);
        }
        YoungerMilk milk = Due.laid("s9;y3,8,20,9,20;y0,0,0,1,1;");
        int[][] want = {{3, 8, 20, 9, 20}, {0, 0, 0, 1, 1}};
        for (int y = 0; y < 2; y++) {
            for (int what = 0; what < 5; what++) {
                Due.is(says + ": younger(" + y + ", " + what + ")", milk.younger(y, what), want[y][what]);
            }
        }
    }

    private static void eightAtMost() {
        String says = "YOUNGER ones: 8 at most, 0, 1, ..";
        fault(says, EIGHT, NONE);
        fault(says, EIGHT + ONE, 88);
        fault(says, EIGHT + "k0,1;h5;c0,1;" + ONE, 101);
        for (int many = 1; many <= 8; many++) {
            StringBuilder text = new StringBuilder();
            for (int y = 0; y < many; y++) {
                text.append("y0,0,0,1,").append(y + 1).append(';');
            }
            YoungerMilk milk = Due.write(new YoungerMilk(), text.toString());
            Due.is(says + ": lay()", milk.lay(), many);
            Due.is(says + ": so many", milk.count(1), many);
            Due.is(says + ": the last of " + many, milk.younger(many - 1, 4), many);
            Due.is(says + ": the first of " + many, milk.younger(0, 4), 1);
            Due.is(says + ": one more than " + many, milk.younger(many, 4), BAD);
            Due.is(says + ": who is there", milk.step(0, 3), (1 << many) - 1);
        }
    }

    private static void catsNumbers() {
        String says = "kX,C CATS at STEP X drink C (0 to 9)";
        most(says, "s9;", "k8,9;", "k9,9;");
        most(says, "s1;", "k0,9;", "k1,9;");
        most(says, "", "k0,9;", "k0,10;");
        fault(says, "k0,0;", NONE);
        YoungerMilk milk = Due.laid("s9;" + ONE + "k8,9;k0,0;k1,1;");
        Due.is(says, milk.step(8, 1), 9);
        Due.is(says, milk.step(0, 1), 0);
        Due.is(says, milk.step(1, 1), 1);
    }

    private static void downNumbers() {
        String says = "cX,M M (0 to 40) is SET DOWN at STEP X";
        most(says, "s9;", "c8,40;", "c9,40;");
        most(says, "s1;", "c0,40;", "c1,40;");
        most(says, "", "c0,40;", "c0,41;");
        fault(says, "c0,0;", NONE);
        YoungerMilk milk = Due.laid("s9;" + ONE + "c8,40;c0,0;c1,1;");
        Due.is(says, milk.step(8, 0), 40);
        Due.is(says, milk.step(0, 0), 0);
        Due.is(says, milk.step(1, 0), 1);
    }

    private static void behindSteps() {
        String says = "k, c, anywhere behind s";
        for (String text : new String[] {"s9;k8,1;c8,2;" + ONE + "h1;", "s9;h1;" + ONE + "c8,2;k8,1;", "s9;c8,2;" + ONE + "k8,1;"}) {
            YoungerMilk milk = Due.laid(text);
            Due.is(says + ": cats of " + text, milk.step(8, 1), 1);
            Due.is(says + ": set down of " + text, milk.step(8, 0), 2);
        }
        fault(says, "k0,1;s9;", 5);
        fault(says, "c0,1;s9;", 5);
    }

    private static void holds() {
        String says = "hH the CART holds H (1 to 99)";
        fault(says, "h0;", 0);
        fault(says, "h00;", 0);
        fault(says, "h100;", 0);
        Due.is(says, Due.laid("h1;" + ONE).count(2), 1);
        Due.is(says, Due.laid(ONE + "h99;").count(2), 99);
    }

    private static void without() {
        YoungerMilk milk = Due.laid("s9;c0,1;c8,2;k0,3;k8,4;h5;" + ONE);
        Due.write(milk, "s9;" + ONE).lay();
        Due.is("hH (20 without)", milk.count(2), 20);
        for (int x = 0; x < 9; x++) {
            Due.is("kX,C (0 without): STEP " + x, milk.step(x, 1), 0);
            Due.is("cX,M (0 without): STEP " + x, milk.step(x, 0), 0);
        }
    }

    private static void lastCounts() {
        String says = "of several of a STEP the last one counts";
        YoungerMilk milk = Due.laid("s9;c8,40;c0,7;k8,9;k0,6;" + ONE + "c8,3;k8,2;c0,40;k0,9;c0,0;k0,0;h99;h1;h42;");
        Due.is(says + ": c, less", milk.step(8, 0), 3);
        Due.is(says + ": c, nothing", milk.step(0, 0), 0);
        Due.is(says + ": k, less", milk.step(8, 1), 2);
        Due.is(says + ": k, nothing", milk.step(0, 1), 0);
        Due.is("hH: of several the last one counts", milk.count(2), 42);
    }

    private static void firstFault() {
        String says = "FAULT: the place (from 0 on) of the first letter of the first ITEM that is not so";
        fault(says, "x", 0);
        fault(says, "h1;x", 3);
        fault(says, "h1;x1;x2;", 3);
        fault(says, "h1;h0;h0;", 3);
        fault(says, "h1;h0;h2;", 3);
        fault(says, "k0,99;h1;", 0);
        fault(says, "h10;k0,1;k0,99", 9);
        fault(says, "h1; ", 3);
        fault(says, " h1;", 0);
        fault(says, "h1;;h1;", 3);
        fault(says, FILL.repeat(49) + "h10;", NONE);
        fault(says, FILL.repeat(49) + "h10,", 196);
        fault(says, FILL.repeat(49) + "h1;;", 199);
        fault(says, FILL.repeat(49) + "h1;x", 199);
        YoungerMilk milk = Due.write(new YoungerMilk(), "h1;k9,0;");
        Due.is("P4 FAULT", milk.fault(), 3);
        Due.is("P4 FAULT once more", milk.fault(), 3);
        Due.is("P4 NONE", Due.write(milk, "h1;k4,0;").fault(), NONE);
        Due.is("P4 NONE, where nobody is", Due.write(milk, "h1;").fault(), NONE);
        milk.wipe();
        Due.is("P4 NONE of nothing", milk.fault(), NONE);
    }

    private static void laidText() {
        String says = "P5 LAID: how many YOUNGER ones; DAY 0, nothing SEEN, UNDONE, KEPT; THE TEXT stays";
        YoungerMilk milk = new YoungerMilk();
        busy(milk);
        Due.write(milk, "s9;c8,7;y1,8,20,9,20;" + ONE);
        Due.is(says + ": how many", milk.lay(), 2);
        Due.is(says + ": DAY 0", milk.count(3), 0);
        Due.is(says + ": nobody has GONE", milk.count(4), 0);
        Due.is(says + ": nobody has QUARRELLED", milk.count(5), 0);
        Due.is(says + ": nothing SEEN", milk.count(8), 0);
        Due.is(says + ": nothing UNDONE", milk.count(9), 0);
        Due.is(says + ": nothing to undo", milk.undo(), NO);
        Due.is(says + ": nothing KEPT", milk.count(10), 0);
        Due.is(says + ": nowhere to go back", milk.back(), NO);
        Due.is(says + ": THE TEXT stays", milk.count(11), 32);
        Due.is(says + ": as a new object has it", Calls.state(milk), Calls.state(Due.laid("s9;c8,7;y1,8,20,9,20;" + ONE)));
    }

    /** Has something of all that can be: days, gone ones, quarrels, seen, undone, kept. */
    private static void busy(YoungerMilk milk) {
        milk.keep();
        milk.put(0, 9);
        milk.cats(0, 9);
        milk.quarrel(0, 1);
        milk.pass(20);
        milk.quarrel(3, 1);
        milk.see(0, 1);
        milk.see(2, 40);
        milk.keep();
    }

    private static void notLaid() {
        String says = "LAID is a TEXT without FAULT, of a YOUNGER one at least (NO else)";
        for (String not : new String[] {"", "s9;", "s9;c8,9;k8,9;h7;", ONE + "h0;", "h0;" + ONE, "s9;" + ONE + "y0,0,0,1,1", ONE + " ",
            ONE + "s5;", EIGHT + ONE, "x"}) {
            YoungerMilk milk = new YoungerMilk();
            busy(milk);
            Due.write(milk, not);
            String was = Calls.state(milk);
            Due.is(says + ": " + not, milk.lay(), NO);
            Due.is(says + ": nothing changes by " + not, Calls.state(milk), was);
            Due.is(says + ": still to undo", milk.undo(), 4);
            Due.is(says + ": still to go back", milk.back(), 1);
        }
        Due.is(says + ": one at least", Due.write(new YoungerMilk(), ONE).lay(), 1);
    }

    private static void laidAnew() {
        String says = "P5 THE TEXT stays";
        YoungerMilk milk = Due.laid(ONE);
        String was = Calls.state(milk);
        milk.pass(20);
        Due.is(says + ": it can be laid again", milk.lay(), 1);
        Due.is(says + ": as it was", Calls.state(milk), was);
        milk.write('h');
        Due.is(says + ": it can be written on", milk.lay(), NO);
        milk.write('7');
        milk.write(';');
        Due.is(says + ": and laid", milk.lay(), 1);
        Due.is(says + ": the cart", milk.count(2), 7);
        milk.wipe();
        Due.is(says + ": the street does without it", milk.count(2), 7);
    }
}

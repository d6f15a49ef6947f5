/** Promises 1 to 7. */
public final class StreetsTest {
    private static final String AT_FIRST =
            "s5;y0,0,9,2,8;y1,0,15,4,6;y2,2,7,3,5;y0,2,4,1,9;y3,3,11,2,7;y0,4,20,5,10;k2,2;k3,1;c0,5;c2,6;c3,2;c4,3;h9;";
    private static final String ONE = "y0,0,0,1,1;";

    public static void main(String[] args) {
        newObject();
        write();
        wipe();
        faultOfOneItem();
        faultPlaces();
        layWhatIsTold();
        layBegins();
        layRefuses();
        step();
        younger();
        Due.end();
    }

    private static void newObject() {
        YoungerMilk fresh = new YoungerMilk();
        YoungerMilk same = Due.laid(AT_FIRST);
        for (int what = 0; what < 11; what++) {
            Due.is("P1 count(" + what + ")", fresh.count(what), same.count(what));
        }
        Due.is("P1 count(11)", fresh.count(11), 0);
        Due.is("P1 fault()", fresh.fault(), YoungerMilk.NONE);
        Due.is("P1 lay()", fresh.lay(), YoungerMilk.NO);
        for (int x = 0; x < 5; x++) {
            for (int what = 0; what < 4; what++) {
                Due.is("P1 step(" + x + ", " + what + ")", fresh.step(x, what), same.step(x, what));
            }
        }
        for (int y = 0; y < 6; y++) {
            for (int what = 0; what < 7; what++) {
                Due.is("P1 younger(" + y + ", " + what + ")", fresh.younger(y, what), same.younger(y, what));
            }
        }
        Due.is("P1 steps", fresh.count(0), 5);
        Due.is("P1 younger ones", fresh.count(1), 6);
        Due.is("P1 cart", fresh.count(2), 9);
    }

    private static void write() {
        YoungerMilk milk = new YoungerMilk();
        Due.is("P2 write(31)", milk.write(31), YoungerMilk.BAD);
        Due.is("P2 write(127)", milk.write(127), YoungerMilk.BAD);
        Due.is("P2 write(-1)", milk.write(-1), YoungerMilk.BAD);
        Due.is("P2 write(min)", milk.write(Integer.MIN_VALUE), YoungerMilk.BAD);
        Due.is("P2 write(32)", milk.write(32), 1);
        Due.is("P2 write(126)", milk.write(126), 2);
        for (int i = 3; i <= 200; i++) {
            Due.is("P2 write", milk.write('a'), i);
        }
        Due.is("P2 full", milk.write('a'), YoungerMilk.FULL);
        Due.is("P2 full, but bad ahead", milk.write(127), YoungerMilk.BAD);
        Due.is("P2 length", milk.count(11), 200);
    }

    private static void wipe() {
        YoungerMilk milk = Due.write(new YoungerMilk(), "s5;");
        Due.is("P3 wipe()", milk.wipe(), 3);
        Due.is("P3 wipe() again", milk.wipe(), 0);
        Due.is("P3 length", milk.count(11), 0);
        Due.is("P3 write", milk.write('s'), 1);
        Due.is("P3 street stays", milk.count(1), 6);
    }

    private static void fault(String text, int want) {
        Due.is("P4 fault of " + text, Due.write(new YoungerMilk(), text).fault(), want);
    }

    /** Each text is one item, which is so or not. */
    private static void faultOfOneItem() {
        String[] so = {"", "s1;", "s9;", "s09;", "y0,0,0,1,1;", "y3,4,20,9,20;", "y00,04,00,01,01;", "k0,0;", "k4,9;",
            "c0,0;", "c4,40;", "h1;", "h99;", "h01;"};
        for (String text : so) {
            fault(text, YoungerMilk.NONE);
        }
        String[] not = {"s", "s;", "s0;", "s10;", "s009;", "s5", "s5,", "s5,1;", "s,5;", "s5,;", "s 5;", "s-1;", "5;", "S5;",
            ";", ",", " ", "s5 ;", "y0,0,0,1;", "y0,0,0,1,1,1;", "y0,0,0,1,1,;", "y4,0,0,1,1;", "y0,5,0,1,1;", "y0,0,21,1,1;",
            "y0,0,0,0,1;", "y0,0,0,10,1;", "y0,0,0,1,0;", "y0,0,0,1,21;", "y0,0,0,1,1", "y0,,0,1,1;", "y0,0,000,1,1;",
            "k0;", "k5,0;", "k0,10;", "k0,1,1;", "k0,1", "c0;", "c5,0;", "c0,41;", "c0,1,1;", "c,1;", "h0;", "h100;", "h;",
            "h1,1;", "h9", "z1;", "y;", "k;", "c;", "~", "ss5;", "s5:", "s5.5;", "sa;"};
        for (String text : not) {
            fault(text, 0);
            fault("h9;" + text, 3);
        }
    }

    private static void faultPlaces() {
        fault("s5;s3;y0,2,0,1,1;", YoungerMilk.NONE);
        fault("s5;s3;y0,3,0,1,1;", 6);
        fault("s3;s5;y0,4,0,1,1;", YoungerMilk.NONE);
        fault("s1;c1,5;", 3);
        fault("s1;k1,5;", 3);
        fault("s9;c8,5;k8,1;y0,8,0,1,1;", YoungerMilk.NONE);
        fault("h9;s5;", 3);
        fault("k0,1;s5;", 5);
        fault("c0,1;s5;", 5);
        fault(ONE + "s5;", 11);
        fault("s5;" + ONE + "s5;", 14);
        fault("s5;;", 3);
        fault("s5; h9;", 3);
        fault("h5;c0,1;h6;k0,1;" + ONE + "c0,2;k0,2;h7;", YoungerMilk.NONE);
        fault("s5;z1;z2;", 3);
        fault(ONE.repeat(8), YoungerMilk.NONE);
        fault(ONE.repeat(9), 88);
        fault(ONE.repeat(8) + "h1;" + ONE, 91);
        fault(ONE.repeat(8) + "h", 88);
        fault("h10;".repeat(50), YoungerMilk.NONE);
        fault("h10;".repeat(49) + "h10", 196);
    }

    private static void layWhatIsTold() {
        YoungerMilk milk = Due.write(new YoungerMilk(), ONE);
        Due.is("P5 lay()", milk.lay(), 1);
        Due.is("P5 steps without s", milk.count(0), 5);
        Due.is("P5 cart without h", milk.count(2), 20);
        Due.is("P5 down without c", milk.count(6), 0);
        Due.is("P5 cats without k", milk.step(0, 1), 0);
        Due.is("P5 text stays", milk.count(11), 11);
        milk = Due.laid("s2;s7;c6,1;" + ONE + "c6,3;c5,40;k6,9;k5,4;k6,2;h3;h05;");
        Due.is("P5 last s", milk.count(0), 7);
        Due.is("P5 last c", milk.step(6, 0), 3);
        Due.is("P5 other c", milk.step(5, 0), 40);
        Due.is("P5 last k", milk.step(6, 1), 2);
        Due.is("P5 other k", milk.step(5, 1), 4);
        Due.is("P5 last h", milk.count(2), 5);
        Due.is("P5 eight", Due.write(new YoungerMilk(), ONE.repeat(8)).lay(), 8);
    }

    private static void layBegins() {
        YoungerMilk milk = new YoungerMilk();
        milk.pass(20);
        milk.pass(20);
        milk.quarrel(0, 1);
        milk.see(0, 1);
        milk.keep();
        Due.write(milk, AT_FIRST);
        Due.is("P5 lay()", milk.lay(), 6);
        for (int what : new int[] {3, 4, 5, 8, 9, 10}) {
            Due.is("P5 count(" + what + ")", milk.count(what), 0);
        }
        Due.is("P5 well", milk.younger(5, 4), 10);
        Due.is("P5 undo", milk.undo(), YoungerMilk.NO);
        Due.is("P5 back", milk.back(), YoungerMilk.NO);
        Due.is("P5 lay() again", milk.lay(), 6);
        milk = Due.laid("s9;c8,7;k8,3;y0,8,5,9,20;h2;");
        Due.write(milk, "s9;" + ONE);
        milk.lay();
        Due.is("P5 nothing stays of the last street", milk.count(6) + milk.step(8, 1) + milk.step(8, 3), 0);
        Due.is("P5 nor of its cart", milk.count(2), 20);
    }

    private static void layRefuses() {
        YoungerMilk milk = new YoungerMilk();
        milk.pass(1);
        milk.see(0, 1);
        milk.keep();
        for (String text : new String[] {"", "s5;", "s5;c0,4;h1;", ONE + "s5;", "s3;c0,1;h1;" + ONE + "x"}) {
            Due.write(milk, text);
            Due.is("P5 lay of " + text, milk.lay(), YoungerMilk.NO);
            Due.is("P5 steps stay", milk.count(0), 5);
            Due.is("P5 younger ones stay", milk.count(1), 6);
            Due.is("P5 cart stays", milk.count(2), 9);
            Due.is("P5 day stays", milk.count(3), 1);
            Due.is("P5 down stays", milk.count(6), 16);
            Due.is("P5 left over stays", milk.count(7), 1);
            Due.is("P5 seen, undone, kept stay", milk.count(8) + milk.count(9) + milk.count(10), 3);
            Due.is("P5 line stays", milk.younger(2, 6), 3);
        }
    }

    private static void step() {
        YoungerMilk milk = new YoungerMilk();
        int[][] want = {{5, 0, 0, 3}, {0, 0, 0, 0}, {6, 2, 0, 12}, {2, 1, 1, 16}, {3, 0, 0, 32}};
        for (int x = 0; x < 5; x++) {
            for (int what = 0; what < 4; what++) {
                Due.is("P6 step(" + x + ", " + what + ")", milk.step(x, what), want[x][what]);
            }
        }
        for (int bad : new int[] {-1, 5, 9, Integer.MAX_VALUE, Integer.MIN_VALUE}) {
            Due.is("P6 step(" + bad + ", 0)", milk.step(bad, 0), YoungerMilk.BAD);
        }
        for (int bad : new int[] {-1, 4, Integer.MAX_VALUE}) {
            Due.is("P6 step(0, " + bad + ")", milk.step(0, bad), YoungerMilk.BAD);
        }
        milk.put(3, 0);
        Due.is("P6 cats drink as much as they do, of nothing too", milk.step(3, 1), 1);
        Due.is("P6 nothing is left over of nothing", milk.step(3, 2), 0);
        milk.put(4, 40);
        Due.is("P6 left over", milk.step(4, 2), 35);
        milk.quarrel(5, 1);
        Due.is("P6 who has quarrelled drinks nothing", milk.step(4, 2), 40);
        Due.is("P6 who has quarrelled is there", milk.step(4, 3), 32);
        milk.pass(20);
        Due.is("P6 who has gone is not there", milk.step(4, 3), 0);
        Due.is("P6 steps of another street", Due.laid("s9;" + ONE).step(8, 0), 0);
    }

    private static void younger() {
        YoungerMilk milk = new YoungerMilk();
        int[][] want = {{0, 0, 9, 2, 8, 0, 2}, {1, 0, 15, 4, 6, 0, 3}, {2, 2, 7, 3, 5, 0, 3}, {0, 2, 4, 1, 9, 0, 1},
            {3, 3, 11, 2, 7, 0, 0}, {0, 4, 20, 5, 10, 0, 3}};
        for (int y = 0; y < 6; y++) {
            for (int what = 0; what < 7; what++) {
                Due.is("P7 younger(" + y + ", " + what + ")", milk.younger(y, what), want[y][what]);
            }
        }
        for (int bad : new int[] {-1, 6, 8, Integer.MAX_VALUE, Integer.MIN_VALUE}) {
            Due.is("P7 younger(" + bad + ", 0)", milk.younger(bad, 0), YoungerMilk.BAD);
        }
        for (int bad : new int[] {-1, 7, Integer.MAX_VALUE}) {
            Due.is("P7 younger(0, " + bad + ")", milk.younger(0, bad), YoungerMilk.BAD);
        }
        milk.quarrel(0, 1);
        Due.is("P7 has quarrelled", milk.younger(0, 5), 1);
        Due.is("P7 drinks nothing", milk.younger(0, 6), 0);
        milk.pass(8);
        Due.is("P7 has gone", milk.younger(0, 4), 0);
        Due.is("P7 had quarrelled", milk.younger(0, 5), 1);
        Due.is("P7 stays where it was", milk.younger(0, 1), 0);
        drinks("P7 the lowest age is ahead", "c0,3;y0,0,9,2,5;y0,0,8,2,5;", 1, 2);
        drinks("P7 of several the lowest", "c0,3;y0,0,9,2,5;y0,0,9,2,5;", 2, 1);
        drinks("P7 greedy", "c0,20;y2,0,9,9,5;y0,0,10,9,5;", 18, 2);
        drinks("P7 proud, odd and even", "c0,40;y1,0,9,9,5;y1,0,9,8,5;", 5, 5);
        drinks("P7 proud, least", "c0,40;y1,0,9,1,5;y1,0,9,2,5;", 1, 2);
        drinks("P7 shy with cats that find something", "k0,9;c0,1;y3,0,9,2,5;y0,0,9,2,5;", 0, 0);
        drinks("P7 shy where cats drink", "k0,1;c0,9;y3,0,9,2,5;y0,0,9,2,5;", 0, 2);
        drinks("P7 shy without cats", "k1,1;c1,9;c0,9;y3,0,9,2,5;y0,1,9,2,5;", 2, 2);
    }

    private static void drinks(String what, String text, int first, int second) {
        YoungerMilk milk = Due.laid(text);
        Due.is(what + " (0)", milk.younger(0, 6), first);
        Due.is(what + " (1)", milk.younger(1, 6), second);
    }
}

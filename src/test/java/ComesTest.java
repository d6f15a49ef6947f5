/** Promises 13 to 18. */
public final class ComesTest {
    private static final int MIN = Integer.MIN_VALUE, MAX = Integer.MAX_VALUE;
    private static final String NINE = "s9;y0,0,0,1,9;y0,8,0,1,9;";

    public static void main(String[] args) {
        behind();
        goes();
        least();
        leastOfMany();
        round();
        roundOfMany();
        best();
        bestOfSeveral();
        help();
        helpOfSeveral();
        nothingChanges();
        Due.end();
    }

    private static void behind() {
        YoungerMilk milk = new YoungerMilk();
        for (int bad : new int[] {-1, 31, MIN, MAX}) {
            Due.is("P13 behind(" + bad + ", 0)", milk.behind(bad, 0), YoungerMilk.BAD);
        }
        for (int bad : new int[] {-1, 6, MIN, MAX}) {
            Due.is("P13 behind(0, " + bad + ")", milk.behind(0, bad), YoungerMilk.BAD);
        }
        for (int y = 0; y < 6; y++) {
            YoungerMilk other = new YoungerMilk();
            Due.is("P13 behind(0, " + y + ")", milk.behind(0, y), other.younger(y, 4));
            for (int n = 1; n <= 30; n++) {
                other.pass(1);
                Due.is("P13 behind(" + n + ", " + y + ")", milk.behind(n, y), other.younger(y, 4));
            }
        }
        milk = Due.laid("c0,5;y2,0,0,4,2;y0,0,1,1,3;y0,0,2,5,20;");
        milk.quarrel(0, 1);
        Due.is("P13 one that quarrelled goes", milk.behind(2, 0), 0);
        Due.is("P13 others drink", milk.behind(3, 1), 6);
        Due.is("P13 the last one behind 4", milk.behind(4, 2), 16);
    }

    private static void goes() {
        YoungerMilk milk = new YoungerMilk();
        for (int bad : new int[] {-1, 6, MIN, MAX}) {
            Due.is("P14 goes(" + bad + ")", milk.goes(bad), YoungerMilk.BAD);
        }
        Due.is("P14 goes(0)", milk.goes(0), YoungerMilk.NONE);
        Due.is("P14 goes(4)", milk.goes(4), 4);
        milk.pass(3);
        Due.is("P14 goes(4) the day ahead", milk.goes(4), 1);
        milk.pass(1);
        Due.is("P14 it has", milk.goes(4), 0);
        milk.pass(1);
        Due.is("P14 it has long", milk.goes(4), 0);
        Due.is("P14 20 by one a day", Due.laid("y1,0,0,9,20;").goes(0), 20);
        milk = Due.laid("c0,2;y0,0,0,2,20;y0,0,1,2,20;y1,0,2,9,20;");
        Due.is("P14 by two a day", milk.goes(1), 10);
        Due.is("P14 by one a day", milk.goes(2), 20);
    }

    private static void least() {
        YoungerMilk milk = new YoungerMilk();
        for (int bad : new int[] {0, 21, -1, MIN, MAX}) {
            Due.is("P15 least(0, " + bad + ")", milk.least(0, bad), YoungerMilk.BAD);
        }
        for (int bad : new int[] {-1, 5, MIN, MAX}) {
            Due.is("P15 least(" + bad + ", 1)", milk.least(bad, 1), YoungerMilk.BAD);
        }
        Due.is("P15 nobody there", milk.least(1, 20), 0);
        Due.is("P15 least(0, 5)", milk.least(0, 5), 1);
        Due.is("P15 least(0, 20)", milk.least(0, 20), 5);
        Due.is("P15 least(3, 3)", milk.least(3, 3), 0);
        Due.is("P15 a shy one is not helped where cats are", milk.least(3, 4), YoungerMilk.NONE);
        milk.pass(4);
        Due.is("P15 who has gone by now counts no more", milk.least(3, 20), 0);
    }

    private static void leastOfMany() {
        Due.is("P15 40 is enough", Due.laid("k0,9;c0,1;y0,0,0,9,1;y0,0,1,9,1;y0,0,2,9,1;y0,0,3,4,1;").least(0, 1), 40);
        Due.is("P15 41 would be", Due.laid("k0,9;c0,1;y0,0,0,9,1;y0,0,1,9,1;y0,0,2,9,1;y0,0,3,5,1;").least(0, 1),
            YoungerMilk.NONE);
        Due.is("P15 cats first", Due.laid("k0,3;y0,0,0,2,2;").least(0, 1), 4);
        Due.is("P15 other steps do not matter", Due.laid("c0,5;y0,0,0,2,2;y0,1,0,9,1;").least(0, 20), 2);
        YoungerMilk milk = Due.laid("c0,5;y0,0,0,2,3;y0,0,1,2,3;");
        milk.quarrel(0, 1);
        Due.is("P15 one that quarrelled stays for two", milk.least(0, 2), 1);
        Due.is("P15 one that quarrelled goes", milk.least(0, 3), YoungerMilk.NONE);
    }

    private static void round() {
        Due.is("P16 at first", new YoungerMilk().round(), 18);
        Due.is("P16 nothing", Due.laid(NINE).round(), 0);
        Due.is("P16 there and back", Due.laid(NINE + "c8,1;").round(), 18);
        Due.is("P16 the first step", Due.laid(NINE + "c0,40;h1;").round(), 2);
        Due.is("P16 more than it holds is left out", Due.laid(NINE + "c3,40;c4,1;h10;").round(), 18);
        Due.is("P16 just what it holds", Due.laid(NINE + "c3,6;c4,4;h10;").round(), 10);
        Due.is("P16 one more", Due.laid(NINE + "c3,6;c4,5;h10;").round(), 18);
        Due.is("P16 20 without h", Due.laid(NINE + "c3,15;c4,5;").round(), 10);
        Due.is("P16 by one journey each", Due.laid(NINE + "c0,2;c1,2;c2,2;h3;").round(), 12);
        YoungerMilk milk = Due.laid(NINE + "h5;");
        milk.put(7, 3);
        milk.put(2, 2);
        Due.is("P16 what is put counts", milk.round(), 16);
        milk.pass(20);
        Due.is("P16 though all have gone", milk.round(), 16);
    }

    private static void roundOfMany() {
        Due.is("P16 nine at once", Due.laid(NINE
            + "c0,1;c1,1;c2,1;c3,1;c4,1;c5,1;c6,1;c7,1;c8,1;h9;").round(), 18);
        Due.is("P16 three by three", Due.laid(NINE
            + "c0,1;c1,1;c2,1;c3,1;c4,1;c5,1;c6,1;c7,1;c8,1;h3;").round(), 36);
        Due.is("P16 each for itself", Due.laid(NINE
            + "c0,9;c1,9;c2,9;c3,9;c4,9;c5,9;c6,9;c7,9;c8,9;h9;").round(), 90);
        // 6 goes with 4, though 3 is on the way ahead of it: 3, 5 and 2 are left for the other journey
        Due.is("P16 not the nearest fit first", Due.laid(NINE + "c4,6;c3,3;c2,5;c1,4;c0,2;h10;").round(), 18);
        Due.is("P16 two that fit better than one", Due.laid(NINE + "c8,5;c7,4;c6,3;c5,2;c4,6;h10;").round(), 34);
    }

    private static void best() {
        YoungerMilk milk = new YoungerMilk();
        for (int bad : new int[] {-1, 100, MIN, MAX}) {
            Due.is("P17 best(" + bad + ", 1, 0)", milk.best(bad, 1, 0), YoungerMilk.BAD);
        }
        for (int bad : new int[] {-1, 0, 21, MIN, MAX}) {
            Due.is("P17 best(0, " + bad + ", 0)", milk.best(0, bad, 0), YoungerMilk.BAD);
        }
        for (int bad : new int[] {-2, 5, MIN, MAX}) {
            Due.is("P17 best(0, 1, " + bad + ")", milk.best(0, 1, bad), YoungerMilk.BAD);
        }
        shares("at first by nothing", milk, 0, 3, 4, 0, 0, 0, 0, 0);
        shares("at first by 9", milk, 9, 5, 4, 1, 0, 0, 0, 4);
        shares("at first by 20", milk, 20, 10, 5, 5, 0, 6, 0, 5);
        shares("at first by 99", milk, 99, 20, 5, 5, 0, 6, 0, 5);
    }

    private static void bestOfSeveral() {
        shares("of several the first is that with the least at step 0",
            Due.laid("s3;y0,0,0,2,2;y0,1,0,2,2;y0,2,0,2,2;"), 1, 1, 1, 0, 0, 1);
        shares("of several that of least in sum",
            Due.laid("s2;y0,0,0,5,5;y0,1,0,5,4;"), 99, 1, 2, 1, 2);
        shares("9 at most each", Due.laid("s2;k0,1;y0,0,0,9,1;y0,1,0,9,1;"), 99, 1, 1, 0, 9);
        shares("more for one than for two", Due.laid("s2;y0,0,0,9,1;y0,1,0,1,1;y0,1,0,1,1;"), 9, 1, 2, 0, 2);
        shares("just enough", Due.laid("s2;y0,0,0,9,1;y0,1,0,1,1;y0,1,0,1,1;"), 11, 1, 3, 9, 2);
        shares("one too few", Due.laid("s2;y0,0,0,9,1;y0,1,0,1,1;y0,1,0,1,1;"), 10, 1, 2, 0, 2);
        shares("what one step gets is not left for the next", Due.laid("s2;y0,1,0,9,1;y0,0,0,1,1;y0,0,0,1,1;"), 10, 1,
            2, 2, 0);
        shares("what two steps get is not left for the third", Due.laid("s4;y0,0,0,2,1;y0,0,0,2,1;y0,1,0,3,1;y0,2,0,9,1;"
            + "y0,3,0,6,1;"), 13, 1, 4, 4, 3, 0, 6);
        shares("one less", Due.laid("s4;y0,0,0,2,1;y0,0,0,2,1;y0,1,0,3,1;y0,2,0,9,1;y0,3,0,6,1;"), 12, 1, 3, 4, 3, 0, 0);
        shares("nothing is left for one that needs nothing", Due.laid("s2;y0,0,0,1,1;y0,1,0,1,9;"), 1, 1, 2, 1, 0);
        shares("what is set down does not matter", Due.laid("s2;c0,9;c1,9;y0,0,0,3,1;y0,1,0,2,1;"), 4, 1, 1, 0, 2);
        shares("a full street", Due.laid("s9;y0,0,0,9,1;y0,1,0,9,1;y0,2,0,9,1;y0,3,0,9,1;y0,4,0,9,1;y0,5,0,9,1;"
            + "y0,7,0,9,1;y0,8,0,9,1;"), 99, 20, 8, 9, 9, 9, 9, 9, 9, 0, 9, 9);
        YoungerMilk milk = Due.laid("s2;y0,0,0,3,2;y0,1,0,3,2;");
        milk.quarrel(0, 1);
        shares("one that quarrelled is kept for a day", milk, 9, 1, 2, 0, 2);
        shares("one that quarrelled is not kept for two", milk, 9, 2, 1, 0, 3);
        milk.pass(2);
        shares("gone ones are not kept", milk, 9, 20, 0, 0, 0);
    }

    private static void shares(String what, YoungerMilk milk, int m, int n, int kept, int... shares) {
        Due.is("P17 " + what, milk.best(m, n, -1), kept);
        for (int x = 0; x < shares.length; x++) {
            Due.is("P17 " + what + ", step " + x, milk.best(m, n, x), shares[x]);
        }
    }

    private static void help() {
        YoungerMilk milk = new YoungerMilk();
        for (int bad : new int[] {-1, 2, MIN, MAX}) {
            Due.is("P18 help(" + bad + ")", milk.help(bad), YoungerMilk.BAD);
        }
        Due.is("P18 help(0)", milk.help(0), 4);
        Due.is("P18 help(1)", milk.help(1), 4);
        for (int y = 0; y < 6; y++) {
            milk.quarrel(y, 1);
        }
        Due.is("P18 none is at peace", milk.help(0), YoungerMilk.NONE);
        Due.is("P18 none", milk.help(1), YoungerMilk.NONE);
        Due.is("P18 bad ahead of none", milk.help(2), YoungerMilk.BAD);
        milk = Due.laid("y0,0,0,9,9;");
        milk.pass(1);
        Due.is("P18 all have gone", milk.help(0), YoungerMilk.NONE);
    }

    private static void helpOfSeveral() {
        YoungerMilk milk = Due.laid("c0,3;y0,0,0,1,20;y0,0,9,3,11;y2,0,3,3,10;");
        Due.is("P18 the greedy one", milk.help(0), 2);
        Due.is("P18 both others", milk.help(1), 2);
        milk.quarrel(2, 1);
        Due.is("P18 of several the lowest", milk.help(0), 0);
        Due.is("P18 of several", milk.help(1), 1);
        // it has gone itself, and is none of the others
        Due.is("P18 one alone", Due.laid("c0,9;y0,0,0,1,20;").help(1), 0);
        Due.is("P18 one alone is the one", Due.laid("c0,9;y0,0,0,1,20;").help(0), 0);
        // nobody is helped here, but of 20, 11, 10 it is just the 10 that has gone behind ten days
        Due.is("P18 behind ten days", Due.laid("y1,0,0,9,20;y1,0,1,9,11;y1,0,2,9,10;").help(1), 2);
        Due.is("P18 who goes anyway", Due.laid("y1,0,0,9,20;y1,0,1,9,11;y1,0,2,9,10;").help(0), 2);
    }

    private static void nothingChanges() {
        YoungerMilk milk = new YoungerMilk();
        milk.behind(30, 2);
        milk.goes(3);
        milk.least(2, 20);
        milk.round();
        milk.best(99, 20, -1);
        milk.help(0);
        YoungerMilk fresh = new YoungerMilk();
        for (int what = 0; what < 12; what++) {
            Due.is("P13 to P18 count(" + what + ")", milk.count(what), fresh.count(what));
        }
        for (int y = 0; y < 6; y++) {
            Due.is("P13 to P18 well", milk.younger(y, 4), fresh.younger(y, 4));
            Due.is("P13 to P18 peace", milk.younger(y, 5), 0);
        }
    }
}

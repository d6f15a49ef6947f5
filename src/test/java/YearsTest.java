/** Promises 24 to 28. */
public final class YearsTest {
    private static final int MIN = Integer.MIN_VALUE, MAX = Integer.MAX_VALUE;

    public static void main(String[] args) {
        snows();
        snowsOfMany();
        year();
        yearActs();
        keep();
        back();
        count();
        Due.end();
    }

    private static void snows() {
        YoungerMilk milk = new YoungerMilk();
        for (int bad : new int[] {-1, 6, MIN, MAX}) {
            Due.is("P24 snows(" + bad + ", 0, 0, 0)", milk.snows(bad, 0, 0, 0), YoungerMilk.BAD);
        }
        for (int bad : new int[] {-1, 9, MIN, MAX}) {
            Due.is("P24 snows(0, " + bad + ", 0, 0)", milk.snows(0, bad, 0, 0), YoungerMilk.BAD);
        }
        for (int bad : new int[] {-1, 11, MIN, MAX}) {
            Due.is("P24 snows(0, 0, " + bad + ", 0)", milk.snows(0, 0, bad, 0), YoungerMilk.BAD);
        }
        for (int bad : new int[] {-1, 2, MIN, MAX}) {
            Due.is("P24 snows(0, 0, 0, " + bad + ")", milk.snows(0, 0, 0, bad), YoungerMilk.BAD);
        }
        chance("no day", milk, 0, 0, 10, 1, 1);
        chance("no snow", milk, 0, 8, 0, 1, 1);
        chance("no snow for one that goes", milk, 4, 4, 0, 0, 1);
        chance("all snow", milk, 0, 3, 10, 1, 1);
        chance("all snow too long", milk, 0, 4, 10, 0, 1);
        milk.pass(4);
        chance("one that has gone", milk, 4, 0, 0, 0, 1);
        chance("one that has gone behind a day", milk, 4, 1, 5, 0, 1);
    }

    private static void snowsOfMany() {
        YoungerMilk milk = Due.laid("s2;c0,2;y0,0,0,2,2;y1,0,1,9,3;y0,1,0,1,9;y3,1,0,2,2;k1,1;c1,2;");
        chance("one snow is too much", milk, 0, 1, 3, 7, 10);
        // behind a day without it is well by 3, and one more is not too much
        chance("in lowest terms", milk, 0, 2, 4, 3, 5);
        chance("in lower terms", milk, 0, 1, 5, 1, 2);
        chance("by three", milk, 0, 3, 1, 891, 1000);
        // just eight snows are too much for 8
        chance("by eight", Due.laid("c0,1;y1,0,0,1,8;"), 0, 8, 5, 255, 256);
        chance("by eight, of ten million", Due.laid("c0,1;y1,0,0,1,8;"), 0, 8, 1, 99999999, 100000000);
        chance("snow is for all, and cats find nothing", milk, 3, 1, 10, 0, 1);
        chance("shy without snow", milk, 3, 1, 0, 0, 1);
        milk = Due.laid("c0,2;y0,0,0,9,7;y0,0,1,2,3;");
        // the first goes behind a day by snow or without; the other has 1 then, and drinks 2 on days without
        chance("another that goes", milk, 1, 2, 3, 7, 10);
        milk.quarrel(1, 1);
        chance("one that quarrelled", milk, 1, 2, 10, 1, 1);
        chance("one that quarrelled for three", milk, 1, 3, 5, 0, 1);
    }

    private static void chance(String what, YoungerMilk milk, int y, int n, int x, int above, int below) {
        Due.is("P24 " + what + ", above", milk.snows(y, n, x, 0), above);
        Due.is("P24 " + what + ", below", milk.snows(y, n, x, 1), below);
    }

    private static void year() {
        YoungerMilk milk = new YoungerMilk();
        for (int bad : new int[] {-1, 10000, MIN, MAX}) {
            Due.is("P25 year(" + bad + ", 1, 0)", milk.year(bad, 1, 0), YoungerMilk.BAD);
        }
        for (int bad : new int[] {-1, 0, 61, MIN, MAX}) {
            Due.is("P25 year(0, " + bad + ", 0)", milk.year(0, bad, 0), YoungerMilk.BAD);
        }
        for (int bad : new int[] {-1, 2, MIN, MAX}) {
            Due.is("P25 year(0, 1, " + bad + ")", milk.year(0, 1, bad), YoungerMilk.BAD);
        }
        Due.is("P25 year(5, 60, 0)", milk.year(5, 60, 0), 2);
        Due.is("P25 year(5, 60, 1)", milk.year(5, 60, 1), 3359);
        for (int what = 0; what < 12; what++) {
            Due.is("P25 nothing changes by it", milk.count(what), new YoungerMilk().count(what));
        }
        // DRAW is 51303, 32612, 6768 then: 23 is set down at step 1 ahead of the third day, where nobody is
        Due.is("P25 year(9999, 3, 0)", milk.year(9999, 3, 0), 6);
        Due.is("P25 year(9999, 3, 1)", milk.year(9999, 3, 1), 26);
        // DRAW is 1 ahead of the first day: nothing is set down at step 0 then, so what was put there is not left over
        Due.is("P25 year(0, 1, 0)", milk.year(0, 1, 0), 6);
        Due.is("P25 year(0, 1, 1)", milk.year(0, 1, 1), 1);
        milk.put(0, 40);
        Due.is("P25 year(0, 1, 1) again", milk.year(0, 1, 1), 1);
    }

    /** The acts of a year are done as one would do them day by day. */
    private static void yearActs() {
        int[] seen = new int[8];
        for (int z = 0; z < 10000; z += z < 40 ? 1 : 1103) {
            YoungerMilk milk = new YoungerMilk();
            milk.pass(1 + z % 3);
            YoungerMilk other = new YoungerMilk();
            other.pass(1 + z % 3);
            int left = 0;
            for (int k = 0; k < 60; k++) {
                long x = 7919L * z + 6151L * k + 1;
                int draw = (int) (x * x % 65521);
                seen[draw % 8]++;
                switch (draw % 8) {
                    case 0: case 1: other.put(draw / 8 % 5, draw / 64 % 41); break;
                    case 2: other.quarrel(draw / 8 % 6, 1 - other.younger(draw / 8 % 6, 5)); break;
                    case 3: other.cats(draw / 8 % 5, draw / 64 % 10); break;
                    default: break;
                }
                left += other.count(7);
                other.pass(1);
                if (k % 9 == 0 || k == 59) {
                    Due.is("P25 year(" + z + ", " + (k + 1) + ", 0)", milk.year(z, k + 1, 0), 6 - other.count(4));
                    Due.is("P25 year(" + z + ", " + (k + 1) + ", 1)", milk.year(z, k + 1, 1), left);
                }
            }
        }
        for (int i = 0; i < 8; i++) {
            Due.is("P25 draws of kind " + i + " came", seen[i] > 0 ? 1 : 0, 1);
        }
    }

    private static void keep() {
        YoungerMilk milk = new YoungerMilk();
        milk.put(0, 1);
        Due.is("P26 keep()", milk.keep(), 1);
        Due.is("P26 keep() again", milk.keep(), 2);
        Due.is("P26 full", milk.keep(), YoungerMilk.FULL);
        Due.is("P26 two", milk.count(10), 2);
        Due.is("P26 what can be undone stays", milk.count(9), 1);
        milk.undo();
        Due.is("P26 by undo() nothing is kept less", milk.count(10), 2);
        milk.back();
        Due.is("P26 keep() behind back()", milk.keep(), 2);
    }

    private static void back() {
        YoungerMilk milk = Due.write(new YoungerMilk(), "s1");
        Due.is("P27 nothing is kept", milk.back(), YoungerMilk.NO);
        milk.pass(2);
        milk.quarrel(1, 1);
        milk.keep();
        milk.put(0, 0);
        milk.cats(2, 9);
        milk.pass(1);
        milk.keep();
        milk.pass(20);
        milk.quarrel(0, 1);
        milk.see(0, 1);
        milk.write(';');
        Due.is("P27 back()", milk.back(), 1);
        Due.is("P27 the day", milk.count(3), 3);
        Due.is("P27 set down", milk.step(0, 0), 0);
        Due.is("P27 cats", milk.step(2, 1), 9);
        Due.is("P27 quarrelled", milk.count(5), 1);
        Due.is("P27 well", milk.younger(0, 4), 8);
        Due.is("P27 nothing is undone", milk.undo(), YoungerMilk.NO);
        Due.is("P27 nothing can be undone", milk.count(9), 0);
        Due.is("P27 what is seen stays", milk.count(8), 1);
        Due.is("P27 the text stays", milk.count(11), 3);
        milk.pass(1);
        Due.is("P27 acts can be undone again", milk.undo(), 0);
        Due.is("P27 back() again", milk.back(), 0);
        Due.is("P27 the day ahead of it", milk.count(3), 2);
        Due.is("P27 set down ahead of it", milk.step(0, 0), 5);
        Due.is("P27 quarrelled ahead of it", milk.younger(1, 5), 1);
        Due.is("P27 no more", milk.back(), YoungerMilk.NO);
    }

    private static void count() {
        YoungerMilk milk = new YoungerMilk();
        int[] want = {5, 6, 9, 0, 0, 0, 16, 1, 0, 0, 0, 0};
        for (int what = 0; what < 12; what++) {
            Due.is("P28 count(" + what + ")", milk.count(what), want[what]);
        }
        for (int bad : new int[] {-1, 12, MIN, MAX}) {
            Due.is("P28 count(" + bad + ")", milk.count(bad), YoungerMilk.BAD);
        }
        milk.quarrel(4, 1);
        milk.quarrel(2, 1);
        milk.put(1, 9);
        milk.pass(7);
        milk.see(0, 0);
        milk.see(1, 0);
        milk.keep();
        milk.write('y');
        int[] then = {5, 6, 9, 7, 3, 2, 25, 16, 2, 4, 1, 1};
        for (int what = 0; what < 12; what++) {
            Due.is("P28 then count(" + what + ")", milk.count(what), then[what]);
        }
    }
}

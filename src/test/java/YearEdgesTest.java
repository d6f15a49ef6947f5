import java.math.BigInteger;

/** What the document names as too small, too large, empty, full of snows, years, what is kept, counts: a sentence a test. */
public final class YearEdgesTest {
    private static final int NONE = YoungerMilk.NONE, NO = YoungerMilk.NO, FULL = YoungerMilk.FULL, BAD = YoungerMilk.BAD;
    private static final String WIDE = "s9;c0,9;c8,20;k8,3;c4,5;y0,0,0,2,20;y1,8,1,9,20;y2,8,2,3,9;y3,8,0,1,20;y0,4,20,5,12;"
        + "y1,4,20,5,2;y2,0,9,9,20;y3,4,0,2,7;";
    private static final String NARROW = "s1;c0,3;y0,0,0,2,20;";

    public static void main(String[] args) {
        snowsByChance();
        snowsOfNoDay();
        snowsOfEightDays();
        snowsThatNeverOrEverCome();
        snowsInLowestTerms();
        snowsEachForItself();
        snowsOfGoneOnes();
        drawnActs();
        daysOfAYear();
        streetsOfAYear();
        gonesOfAYear();
        nothingChangesByAYear();
        twoKept();
        keptAsItStands();
        backOnce();
        keptLastIsFirst();
        nothingUndoneBehindBack();
        counts();
        countsOfNothing();
        countsOfAll();
        Due.end();
    }

    /** In how many of ten to the days ways one has not gone that is well by 1 more, or by so much less if it snows. */
    private static BigInteger ways(int well, int less, int n, int x) {
        if (well <= 0) {
            return BigInteger.ZERO;
        }
        if (n == 0) {
            return BigInteger.ONE;
        }
        return ways(Math.min(20, well + 1), less, n - 1, x).multiply(BigInteger.valueOf(10 - x))
            .add(ways(well - less, less, n - 1, x).multiply(BigInteger.valueOf(x)));
    }

    private static void chance(String says, YoungerMilk milk, int y, int n, int x, long above, long below) {
        Due.is(says + ": snows(" + y + ", " + n + ", " + x + ", 0)", milk.snows(y, n, x, 0), above);
        Due.is(says + ": snows(" + y + ", " + n + ", " + x + ", 1)", milk.snows(y, n, x, 1), below);
    }

    private static void snowsByChance() {
        String says = "SNOWS: on each of n (0 to 8) DAYS nothing is SET DOWN at all by x (0 to 10) of ten, for itself";
        int[][] ones = {{1, 1}, {2, 1}, {3, 1}, {8, 1}, {9, 1}, {20, 1}, {1, 2}, {4, 2}, {5, 2}, {9, 9}, {10, 9}, {20, 9}};
        for (int[] one : ones) {
            // a proud one fades by 1, a plain one by what it needs
            String text = one[1] == 1 ? "c0,9;y1,0,0,9," + one[0] + ";" : "c0,9;y0,0,0," + one[1] + "," + one[0] + ";";
            YoungerMilk milk = Due.laid(text);
            for (int n = 0; n <= 8; n++) {
                for (int x = 0; x <= 10; x++) {
                    BigInteger above = ways(one[0], one[1], n, x);
                    BigInteger below = BigInteger.TEN.pow(n);
                    BigInteger by = above.gcd(below);
                    chance(says + ": " + text, milk, 0, n, x, above.divide(by).longValue(), below.divide(by).longValue());
                }
            }
        }
    }

    private static void snowsOfNoDay() {
        String says = "SNOWS: n = 0";
        YoungerMilk milk = Due.laid("y0,0,0,9,1;");
        for (int x = 0; x <= 10; x++) {
            chance(says, milk, 0, 0, x, 1, 1);
        }
        Due.is(says + ": -1", milk.snows(0, -1, 0, 0), BAD);
    }

    private static void snowsOfEightDays() {
        String says = "SNOWS: n = 8";
        YoungerMilk milk = Due.laid("c0,1;y1,0,0,1,8;y1,0,1,1,9;y1,0,2,1,8;");
        chance(says + ": eight snows", milk, 0, 8, 9, 100000000 - 43046721, 100000000);
        chance(says + ": nine would be", milk, 1, 8, 9, 1, 1);
        chance(says + ": who drinks nothing goes anyway", milk, 2, 8, 9, 0, 1);
        Due.is(says + ": 9", milk.snows(0, 9, 0, 0), BAD);
    }

    private static void snowsThatNeverOrEverCome() {
        String says = "SNOWS: x (0 to 10)";
        YoungerMilk milk = Due.laid("c0,1;y1,0,0,1,3;y1,0,1,1,3;");
        chance(says + ": never", milk, 0, 8, 0, 1, 1);
        chance(says + ": never, but it goes", milk, 1, 3, 0, 0, 1);
        chance(says + ": ever, for two days", milk, 0, 2, 10, 1, 1);
        chance(says + ": ever, for three days", milk, 0, 3, 10, 0, 1);
        Due.is(says + ": 11", milk.snows(0, 1, 11, 0), BAD);
        Due.is(says + ": -1", milk.snows(0, 1, -1, 0), BAD);
    }

    private static void snowsInLowestTerms() {
        String says = "SNOWS: in lowest terms";
        YoungerMilk milk = Due.laid("c0,1;y1,0,0,1,1;");
        int[][] want = {{1, 1}, {9, 10}, {4, 5}, {7, 10}, {3, 5}, {1, 2}, {2, 5}, {3, 10}, {1, 5}, {1, 10}, {0, 1}};
        for (int x = 0; x <= 10; x++) {
            chance(says, milk, 0, 1, x, want[x][0], want[x][1]);
        }
        Due.is(says + ": part = 2", milk.snows(0, 1, 1, 2), BAD);
        Due.is(says + ": part = -1", milk.snows(0, 1, 1, -1), BAD);
        Due.is(says + ": nobody", milk.snows(1, 1, 1, 0), BAD);
    }

    private static void snowsEachForItself() {
        String says = "SNOWS: each DAY for itself, all else as it is";
        // the one ahead goes the first day if it snows, the second else; the other is well by 3 behind a day: if it has milk
        // the second day, snow on the third does not matter
        YoungerMilk milk = Due.laid("c0,2;y0,0,0,9,9;y0,0,1,2,5;");
        chance(says, milk, 1, 1, 3, 1, 1);
        chance(says, milk, 1, 2, 3, 1, 1);
        chance(says, milk, 1, 3, 3, 763, 1000);
        milk.quarrel(1, 1);
        chance(says + ": one that quarrelled", milk, 1, 4, 5, 1, 1);
        chance(says + ": one that quarrelled goes", milk, 1, 5, 5, 0, 1);
        milk = Due.laid("s9;c8,9;k8,1;c0,9;y3,8,0,1,2;");
        chance(says + ": a shy one where a cat is", milk, 0, 1, 5, 1, 1);
        chance(says + ": a shy one where a cat is", milk, 0, 2, 5, 0, 1);
        Due.is(says + ": nothing changes", milk.count(6), 18);
    }

    private static void snowsOfGoneOnes() {
        String says = "SNOWS: the chance that a YOUNGER one has not GONE";
        YoungerMilk milk = Due.laid("y0,0,0,9,1;");
        milk.pass(1);
        milk.put(0, 40);
        for (int n = 0; n <= 8; n++) {
            chance(says + ": it has", milk, 0, n, 5, 0, 1);
        }
        milk.undo();
        milk.undo();
        chance(says + ": it has not", milk, 0, 0, 5, 1, 1);
    }

    private static int draw(int z, int k) {
        BigInteger x = BigInteger.valueOf(7919L * z + 6151L * k + 1);
        return x.multiply(x).mod(BigInteger.valueOf(65521)).intValue();
    }

    /** A year done day by day: how many have not gone, how much was left over. */
    private static int[] dayByDay(YoungerMilk milk, int z, int n) {
        int steps = milk.count(0);
        int many = milk.count(1);
        int left = 0;
        for (int k = 0; k < n; k++) {
            int draw = draw(z, k);
            switch (draw % 8) {
                case 0: case 1: milk.put(draw / 8 % steps, draw / 64 % 41); break;
                case 2: milk.quarrel(draw / 8 % many, 1 - milk.younger(draw / 8 % many, 5)); break;
                case 3: milk.cats(draw / 8 % steps, draw / 64 % 10); break;
                default: break;
            }
            left += milk.count(7);
            milk.pass(1);
        }
        return new int[] {many - milk.count(4), left};
    }

    private static void year(String says, YoungerMilk milk, YoungerMilk same, int z, int n) {
        int[] want = dayByDay(same, z, n);
        Due.is(says + ": year(" + z + ", " + n + ", 0)", milk.year(z, n, 0), want[0]);
        Due.is(says + ": year(" + z + ", " + n + ", 1)", milk.year(z, n, 1), want[1]);
    }

    private static void drawnActs() {
        String says = "A YEAR: ahead of the k-th (0 first), if DRAW modulo 8 is";
        int[] came = new int[8];
        for (int z = 0; z <= 9999; z += 33) {
            int kind = draw(z, 0) % 8;
            if (came[kind]++ < 12) {
                year(says + " " + kind, Due.laid(WIDE), Due.laid(WIDE), z, 1);
                year(says + " " + kind + ", at first", new YoungerMilk(), new YoungerMilk(), z, 2);
            }
        }
        for (int kind = 0; kind < 8; kind++) {
            Due.is(says + " " + kind + " came", Math.min(1, came[kind]), 1);
        }
    }

    private static void daysOfAYear() {
        String says = "A YEAR by z (0 to 9999) of n (1 to 60) DAYS from now on";
        for (int z : new int[] {0, 1, 8, 9998, 9999}) {
            for (int n : new int[] {1, 2, 59, 60}) {
                year(says, Due.laid(WIDE), Due.laid(WIDE), z, n);
            }
        }
        YoungerMilk milk = Due.laid(WIDE);
        YoungerMilk same = Due.laid(WIDE);
        milk.pass(5);
        same.pass(5);
        milk.quarrel(0, 1);
        same.quarrel(0, 1);
        year(says + ": from now on", milk, same, 77, 60);
        Due.is(says + ": z = -1", milk.year(-1, 1, 0), BAD);
        Due.is(says + ": z = 10000", milk.year(10000, 1, 0), BAD);
        Due.is(says + ": n = 0", milk.year(0, 0, 0), BAD);
        Due.is(says + ": n = 61", milk.year(0, 61, 0), BAD);
        Due.is(says + ": what = 2", milk.year(0, 1, 2), BAD);
        Due.is(says + ": what = -1", milk.year(0, 1, -1), BAD);
    }

    private static void streetsOfAYear() {
        String says = "A YEAR: STEP modulo as many as there are, YOUNGER one modulo as many";
        for (int z = 0; z < 9999; z += 501) {
            year(says + ", one", Due.laid(NARROW), Due.laid(NARROW), z, 60);
            year(says + ", nine and eight", Due.laid(WIDE), Due.laid(WIDE), z, 60);
        }
    }

    private static void gonesOfAYear() {
        String says = "A YEAR: how many have not GONE then; how much was LEFT OVER in sum in it";
        YoungerMilk milk = Due.laid("s1;y0,0,0,9,1;");
        milk.pass(1);
        Due.is(says + ": all have", milk.year(3, 60, 0), 0);
        year(says + ": it is all left over", milk, once("s1;y0,0,0,9,1;"), 3, 60);
        // DRAW is 6 modulo 8 then: nothing is done
        int z = 0;
        while (draw(z, 0) % 8 < 4) {
            z++;
        }
        milk = Due.laid("s9;c0,40;c8,40;y0,0,0,9,9;y0,1,0,9,10;");
        Due.is(says + ": 9 is 0 behind a day", milk.year(z, 1, 0), 2);
        Due.is(says + ": 31 and 40", milk.year(z, 1, 1), 71);
        milk.put(0, 0);
        Due.is(says + ": one has gone", milk.year(z, 1, 0), 1);
        Due.is(says + ": 40", milk.year(z, 1, 1), 40);
        milk.put(8, 0);
        Due.is(says + ": nothing", milk.year(z, 1, 1), 0);
    }

    private static YoungerMilk once(String text) {
        YoungerMilk milk = Due.laid(text);
        milk.pass(1);
        return milk;
    }

    private static void nothingChangesByAYear() {
        String says = "A YEAR (nothing changes by it)";
        YoungerMilk milk = Due.laid(WIDE);
        String was = Calls.state(milk);
        int many = milk.year(4321, 60, 0);
        int left = milk.year(4321, 60, 1);
        Due.is(says, Calls.state(milk), was);
        Due.is(says + ": the same again, not GONE", milk.year(4321, 60, 0), many);
        Due.is(says + ": the same again, LEFT OVER", milk.year(4321, 60, 1), left);
        Due.is(says + ": nothing to undo", milk.undo(), NO);
    }

    private static void twoKept() {
        String says = "KEPT: 2 at most";
        YoungerMilk milk = new YoungerMilk();
        Due.is(says + ": one", milk.keep(), 1);
        Due.is(says + ": two", milk.keep(), 2);
        Due.is(says + ": three", milk.keep(), FULL);
        Due.is(says + ": three again", milk.keep(), FULL);
        Due.is(says + ": count(10)", milk.count(10), 2);
        Due.is(says + ": one is left", milk.back(), 1);
        Due.is(says + ": two again", milk.keep(), 2);
        Due.is(says + ": one", milk.back(), 1);
        Due.is(says + ": none", milk.back(), 0);
        Due.is("P27 NO", milk.back(), NO);
        Due.is("P27 NO again", milk.back(), NO);
        Due.is(says + ": one again", milk.keep(), 1);
    }

    private static void keptAsItStands() {
        String says = "KEPT is all as it stands, but what is SEEN and THE TEXT";
        YoungerMilk milk = Due.laid(WIDE);
        milk.put(8, 40);
        milk.cats(0, 9);
        milk.quarrel(7, 1);
        milk.pass(9);
        YoungerMilk same = Due.laid(WIDE);
        same.put(8, 40);
        same.cats(0, 9);
        same.quarrel(7, 1);
        same.pass(9);
        milk.keep();
        milk.put(8, 0);
        milk.put(0, 0);
        milk.cats(0, 0);
        milk.cats(8, 0);
        milk.quarrel(0, 1);
        milk.pass(20);
        milk.see(8, 1);
        milk.see(8, 1);
        milk.write('x');
        milk.back();
        Due.is(says + ": SEEN stays", milk.forget(), 2);
        Due.is(says + ": THE TEXT stays", milk.count(11), WIDE.length() + 1);
        for (int what = 0; what < 8; what++) {
            Due.is(says + ": count(" + what + ")", milk.count(what), same.count(what));
        }
        for (int x = 0; x < 9; x++) {
            for (int what = 0; what < 4; what++) {
                Due.is(says + ": step(" + x + ", " + what + ")", milk.step(x, what), same.step(x, what));
            }
        }
        for (int y = 0; y < 8; y++) {
            for (int what = 0; what < 7; what++) {
                Due.is(says + ": younger(" + y + ", " + what + ")", milk.younger(y, what), same.younger(y, what));
            }
        }
        milk = new YoungerMilk();
        milk.see(0, 1);
        milk.write('x');
        milk.keep();
        milk.forget();
        milk.wipe();
        milk.back();
        Due.is(says + ": SEEN stays forgotten", milk.count(8), 0);
        Due.is(says + ": THE TEXT stays empty", milk.count(11), 0);
    }

    private static void backOnce() {
        String says = "P27 As KEPT last (it is KEPT no more then): how many are left; NO";
        YoungerMilk milk = new YoungerMilk();
        Due.is(says + ": nothing was kept", milk.back(), NO);
        milk.pass(1);
        Due.is(says + ": still nothing", milk.back(), NO);
        Due.is(says + ": nothing changes by NO", milk.count(3), 1);
        Due.is(says + ": what can be undone stays by NO", milk.count(9), 1);
        milk.keep();
        milk.pass(1);
        Due.is(says + ": none is left", milk.back(), 0);
        Due.is(says + ": the day", milk.count(3), 1);
        Due.is(says + ": no more", milk.back(), NO);
    }

    private static void keptLastIsFirst() {
        String says = "P27 As KEPT last";
        YoungerMilk milk = new YoungerMilk();
        // one more and one less by turns: what is kept last lies at each place once
        for (int i = 0; i < 7; i++) {
            milk.put(0, 10 + i);
            milk.keep();
            milk.put(0, 20 + i);
            milk.keep();
            milk.put(0, 30 + i);
            milk.keep();
            milk.back();
            Due.is(says + ": the second", milk.step(0, 0), 20 + i);
            milk.put(0, 40);
            milk.keep();
            milk.put(0, 0);
            milk.back();
            Due.is(says + ": the third", milk.step(0, 0), 40);
            milk.put(0, 1);
            milk.back();
            Due.is(says + ": the first", milk.step(0, 0), 10 + i);
        }
    }

    private static void nothingUndoneBehindBack() {
        String says = "back(), behind which nothing can be UNDONE";
        YoungerMilk milk = new YoungerMilk();
        for (int m = 0; m < 10; m++) {
            milk.put(0, m);
        }
        milk.keep();
        Due.is(says + ": it can behind keep()", milk.undo(), 7);
        milk.put(0, 40);
        milk.back();
        Due.is(says + ": NO", milk.undo(), NO);
        Due.is(says + ": count(9)", milk.count(9), 0);
        Due.is(says + ": as it was kept", milk.step(0, 0), 9);
        milk.put(0, 11);
        milk.put(0, 12);
        Due.is(says + ": later acts can", milk.undo(), 1);
        Due.is(says + ": later acts can", milk.undo(), 0);
        Due.is(says + ": but no more", milk.undo(), NO);
        Due.is(says + ": as it was kept", milk.step(0, 0), 9);
    }

    private static void counts() {
        String says = "P28 How many";
        YoungerMilk milk = new YoungerMilk();
        Due.is(says + ": what = -1", milk.count(-1), BAD);
        Due.is(says + ": what = 12", milk.count(12), BAD);
        Due.is(says + ": what = 256", milk.count(256), BAD);
        Due.is(says + ": what = least of all", milk.count(Integer.MIN_VALUE), BAD);
        Due.is(says + ": what = most of all", milk.count(Integer.MAX_VALUE), BAD);
    }

    private static void countsOfNothing() {
        String says = "P28 How many, of as little as can be";
        YoungerMilk milk = Due.laid("s1;y1,0,0,1,1;h1;");
        milk.wipe();
        int[] want = {1, 1, 1, 0, 0, 0, 0, 0, 0, 0, 0, 0};
        for (int what = 0; what < 12; what++) {
            Due.is(says + ": count(" + what + ")", milk.count(what), want[what]);
        }
    }

    private static void countsOfAll() {
        String says = "P28 How many, of as much as can be";
        StringBuilder text = new StringBuilder("s9;");
        for (int x = 0; x < 8; x++) {
            text.append("y0,").append(x).append(",0,1,1;");
        }
        text.append("h99;");
        YoungerMilk milk = Due.laid(text.toString());
        for (int y = 0; y < 8; y++) {
            milk.quarrel(y, 1);
        }
        milk.pass(20);
        for (int x = 0; x < 9; x++) {
            milk.put(x, 40);
        }
        for (int i = 0; i < 7; i++) {
            milk.see(8, 40);
        }
        milk.keep();
        milk.keep();
        milk.keep();
        for (int i = 0; milk.write('x') != FULL && i < 200; i++) {
            Due.is(says + ": letters", milk.count(11), text.length() + i + 1);
        }
        int[] want = {9, 8, 99, 20, 8, 8, 360, 360, 6, 8, 2, 200};
        for (int what = 0; what < 12; what++) {
            Due.is(says + ": count(" + what + ")", milk.count(what), want[what]);
        }
        Due.is(says + ": NONE of all", milk.help(0), NONE);
    }
}

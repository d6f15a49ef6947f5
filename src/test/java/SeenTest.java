/** Promises 19 to 23. */
public final class SeenTest {
    private static final int MIN = Integer.MIN_VALUE, MAX = Integer.MAX_VALUE;

    public static void main(String[] args) {
        see();
        forget();
        within();
        withinOfSome();
        isCats();
        was();
        wasOfSome();
        Due.end();
    }

    private static void see() {
        YoungerMilk milk = new YoungerMilk();
        for (int bad : new int[] {-1, 41, MIN, MAX}) {
            Due.is("P19 see(0, " + bad + ")", milk.see(0, bad), YoungerMilk.BAD);
        }
        for (int bad : new int[] {-1, 5, MIN, MAX}) {
            Due.is("P19 see(" + bad + ", 0)", milk.see(bad, 0), YoungerMilk.BAD);
        }
        Due.is("P19 nothing is seen", milk.count(8), 0);
        Due.is("P19 see(0, 0)", milk.see(0, 0), 1);
        Due.is("P19 see(4, 40)", milk.see(4, 40), 2);
        Due.is("P19 see(4, 40) again", milk.see(4, 40), 3);
        Due.is("P19 see(1, 1)", milk.see(1, 1), 4);
        Due.is("P19 see(1, 2)", milk.see(1, 2), 5);
        Due.is("P19 see(1, 3)", milk.see(1, 3), 6);
        Due.is("P19 full", milk.see(1, 3), YoungerMilk.FULL);
        Due.is("P19 full, but bad ahead", milk.see(5, 3), YoungerMilk.BAD);
        Due.is("P19 six", milk.count(8), 6);
        Due.is("P19 nothing to undo", milk.count(9), 0);
        milk.forget();
        Due.is("P19 see() again", milk.see(0, 0), 1);
    }

    private static void forget() {
        YoungerMilk milk = new YoungerMilk();
        Due.is("P20 forget() of nothing", milk.forget(), 0);
        milk.see(0, 40);
        milk.see(2, 40);
        Due.is("P20 nobody fits", milk.within(0, 0), 0);
        Due.is("P20 forget()", milk.forget(), 2);
        Due.is("P20 nothing is seen", milk.count(8), 0);
        Due.is("P20 all fit", milk.within(0, 0), 4);
        Due.is("P20 forget() again", milk.forget(), 0);
    }

    private static void within() {
        YoungerMilk milk = new YoungerMilk();
        for (int bad : new int[] {-1, 5, MIN, MAX}) {
            Due.is("P21 within(" + bad + ", 0)", milk.within(bad, 0), YoungerMilk.BAD);
        }
        for (int bad : new int[] {-1, 2, MIN, MAX}) {
            Due.is("P21 within(0, " + bad + ")", milk.within(0, bad), YoungerMilk.BAD);
        }
        Due.is("P21 nobody there", milk.within(1, 0), 1);
        Due.is("P21 nobody there, the lowest", milk.within(1, 1), 0);
        Due.is("P21 nothing seen", milk.within(2, 0), 4);
        // 6 at step 2, cats take 2, number 2 wants 6, number 3 wants 1
        milk.see(2, 3);
        Due.is("P21 who drinks 1", milk.within(2, 0), 1);
        Due.is("P21 it is number 3", milk.within(2, 1), 8);
        Due.is("P21 other steps", milk.within(0, 0), 4);
        milk.see(2, 1);
        Due.is("P21 both cannot be", milk.within(2, 0), 0);
        Due.is("P21 none", milk.within(2, 1), YoungerMilk.NONE);
    }

    private static void withinOfSome() {
        String text = "s2;c0,9;k0,1;y0,0,0,2,9;y2,0,1,1,9;y3,0,2,5,9;y0,0,3,4,2;y0,1,0,9,9;";
        YoungerMilk milk = Due.laid(text);
        milk.see(0, 6);
        // of 8: 2, 2, nothing, 4; it is 2 that was drunk, by 0 or by 1, with the shy one or without
        Due.is("P21 four sets", milk.within(0, 0), 4);
        Due.is("P21 the lowest set", milk.within(0, 1), 1);
        milk.quarrel(0, 1);
        Due.is("P21 whether they quarrel or not", milk.within(0, 0), 4);
        milk.see(0, 6);
        Due.is("P21 the same once more", milk.within(0, 0), 4);
        milk.cats(0, 3);
        Due.is("P21 on the day that is", milk.within(0, 1), 0);
        milk.forget();
        milk.see(0, 0);
        Due.is("P21 by 6 of 8 at least", milk.within(0, 1), 9);
        milk.put(0, 0);
        Due.is("P21 nothing is left over of nothing", milk.within(0, 0), 16);
        Due.is("P21 by nobody", milk.within(0, 1), 0);
        milk.pass(1);
        Due.is("P21 not those that have gone", milk.within(0, 0), 8);
        milk = Due.laid("c0,8;y0,0,0,1,9;y0,0,0,1,9;y0,0,0,1,9;y0,0,0,1,9;y0,0,0,1,9;y0,0,0,1,9;y0,0,0,1,9;y0,0,0,1,9;");
        Due.is("P21 all sets of eight", milk.within(0, 0), 256);
        milk.see(0, 4);
        Due.is("P21 four of eight", milk.within(0, 0), 70);
        Due.is("P21 the lowest four", milk.within(0, 1), 15);
        milk.forget();
        milk.see(0, 0);
        Due.is("P21 all eight", milk.within(0, 1), 255);
    }

    private static void isCats() {
        YoungerMilk milk = new YoungerMilk();
        for (int bad : new int[] {-1, 5, MIN, MAX}) {
            Due.is("P22 isCats(" + bad + ")", milk.isCats(bad), YoungerMilk.BAD);
        }
        Due.is("P22 nothing seen", milk.isCats(2), 1023);
        milk.see(2, 0);
        Due.is("P22 the greedy one leaves nothing", milk.isCats(2), 1023);
        milk = Due.laid("y0,0,0,1,1;y0,0,0,1,1;y0,2,7,3,5;y0,2,4,1,9;y3,3,11,2,7;k2,2;k3,1;c2,6;c3,2;");
        milk.see(2, 1);
        Due.is("P22 6 for 1 and 4", milk.isCats(2), 1 << 1);
        milk.see(2, 2);
        Due.is("P22 both cannot be", milk.isCats(2), 0);
        Due.is("P22 other steps", milk.isCats(3), 1023);
        milk.see(3, 0);
        Due.is("P22 what is left over of a shy one", milk.isCats(3), 1023 - 2);
        milk.forget();
        milk.see(2, 0);
        Due.is("P22 as many as 2 or more", milk.isCats(2), 1023 - 3);
        milk.quarrel(2, 1);
        Due.is("P22 as they quarrel", milk.isCats(2), 1023 - 31);
        milk.pass(9);
        Due.is("P22 as they have gone", milk.isCats(2), 1023 - 31);
        milk.quarrel(3, 1);
        Due.is("P22 as all quarrel", milk.isCats(2), 1023 - 63);
    }

    private static void was() {
        YoungerMilk milk = new YoungerMilk();
        for (int bad : new int[] {-1, 6, MIN, MAX}) {
            Due.is("P23 was(" + bad + ", 1, 0)", milk.was(bad, 1, 0), YoungerMilk.BAD);
        }
        for (int bad : new int[] {-1, 0, 21, MIN, MAX}) {
            Due.is("P23 was(0, " + bad + ", 0)", milk.was(0, bad, 0), YoungerMilk.BAD);
        }
        for (int bad : new int[] {-1, 2, MIN, MAX}) {
            Due.is("P23 was(0, 1, " + bad + ")", milk.was(0, 1, bad), YoungerMilk.BAD);
        }
        Due.is("P23 one more a day", milk.was(0, 3, 1), 5);
        Due.is("P23 just one", milk.was(0, 3, 0), 1);
        Due.is("P23 not 0", milk.was(0, 8, 0), 0);
        Due.is("P23 none", milk.was(0, 8, 1), YoungerMilk.NONE);
        Due.is("P23 two less a day", milk.was(5, 5, 1), 20);
        Due.is("P23 not more than 20", milk.was(5, 6, 0), 0);
        milk.pass(4);
        Due.is("P23 it has gone", milk.was(4, 1, 0), YoungerMilk.NO);
        Due.is("P23 it has gone, but bad ahead", milk.was(4, 0, 0), YoungerMilk.BAD);
        Due.is("P23 it has gone, but bad ahead too", milk.was(4, 1, 2), YoungerMilk.BAD);
    }

    private static void wasOfSome() {
        YoungerMilk milk = Due.laid("c0,2;y0,0,0,2,20;y0,0,1,2,3;");
        Due.is("P23 20 behind 3 days", milk.was(0, 3, 0), 4);
        Due.is("P23 the least of them", milk.was(0, 3, 1), 17);
        Due.is("P23 20 behind 20 days", milk.was(0, 20, 0), 20);
        Due.is("P23 the least of those", milk.was(0, 20, 1), 1);
        Due.is("P23 more than it is", milk.was(1, 4, 1), 11);
        milk.quarrel(0, 1);
        Due.is("P23 all else as it is now", milk.was(1, 2, 1), 1);
        Due.is("P23 one that quarrelled was more", milk.was(0, 1, 0), 0);
        // the first drinks for two days, then the other does
        milk = Due.laid("c0,2;y0,0,0,9,10;y1,0,1,2,10;");
        Due.is("P23 others that go", milk.was(1, 4, 1), 10);
    }
}

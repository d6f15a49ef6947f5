/** Promises 8 to 12. */
public final class ActsTest {
    private static final int MIN = Integer.MIN_VALUE, MAX = Integer.MAX_VALUE;

    public static void main(String[] args) {
        pass();
        fares();
        put();
        quarrel();
        cats();
        undo();
        undoLast();
        Due.end();
    }

    private static void pass() {
        YoungerMilk milk = new YoungerMilk();
        for (int bad : new int[] {0, 21, -1, MIN, MAX}) {
            Due.is("P8 pass(" + bad + ")", milk.pass(bad), YoungerMilk.BAD);
        }
        Due.is("P8 nothing changes", milk.count(3) + milk.count(9), 0);
        Due.is("P8 pass(1)", milk.pass(1), 1);
        Due.is("P8 pass(20)", milk.pass(20), 21);
        Due.is("P8 the day", milk.count(3), 21);
        Due.is("P8 two can be undone", milk.count(9), 2);
    }

    private static void fares() {
        fare("who drank what it needs", "c0,3;y0,0,0,3,5;", 6);
        fare("who drank less", "c0,1;y0,0,0,3,5;", 3);
        fare("who drank nothing", "y0,0,0,3,5;", 2);
        fare("20 at most", "c0,3;y0,0,0,3,20;", 20);
        fare("up to 20", "c0,3;y0,0,0,3,19;", 20);
        fare("down to 0", "y0,0,0,5,5;", 0);
        fare("below 0", "y0,0,0,9,5;", 0);
        fare("just above 0", "y0,0,0,4,5;", 1);
        fare("proud with what it wants", "c0,5;y1,0,0,9,5;", 6);
        fare("proud with less", "c0,4;y1,0,0,9,5;", 4);
        fare("proud with nothing", "y1,0,0,9,1;", 0);
        fare("greedy with twice", "c0,8;y2,0,0,4,5;", 6);
        fare("greedy with what it needs", "c0,4;y2,0,0,4,5;", 6);
        fare("greedy with less", "c0,3;y2,0,0,4,5;", 4);
        fare("shy without cats", "c0,4;y3,0,0,4,5;", 6);
        fare("shy with cats", "c0,9;k0,1;y3,0,0,4,5;", 1);
        fare("shy where cats find nothing", "k0,1;y3,0,0,4,5;", 1);
        fare("behind greedy ones", "c0,4;y0,0,1,4,5;y2,0,0,2,5;", 1);
        YoungerMilk milk = Due.laid("c0,9;y0,0,0,9,5;y1,0,0,9,5;y0,0,1,9,5;");
        milk.quarrel(0, 1);
        milk.quarrel(1, 1);
        milk.pass(1);
        Due.is("P8 one that quarrelled", milk.younger(0, 4), 4);
        Due.is("P8 proud one that quarrelled", milk.younger(1, 4), 4);
        Due.is("P8 the one behind them", milk.younger(2, 4), 6);
        milk.pass(3);
        Due.is("P8 1 is not gone", milk.younger(0, 4), 1);
        milk.pass(1);
        Due.is("P8 0 is gone", milk.count(4), 2);
        milk.pass(9);
        Due.is("P8 gone stays gone", milk.younger(0, 4), 0);
        milk = Due.laid("c0,5;y0,0,0,5,5;y0,0,1,5,8;");
        milk.pass(1);
        Due.is("P8 as long as the first drinks", milk.younger(1, 4), 3);
        milk.put(0, 0);
        milk.pass(1);
        milk.put(0, 5);
        Due.is("P8 who has gone leaves its milk to others", milk.younger(0, 6), 5);
        Due.is("P8 who has gone by 3 less", milk.younger(1, 4), 0);
    }

    private static void fare(String what, String text, int want) {
        YoungerMilk milk = Due.laid(text);
        milk.pass(1);
        Due.is("P8 " + what, milk.younger(0, 4), want);
    }

    private static void put() {
        YoungerMilk milk = new YoungerMilk();
        for (int bad : new int[] {-1, 41, MIN, MAX}) {
            Due.is("P9 put(0, " + bad + ")", milk.put(0, bad), YoungerMilk.BAD);
        }
        for (int bad : new int[] {-1, 5, MIN, MAX}) {
            Due.is("P9 put(" + bad + ", 0)", milk.put(bad, 0), YoungerMilk.BAD);
        }
        Due.is("P9 nothing changes", milk.count(9), 0);
        Due.is("P9 put(0, 40)", milk.put(0, 40), 5);
        Due.is("P9 put(0, 0)", milk.put(0, 0), 40);
        Due.is("P9 put(0, 0) again", milk.put(0, 0), 0);
        Due.is("P9 put(4, 7)", milk.put(4, 7), 3);
        Due.is("P9 set down", milk.step(4, 0), 7);
        Due.is("P9 each can be undone", milk.count(9), 4);
        milk.pass(2);
        Due.is("P9 from then on", milk.step(4, 0), 7);
        Due.is("P9 day by day", milk.younger(5, 4), 12);
    }

    private static void quarrel() {
        YoungerMilk milk = new YoungerMilk();
        for (int bad : new int[] {-1, 2, MIN, MAX}) {
            Due.is("P10 quarrel(0, " + bad + ")", milk.quarrel(0, bad), YoungerMilk.BAD);
        }
        for (int bad : new int[] {-1, 6, MIN, MAX}) {
            Due.is("P10 quarrel(" + bad + ", 1)", milk.quarrel(bad, 1), YoungerMilk.BAD);
        }
        Due.is("P10 at peace already", milk.quarrel(0, 0), YoungerMilk.NO);
        Due.is("P10 nothing changes", milk.count(9), 0);
        Due.is("P10 quarrel(0, 1)", milk.quarrel(0, 1), 1);
        Due.is("P10 quarrelled already", milk.quarrel(0, 1), YoungerMilk.NO);
        Due.is("P10 quarrel(5, 1)", milk.quarrel(5, 1), 2);
        Due.is("P10 quarrel(0, 0)", milk.quarrel(0, 0), 1);
        Due.is("P10 at peace", milk.younger(0, 5), 0);
        Due.is("P10 drinks again", milk.younger(0, 6), 2);
        milk.pass(10);
        Due.is("P10 has gone", milk.younger(5, 4), 0);
        Due.is("P10 a gone one is at peace no more", milk.quarrel(5, 0), YoungerMilk.NO);
        Due.is("P10 a gone one has quarrelled already", milk.quarrel(5, 1), YoungerMilk.NO);
        Due.is("P10 gone at peace", milk.younger(4, 4), 0);
        Due.is("P10 a gone one quarrels no more", milk.quarrel(4, 1), YoungerMilk.NO);
        Due.is("P10 gone ones count", milk.quarrel(0, 1), 2);
    }

    private static void cats() {
        YoungerMilk milk = new YoungerMilk();
        for (int bad : new int[] {-1, 10, MIN, MAX}) {
            Due.is("P11 cats(0, " + bad + ")", milk.cats(0, bad), YoungerMilk.BAD);
        }
        for (int bad : new int[] {-1, 5, MIN, MAX}) {
            Due.is("P11 cats(" + bad + ", 0)", milk.cats(bad, 0), YoungerMilk.BAD);
        }
        Due.is("P11 nothing changes", milk.count(9), 0);
        Due.is("P11 cats(3, 9)", milk.cats(3, 9), 1);
        Due.is("P11 more than there is", milk.step(3, 1), 9);
        Due.is("P11 cats(3, 0)", milk.cats(3, 0), 9);
        Due.is("P11 cats(3, 0) again", milk.cats(3, 0), 0);
        Due.is("P11 the shy one drinks", milk.younger(4, 6), 2);
        milk.pass(2);
        Due.is("P11 from then on", milk.younger(4, 4), 9);
        Due.is("P11 each can be undone", milk.count(9), 4);
    }

    private static void undo() {
        YoungerMilk milk = new YoungerMilk();
        Due.is("P12 nothing to undo", milk.undo(), YoungerMilk.NO);
        milk.put(0, 9);
        milk.quarrel(1, 1);
        milk.cats(2, 9);
        milk.pass(20);
        milk.see(0, 3);
        milk.write('s');
        milk.keep();
        Due.is("P12 undo days", milk.undo(), 3);
        Due.is("P12 the day", milk.count(3), 0);
        Due.is("P12 well", milk.younger(4, 4), 7);
        Due.is("P12 cats are still there", milk.step(2, 1), 9);
        Due.is("P12 undo cats", milk.undo(), 2);
        Due.is("P12 cats", milk.step(2, 1), 2);
        Due.is("P12 the quarrel is still there", milk.younger(1, 5), 1);
        Due.is("P12 undo a quarrel", milk.undo(), 1);
        Due.is("P12 peace", milk.younger(1, 5), 0);
        Due.is("P12 still set down", milk.step(0, 0), 9);
        Due.is("P12 undo what is set down", milk.undo(), 0);
        Due.is("P12 set down", milk.step(0, 0), 5);
        Due.is("P12 no more", milk.undo(), YoungerMilk.NO);
        Due.is("P12 what is seen, kept, written stays", milk.count(8) + milk.count(10) + milk.count(11), 3);
    }

    private static void undoLast() {
        YoungerMilk milk = new YoungerMilk();
        for (int i = 1; i <= 11; i++) {
            milk.put(0, i);
            Due.is("P12 that can be undone", milk.count(9), Math.min(i, 8));
        }
        for (int i = 7; i >= 0; i--) {
            Due.is("P12 undo()", milk.undo(), i);
            Due.is("P12 set down", milk.step(0, 0), i + 3);
        }
        Due.is("P12 no more than eight", milk.undo(), YoungerMilk.NO);
        milk.put(0, 20);
        milk.put(0, 21);
        Due.is("P12 undo() again", milk.undo(), 1);
        Due.is("P12 set down again", milk.step(0, 0), 20);
        Due.is("P12 undo() at last", milk.undo(), 0);
        Due.is("P12 set down at last", milk.step(0, 0), 3);
    }
}

/** BAD, NO, NONE, FULL: when each is answered, in which order, and that nothing changes then. */
public final class AnswerEdgesTest {
    private static final int NONE = YoungerMilk.NONE, NO = YoungerMilk.NO, FULL = YoungerMilk.FULL, BAD = YoungerMilk.BAD;
    private static final int LAST_STEP = -100, LAST_YOUNGER = -101;
    private static final String[] STREETS = {"s1;y0,0,0,1,9;", "s2;c1,9;y3,1,4,2,9;y1,0,4,3,2;",
        "s9;c0,9;c8,20;k8,3;y0,0,0,2,20;y1,8,1,9,20;y2,8,2,3,9;y3,8,0,1,20;y0,4,20,5,12;y1,4,20,5,2;y2,0,9,9,20;y3,4,0,2,7;"};

    /** A call of the face, and for each of its numbers the least and the most that is told. */
    private record Call(String name, int[]... told) {
        int least(int i) {
            return i < told.length ? told[i][0] : 0;
        }

        int most(int i, YoungerMilk milk) {
            int most = i < told.length ? told[i][1] : 0;
            return most == LAST_STEP ? milk.count(0) - 1 : most == LAST_YOUNGER ? milk.count(1) - 1 : most;
        }
    }

    private static final int[] STEP = {0, LAST_STEP}, YOUNGER = {0, LAST_YOUNGER}, EITHER = {0, 1};
    private static final Call[] ASKS = {new Call("step", STEP, new int[] {0, 3}), new Call("younger", YOUNGER, new int[] {0, 6}),
        new Call("behind", new int[] {0, 30}, YOUNGER), new Call("goes", YOUNGER), new Call("least", STEP, new int[] {1, 20}),
        new Call("best", new int[] {0, 99}, new int[] {1, 20}, new int[] {-1, LAST_STEP}), new Call("help", EITHER),
        new Call("within", STEP, EITHER), new Call("isCats", STEP), new Call("was", YOUNGER, new int[] {1, 20}, EITHER),
        new Call("snows", YOUNGER, new int[] {0, 8}, new int[] {0, 10}, EITHER),
        new Call("year", new int[] {0, 9999}, new int[] {1, 60}, EITHER), new Call("count", new int[] {0, 11}),
        new Call("fault"), new Call("round")};
    private static final Call[] CHANGES = {new Call("write", new int[] {32, 126}), new Call("pass", new int[] {1, 20}),
        new Call("put", STEP, new int[] {0, 40}), new Call("quarrel", YOUNGER, EITHER), new Call("cats", STEP, new int[] {0, 9}),
        new Call("see", STEP, new int[] {0, 40})};

    public static void main(String[] args) {
        constants();
        for (Call call : ASKS) {
            badNumbers(call);
            nothingChangesByAsking(call);
        }
        for (Call call : CHANGES) {
            badNumbers(call);
        }
        badAheadOfAll();
        refusedOnesChangeNothing();
        fiveHundredAndTwelveCalls();
        anyNumbersInAnyState();
        Due.end();
    }

    private static void constants() {
        Due.is("BAD", BAD, -1);
        Due.is("NO", NO, -2);
        Due.is("FULL", FULL, -3);
        Due.is("NONE", NONE, -4);
    }

    private static int call(Call call, YoungerMilk milk, int[] n) {
        return Calls.answer(milk, call.name, n[0], n[1], n[2], n[3]);
    }

    private static String told(Call call, int[] n) {
        StringBuilder told = new StringBuilder(call.name).append('(');
        for (int i = 0; i < call.told.length; i++) {
            told.append(i == 0 ? "" : ", ").append(n[i]);
        }
        return told.append(')').toString();
    }

    private static int[] leasts(Call call) {
        return new int[] {call.least(0), call.least(1), call.least(2), call.least(3)};
    }

    private static int[] mosts(Call call, YoungerMilk milk) {
        return new int[] {call.most(0, milk), call.most(1, milk), call.most(2, milk), call.most(3, milk)};
    }

    /** Each number of a call: the least and the most that is told, and what is beyond. */
    private static void badNumbers(Call call) {
        String says = "BAD: a number is none that is told (STEPS, YOUNGER ones: such as there are): ";
        for (String street : STREETS) {
            for (int i = 0; i < call.told.length; i++) {
                YoungerMilk milk = Due.laid(street);
                int least = call.least(i);
                int most = call.most(i, milk);
                for (int[] n : new int[][] {leasts(call), mosts(call, milk)}) {
                    for (int so : new int[] {least, most}) {
                        n[i] = so;
                        Due.is(says + told(call, n) + " is not", call(call, milk, n) == BAD ? 1 : 0, 0);
                    }
                    for (int bad : new int[] {least - 1, most + 1, -most - 3, Integer.MIN_VALUE, Integer.MIN_VALUE + most,
                        Integer.MAX_VALUE, 65536 + most, -65536 + most}) {
                        n[i] = bad;
                        Due.is(says + told(call, n), call(call, milk, n), BAD);
                    }
                }
            }
        }
    }

    /** A street with something of all: days, a quarrel, one that has gone, what is seen, kept, undone, and a text. */
    private static YoungerMilk busy() {
        YoungerMilk milk = Due.laid(STREETS[2]);
        milk.quarrel(4, 1);
        milk.keep();
        milk.pass(2);
        milk.put(4, 7);
        milk.cats(4, 1);
        milk.see(8, 3);
        milk.see(0, 0);
        return milk;
    }

    private static void nothingChangesByAsking(Call call) {
        YoungerMilk milk = busy();
        String was = Calls.state(milk);
        int[] least = leasts(call);
        int[] most = mosts(call, milk);
        int first = call(call, milk, least);
        int second = call(call, milk, most);
        Due.is("nothing changes by " + told(call, least) + ", " + told(call, most), Calls.state(milk), was);
        Due.is(told(call, least) + " answers the same again", call(call, milk, least), first);
        Due.is(told(call, most) + " answers the same again", call(call, milk, most), second);
        Due.is("undo() behind " + told(call, most), milk.undo(), 3);
        Due.is("cats are as they were ahead of it", milk.step(4, 1), 0);
        Due.is("back() behind " + told(call, most), milk.back(), 0);
    }

    private static void badAheadOfAll() {
        String says = "Of several the first in this order (BAD, NO, NONE, FULL), whatever the order at a call";
        YoungerMilk milk = Due.laid("s1;k0,1;c0,9;y3,0,0,9,1;y0,0,0,1,20;");
        milk.pass(1);
        Due.is(says + ": NO", milk.quarrel(0, 1), NO);
        Due.is(says + ": quarrel, NO and BAD", milk.quarrel(0, 2), BAD);
        Due.is(says + ": NO", milk.was(0, 1, 1), NO);
        Due.is(says + ": was, NO and BAD", milk.was(0, 0, 1), BAD);
        Due.is(says + ": not NONE", milk.was(1, 20, 1), 1);
        milk.put(0, 0);
        Due.is(says + ": NONE", milk.was(1, 1, 1), NONE);
        Due.is(says + ": was, NONE and BAD", milk.was(1, 21, 1), BAD);
        milk.see(0, 1);
        Due.is(says + ": NONE", milk.within(0, 1), NONE);
        Due.is(says + ": within, NONE and BAD", milk.within(1, 1), BAD);
        milk.quarrel(1, 1);
        Due.is(says + ": NONE", milk.help(0), NONE);
        Due.is(says + ": help, NONE and BAD", milk.help(2), BAD);
        Due.is(says + ": NONE", milk.least(0, 20), NONE);
        Due.is(says + ": least, NONE and BAD", milk.least(0, 21), BAD);
        for (int i = 0; i < 5; i++) {
            milk.see(0, 1);
        }
        Due.is(says + ": FULL", milk.see(0, 1), FULL);
        Due.is(says + ": see, FULL and BAD", milk.see(0, -1), BAD);
        Due.is(says + ": see, FULL and BAD", milk.see(1, 1), BAD);
        for (int i = 0; i < 200; i++) {
            milk.write(' ');
        }
        Due.is(says + ": FULL", milk.write(' '), FULL);
        Due.is(says + ": write, FULL and BAD", milk.write(31), BAD);
    }

    private static void refused(String says, YoungerMilk milk, String call, int want, int... n) {
        Due.is(says + ": " + call, Calls.answer(milk, call, n[0], n[1], 0, 0), want);
    }

    private static void refusedOnesChangeNothing() {
        String says = "nothing changes then";
        YoungerMilk milk = busy();
        milk.keep();
        for (int i = 0; i < 4; i++) {
            milk.see(0, 40);
        }
        String was = Calls.state(milk);
        refused(says, milk, "write", BAD, 127, 0);
        refused(says, milk, "pass", BAD, 0, 0);
        refused(says, milk, "pass", BAD, 21, 0);
        refused(says, milk, "put", BAD, 0, 41);
        refused(says, milk, "put", BAD, 9, 1);
        refused(says, milk, "quarrel", BAD, 8, 1);
        refused(says, milk, "quarrel", NO, 0, 0);
        refused(says, milk, "quarrel", NO, 5, 1);
        refused(says, milk, "cats", BAD, 0, 10);
        refused(says, milk, "cats", BAD, -1, 1);
        refused(says, milk, "see", BAD, 9, 0);
        refused(says, milk, "see", FULL, 0, 0);
        refused(says, milk, "keep", FULL, 0, 0);
        Due.is(says, Calls.state(milk), was);
        Due.is(says + ": undo()", milk.undo(), 3);
        Due.is(says + ": cats are as they were ahead", milk.step(4, 1), 0);
        Due.is(says + ": what was kept last", milk.back(), 1);
        Due.is(says + ": is as it was", milk.step(4, 0) + 10 * milk.step(4, 1), 17);

        milk = Due.laid("y0,0,0,1,9;");
        was = Calls.state(milk);
        refused(says, milk, "undo", NO, 0, 0);
        refused(says, milk, "back", NO, 0, 0);
        Due.is(says + ": undo(), back()", Calls.state(milk), was);
        milk.write('h');
        was = Calls.state(milk);
        refused(says, milk, "lay", NO, 0, 0);
        Due.is(says + ": lay()", Calls.state(milk), was);
    }

    private static void fiveHundredAndTwelveCalls() {
        String says = "An object is used for at most 512 calls";
        YoungerMilk milk = new YoungerMilk();
        for (int i = 1; i < 512; i++) {
            Due.is(says + ": pass(20)", milk.pass(20), 20 * i);
        }
        Due.is(says + ": the last of them", milk.count(3), 20 * 511);
        milk = new YoungerMilk();
        for (int i = 1; i < 512; i++) {
            milk.put(0, i % 41);
        }
        Due.is(says + ": the last of them, of acts", milk.undo(), 7);
    }

    /** No call throws, whatever its numbers are, and whatever was done. */
    private static void anyNumbersInAnyState() {
        int[] numbers = {Integer.MIN_VALUE, -65536, -9, -1, 0, 1, 7, 8, 9, 10, 40, 99, 100, 65536, Integer.MAX_VALUE};
        for (Call[] calls : new Call[][] {ASKS, CHANGES}) {
            for (Call call : calls) {
                for (int i = 0; i < call.told.length; i++) {
                    YoungerMilk milk = busy();
                    for (int all : numbers) {
                        int answer = call(call, milk, new int[] {all, all, all, all});
                        Due.is(call.name + " of " + all + " answers no less than NONE", Math.min(answer, NONE), NONE);
                        int[] n = leasts(call);
                        n[i] = all;
                        answer = call(call, milk, n);
                        Due.is(told(call, n) + " answers no less than NONE", Math.min(answer, NONE), NONE);
                    }
                }
            }
        }
    }
}

/** What the document names as too small, too large, empty, full of days and acts: a sentence a test. */
public final class DayEdgesTest {
    private static final int NO = YoungerMilk.NO, BAD = YoungerMilk.BAD;
    private static final int PLAIN = 0, PROUD = 1, GREEDY = 2, SHY = 3;

    public static void main(String[] args) {
        nobodyAtFirst();
        catsFirst();
        notThoseThatQuarrelledOrHaveGone();
        lowestAgeAhead();
        asFarAsItGoes();
        wants();
        shyOnesWhereCatsDrank();
        leftOver();
        wellByOneMore();
        twentyAtMost();
        wellByLess();
        wellByOneLessOfQuarrel();
        goneByZeroOrLess();
        goneForGood();
        nextDay();
        setDownFromThenOn();
        catsFromThenOn();
        quarrels();
        quarrelsOfGoneOnes();
        latestFirst();
        lastEight();
        daysAtOneTime();
        undoOfEach();
        notUndone();
        oneStepThere();
        younger();
        Due.end();
    }

    private static String one(int kind, int needs, int well) {
        return "y" + kind + ",0,0," + needs + "," + well + ";";
    }

    private static int want(int kind, int needs) {
        return kind == PROUD ? needs / 2 + 1 : kind == GREEDY ? 2 * needs : needs;
    }

    private static void nobodyAtFirst() {
        String says = "At first nobody has QUARRELLED, GONE";
        YoungerMilk milk = Due.laid("y0,0,0,9,1;y1,0,0,9,1;y2,0,0,9,1;y3,0,0,9,1;");
        Due.is(says + ": quarrelled", milk.count(5), 0);
        Due.is(says + ": gone", milk.count(4), 0);
        Due.is(says + ": all are there", milk.step(0, 3), 15);
        for (int y = 0; y < 4; y++) {
            Due.is(says + ": well", milk.younger(y, 4), 1);
            Due.is(says + ": at peace", milk.younger(y, 5), 0);
        }
    }

    private static void catsFirst() {
        String says = "CATS drink first of what is SET DOWN there, as much as they do, as far as it goes";
        for (int c = 0; c <= 9; c++) {
            for (int m = 0; m <= 40; m += m < 12 ? 1 : 28) {
                YoungerMilk milk = Due.laid("s2;c0," + m + ";k0," + c + ";c1,40;k1,9;y2,0,0,9,9;");
                int rest = m > c ? m - c : 0;
                Due.is(says + ": " + c + " of " + m, milk.younger(0, 6), rest < 18 ? rest : 18);
                Due.is(says + ": left over of " + m, milk.step(0, 2), rest < 18 ? 0 : rest - 18);
                Due.is(says + ": nothing else of another step", milk.step(1, 2), 31);
            }
        }
    }

    private static void notThoseThatQuarrelledOrHaveGone() {
        String says = "then YOUNGER ones there that have not QUARRELLED, GONE";
        YoungerMilk milk = Due.laid("c0,6;y0,0,0,3,3;y0,0,1,3,20;y0,0,2,3,20;");
        milk.quarrel(0, 1);
        drinks(says + ": one has quarrelled", milk, 0, 3, 3);
        milk.quarrel(1, 1);
        drinks(says + ": two have quarrelled", milk, 0, 0, 3);
        milk.pass(3);
        Due.is(says + ": one has gone", milk.younger(0, 4), 0);
        milk.quarrel(1, 0);
        drinks(says + ": who has gone drinks nothing", milk, 0, 3, 3);
        milk = Due.laid("c0,3;y0,0,1,3,20;y0,0,0,3,20;y0,1,0,3,20;c1,3;");
        milk.quarrel(1, 1);
        drinks(says + ": others there drink it, not elsewhere", milk, 3, 0, 3);
    }

    private static void drinks(String says, YoungerMilk milk, int... want) {
        for (int y = 0; y < want.length; y++) {
            Due.is(says + ", younger(" + y + ", 6)", milk.younger(y, 6), want[y]);
        }
    }

    private static void lowestAgeAhead() {
        String says = "the lowest AGE ahead, of several the lowest";
        drinks(says + ": 0 ahead of 20", Due.laid("c0,1;y0,0,20,1,9;y0,0,0,1,9;"), 0, 1);
        drinks(says + ": 9 ahead of 10", Due.laid("c0,1;y0,0,10,1,9;y0,0,9,1,9;"), 0, 1);
        drinks(says + ": the lowest of two", Due.laid("c0,1;y0,0,20,1,9;y0,0,20,1,9;"), 1, 0);
        drinks(says + ": the lowest of three", Due.laid("c0,2;y0,0,3,1,9;y0,0,2,1,9;y0,0,2,1,9;y0,0,3,1,9;"), 0, 1, 1, 0);
        drinks(says + ": the lowest of eight", Due.laid("c0,5;y0,0,5,1,9;y0,0,5,1,9;y0,0,4,1,9;y0,0,5,1,9;y0,0,4,1,9;"
            + "y0,0,6,1,9;y0,0,4,1,9;y0,0,5,1,9;"), 1, 1, 1, 0, 1, 0, 1, 0);
        drinks(says + ": whatever its kind", Due.laid("c0,9;y0,0,1,1,9;y2,0,0,9,1;"), 0, 9);
        drinks(says + ": other steps aside", Due.laid("c0,1;c1,1;y0,1,9,1,9;y0,0,20,1,9;y0,1,8,1,9;y0,0,19,1,9;"), 0, 0, 1, 1);
    }

    private static void asFarAsItGoes() {
        String says = "each as much as it WANTS, as far as it goes";
        for (int m = 0; m <= 12; m++) {
            YoungerMilk milk = Due.laid("c0," + m + ";y0,0,0,3,9;y1,0,1,5,9;y2,0,2,2,9;");
            int first = Math.min(3, m);
            int second = Math.min(3, m - first);
            int third = Math.min(4, m - first - second);
            drinks(says + ": of " + m, milk, first, second, third);
            Due.is(says + ": left over of " + m, milk.step(0, 2), m - first - second - third);
        }
    }

    private static void wants() {
        String says = "A PLAIN one WANTS what it NEEDS, a PROUD one half of that, cut, and 1, a GREEDY one twice what it NEEDS, "
            + "a SHY one what it NEEDS";
        for (int kind = PLAIN; kind <= SHY; kind++) {
            for (int needs = 1; needs <= 9; needs++) {
                int want = want(kind, needs);
                for (int m : new int[] {0, 1, want - 1, want, want + 1, 40}) {
                    YoungerMilk milk = Due.laid("c0," + m + ";" + one(kind, needs, 9));
                    Due.is(says + ": kind " + kind + " needs " + needs + " of " + m, milk.younger(0, 6), Math.min(m, want));
                    Due.is(says + ": left over", milk.step(0, 2), m - Math.min(m, want));
                }
            }
        }
    }

    private static void shyOnesWhereCatsDrank() {
        String says = "a SHY one .. nothing, if CATS drank anything there that DAY";
        drinks(says + ": one drop", Due.laid("c0,9;k0,1;" + one(SHY, 2, 9)), 0);
        drinks(says + ": nine", Due.laid("c0,40;k0,9;" + one(SHY, 2, 9)), 0);
        drinks(says + ": none that drink", Due.laid("c0,9;k0,0;" + one(SHY, 2, 9)), 2);
        drinks(says + ": at another step", Due.laid("c0,9;c1,9;k1,9;" + one(SHY, 2, 9)), 2);
        for (int kind = PLAIN; kind < SHY; kind++) {
            drinks(says + ": not kind " + kind, Due.laid("c0,40;k0,1;" + one(kind, 2, 9)), want(kind, 2));
        }
        YoungerMilk milk = Due.laid("k0,5;c0,5;y3,0,0,2,9;y0,0,1,2,9;");
        milk.put(0, 0);
        Due.is(says + ": cats that find nothing", milk.behind(1, 0), 7);
        milk.put(0, 9);
        drinks(says + ": cats that find something again", milk, 0, 2);
        milk.cats(0, 0);
        drinks(says + ": cats that have left", milk, 2, 2);
    }

    private static void leftOver() {
        String says = "The rest is LEFT OVER";
        Due.is(says + ": of nothing", Due.laid(one(PLAIN, 1, 1)).step(0, 2), 0);
        Due.is(says + ": nothing", Due.laid("c0,1;" + one(PLAIN, 1, 1)).step(0, 2), 0);
        Due.is(says + ": where nobody is", Due.laid("s9;c8,40;" + one(PLAIN, 1, 1)).step(8, 2), 40);
        Due.is(says + ": where cats are alone", Due.laid("s9;c8,9;k8,9;" + one(PLAIN, 1, 1)).step(8, 2), 0);
        Due.is(says + ": in all", Due.laid("s9;c0,40;c1,40;c2,40;c3,40;c4,40;c5,40;c6,40;c7,40;c8,40;" + one(PLAIN, 1, 1)).count(7),
            359);
    }

    /** How well one is a day later that is well by 10 and drank so much. */
    private static int later(int kind, int needs, int drunk) {
        boolean enough = drunk >= needs || kind == PROUD && drunk >= want(kind, needs);
        return enough ? 11 : kind == PROUD ? 9 : 10 - (needs - drunk);
    }

    private static void wellByOneMore() {
        String says = "Who drank as much as it NEEDS, or more, is WELL by 1 more; of a PROUD one it is enough to have what it WANTS";
        for (int kind = PLAIN; kind <= SHY; kind++) {
            for (int needs = 1; needs <= 9; needs++) {
                int enough = kind == PROUD ? want(kind, needs) : needs;
                for (int m : new int[] {enough, enough + 1, 2 * needs, 40}) {
                    YoungerMilk milk = Due.laid("c0," + Math.max(m, enough) + ";" + one(kind, needs, 10));
                    milk.pass(1);
                    Due.is(says + ": kind " + kind + " needs " + needs + " of " + m, milk.younger(0, 4), 11);
                }
            }
        }
    }

    private static void twentyAtMost() {
        String says = "WELL by 1 more (20 at most)";
        for (int kind = PLAIN; kind <= SHY; kind++) {
            for (int well = 18; well <= 20; well++) {
                YoungerMilk milk = Due.laid("c0,40;" + one(kind, 9, well));
                milk.pass(1);
                Due.is(says + ": from " + well, milk.younger(0, 4), Math.min(20, well + 1));
                milk.pass(20);
                Due.is(says + ": for long", milk.younger(0, 4), 20);
            }
        }
    }

    private static void wellByLess() {
        String says = "Else it is WELL by as much less as is wanting to what it NEEDS, but a PROUD one by 1 less";
        for (int kind = PLAIN; kind <= SHY; kind++) {
            for (int needs = 1; needs <= 9; needs++) {
                for (int m = 0; m < needs; m++) {
                    YoungerMilk milk = Due.laid("c0," + m + ";" + one(kind, needs, 10));
                    milk.pass(1);
                    Due.is(says + ": kind " + kind + " needs " + needs + " of " + m, milk.younger(0, 4), later(kind, needs, m));
                }
            }
        }
        YoungerMilk milk = Due.laid("c0,9;k0,1;" + one(SHY, 9, 10));
        milk.pass(1);
        Due.is(says + ": a shy one that leaves it", milk.younger(0, 4), 1);
    }

    private static void wellByOneLessOfQuarrel() {
        String says = "one that has QUARRELLED by 1 less";
        for (int kind = PLAIN; kind <= SHY; kind++) {
            for (int needs = 1; needs <= 9; needs++) {
                YoungerMilk milk = Due.laid("c0,40;" + one(kind, needs, 10));
                milk.quarrel(0, 1);
                milk.pass(1);
                Due.is(says + ": kind " + kind + " needs " + needs, milk.younger(0, 4), 9);
                milk.quarrel(0, 0);
                milk.pass(1);
                Due.is(says + ": at peace again", milk.younger(0, 4), 10);
            }
        }
    }

    private static void goneByZeroOrLess() {
        String says = "Is it WELL by 0 or less, it has GONE (0)";
        for (int less = 1; less <= 9; less++) {
            for (int well = 1; well <= 10; well++) {
                YoungerMilk milk = Due.laid(one(PLAIN, less, well));
                milk.pass(1);
                Due.is(says + ": " + well + " less " + less, milk.younger(0, 4), Math.max(0, well - less));
                Due.is(says + ": how many", milk.count(4), well > less ? 0 : 1);
                Due.is(says + ": who is there", milk.step(0, 3), well > less ? 1 : 0);
            }
        }
        YoungerMilk milk = Due.laid(one(PROUD, 9, 2));
        milk.pass(1);
        Due.is(says + ": a proud one", milk.younger(0, 4), 1);
        milk.pass(1);
        Due.is(says + ": a proud one is gone", milk.count(4), 1);
        milk = Due.laid("c0,40;" + one(PLAIN, 9, 1));
        milk.quarrel(0, 1);
        milk.pass(1);
        Due.is(says + ": one that quarrelled", milk.count(4), 1);
    }

    private static void goneForGood() {
        String says = "it has GONE (0)";
        for (int kind = PLAIN; kind <= SHY; kind++) {
            YoungerMilk milk = Due.laid(one(kind, 9, 1));
            milk.pass(1);
            milk.put(0, 40);
            milk.pass(1);
            Due.is(says + ": whatever is set down", milk.younger(0, 4), 0);
            Due.is(says + ": it drinks nothing", milk.younger(0, 6), 0);
            Due.is(says + ": it is all left over", milk.step(0, 2), 40);
            Due.is(says + ": it has not quarrelled", milk.younger(0, 5), 0);
            milk.pass(20);
            Due.is(says + ": for long", milk.count(4), 1);
        }
    }

    private static void nextDay() {
        String says = "P8 n DAYS (1 to 20) go by: which it is";
        for (int n = 1; n <= 20; n++) {
            YoungerMilk milk = new YoungerMilk();
            YoungerMilk slow = new YoungerMilk();
            Due.is(says, milk.pass(n), n);
            for (int i = 1; i <= n; i++) {
                Due.is(says + ": one by one", slow.pass(1), i);
            }
            for (int y = 0; y < 6; y++) {
                Due.is(says + ": as day by day, " + y, milk.younger(y, 4), slow.younger(y, 4));
            }
        }
        YoungerMilk milk = new YoungerMilk();
        for (int bad : new int[] {0, 21, -1, -20, Integer.MIN_VALUE, Integer.MAX_VALUE}) {
            Due.is(says + ": pass(" + bad + ")", milk.pass(bad), BAD);
        }
        Due.is(says + ": nothing changes", Calls.state(milk), Calls.state(new YoungerMilk()));
    }

    private static void setDownFromThenOn() {
        String says = "P9 M is SET DOWN: what was";
        YoungerMilk milk = Due.laid("s9;c8,40;" + one(PLAIN, 1, 20));
        Due.is(says + ": nothing", milk.put(8, 0), 40);
        Due.is(says + ": all that can be", milk.put(8, 40), 0);
        Due.is(says + ": the same", milk.put(8, 40), 40);
        Due.is(says + ": the same is an act too", milk.count(9), 3);
        Due.is(says + ": and can be undone", milk.undo(), 2);
        Due.is(says + ": nothing else is", milk.step(8, 0), 40);
        milk.pass(20);
        Due.is(says + ": from then on", milk.step(8, 0), 40);
        Due.is(says + ": one more than can be", milk.put(8, 41), BAD);
        Due.is(says + ": one less than can be", milk.put(8, -1), BAD);
        Due.is(says + ": one step too far", milk.put(9, 1), BAD);
        Due.is(says + ": nothing changes", milk.count(6), 40);
    }

    private static void catsFromThenOn() {
        String says = "P11 CATS drink C: what they did";
        YoungerMilk milk = Due.laid("s9;c8,40;k8,9;" + one(PLAIN, 1, 20));
        Due.is(says + ": nothing", milk.cats(8, 0), 9);
        Due.is(says + ": all that can be", milk.cats(8, 9), 0);
        Due.is(says + ": the same", milk.cats(8, 9), 9);
        Due.is(says + ": the same is an act too", milk.count(9), 3);
        Due.is(says + ": and can be undone", milk.undo(), 2);
        Due.is(says + ": nothing else is", milk.step(8, 1), 9);
        milk.pass(20);
        Due.is(says + ": from then on", milk.step(8, 2), 31);
        Due.is(says + ": one more than can be", milk.cats(8, 10), BAD);
        Due.is(says + ": one less than can be", milk.cats(8, -1), BAD);
        Due.is(says + ": one step too far", milk.cats(9, 1), BAD);
        Due.is(says + ": nothing changes", milk.step(8, 1), 9);
    }

    private static void quarrels() {
        String says = "P10 A YOUNGER one QUARRELS (1), is at peace (0): how many have QUARRELLED";
        YoungerMilk milk = Due.laid("y0,0,0,1,20;".repeat(8));
        for (int y = 0; y < 8; y++) {
            Due.is("P10 NO: it is so, at peace", milk.quarrel(y, 0), NO);
            Due.is(says + ": " + y, milk.quarrel(y, 1), y + 1);
            Due.is("P10 NO: it is so, quarrelled", milk.quarrel(y, 1), NO);
            Due.is(says + ": that many", milk.count(5), y + 1);
        }
        Due.is("P10 BAD ahead of NO", milk.quarrel(7, 2), BAD);
        Due.is(says + ": one too many", milk.quarrel(8, 1), BAD);
        for (int y = 7; y >= 0; y--) {
            Due.is(says + ": peace with " + y, milk.quarrel(y, 0), y);
        }
    }

    private static void quarrelsOfGoneOnes() {
        String says = "P10 how many have QUARRELLED (GONE ones, too)";
        YoungerMilk milk = Due.laid("y1,0,0,1,1;y1,0,0,1,1;y1,0,0,1,20;y1,0,0,1,20;");
        milk.quarrel(0, 1);
        milk.pass(1);
        Due.is(says + ": one more", milk.quarrel(2, 1), 2);
        Due.is(says + ": one less", milk.quarrel(2, 0), 1);
        Due.is(says + ": count(5)", milk.count(5), 1);
        Due.is(says + ": it is told of it", milk.younger(0, 5), 1);
        Due.is("P10 NO: it has GONE, quarrelled", milk.quarrel(0, 0), NO);
        Due.is("P10 NO: it has GONE, and is so", milk.quarrel(0, 1), NO);
        Due.is("P10 NO: it has GONE, at peace", milk.quarrel(1, 1), NO);
        Due.is("P10 NO: it has GONE, and is at peace", milk.quarrel(1, 0), NO);
        Due.is("P10 BAD ahead of NO: it has GONE", milk.quarrel(0, -1), BAD);
        Due.is("P10 nothing changes by NO", milk.count(5), 1);
        Due.is("P10 nothing to undo by NO", milk.count(9), 4);
    }

    /** Does so many acts, each of which can be told. */
    private static void putInTurn(YoungerMilk milk, int first, int last) {
        for (int m = first; m <= last; m++) {
            milk.put(0, m);
        }
    }

    private static void latestFirst() {
        String says = "UNDONE are the latest of these";
        YoungerMilk milk = Due.laid("y0,0,0,1,20;");
        Due.is(says + ": nothing", milk.undo(), NO);
        putInTurn(milk, 1, 3);
        Due.is(says + ": how many more can be", milk.undo(), 2);
        Due.is(says + ": the latest", milk.step(0, 0), 2);
        putInTurn(milk, 9, 9);
        Due.is(says + ": one more came", milk.count(9), 3);
        Due.is(says + ": that one", milk.undo(), 2);
        Due.is(says + ": that was ahead of it", milk.step(0, 0), 2);
        Due.is(says + ": the second", milk.undo(), 1);
        Due.is(says + ": the first", milk.undo(), 0);
        Due.is(says + ": nothing is set down", milk.step(0, 0), 0);
        Due.is(says + ": no more", milk.undo(), NO);
        Due.is(says + ": nothing changes by NO", milk.count(9), 0);
    }

    private static void lastEight() {
        String says = "UNDONE: the last 8 can be";
        for (int acts = 0; acts <= 26; acts++) {
            YoungerMilk milk = Due.laid("y0,0,0,1,20;");
            putInTurn(milk, 1, acts);
            int can = Math.min(8, acts);
            Due.is(says + ": of " + acts, milk.count(9), can);
            for (int i = 1; i <= can; i++) {
                Due.is(says + ": how many more of " + acts, milk.undo(), can - i);
                Due.is(says + ": what was set down", milk.step(0, 0), acts - i);
            }
            Due.is(says + ": no more of " + acts, milk.undo(), NO);
            Due.is(says + ": it stays so", milk.step(0, 0), acts - can);
            putInTurn(milk, 30, 32);
            milk.undo();
            Due.is(says + ": again behind " + acts, milk.step(0, 0), 31);
            putInTurn(milk, 33, 39);
            Due.is(says + ": the last 8 again", milk.count(9), 8);
        }
    }

    private static void daysAtOneTime() {
        String says = "DAYS (all that go by at one time are one)";
        YoungerMilk milk = new YoungerMilk();
        String was = Calls.state(milk);
        milk.pass(20);
        Due.is(says, milk.count(9), 1);
        Due.is(says + ": undo()", milk.undo(), 0);
        Due.is(says + ": all as it was", Calls.state(milk), was);
        for (int i = 0; i < 9; i++) {
            milk.pass(1 + i);
        }
        for (int i = 8; i > 0; i--) {
            milk.undo();
            Due.is(says + ": the day", milk.count(3), i * (i + 1) / 2);
        }
        Due.is(says + ": the first is none of the last 8", milk.undo(), NO);
    }

    private static void undoOfEach() {
        String says = "P12 UNDONE";
        YoungerMilk milk = new YoungerMilk();
        for (int i = 0; i < 4; i++) {
            String was = Calls.state(milk);
            int acts = milk.count(9);
            switch (i) {
                case 0: milk.put(4, 40); break;
                case 1: milk.quarrel(5, 1); break;
                case 2: milk.cats(3, 0); break;
                default: milk.pass(7); break;
            }
            Due.is(says + ": act " + i + " can be undone", milk.count(9), acts + 1);
            Due.is(says + ": act " + i, milk.undo(), acts);
            Due.is(says + ": as it was ahead of act " + i, Calls.state(milk), was);
            milk.pass(1);
        }
        milk = new YoungerMilk();
        milk.quarrel(5, 1);
        milk.pass(20);
        Due.is(says + ": one has gone", milk.younger(5, 4), 0);
        milk.undo();
        Due.is(says + ": and is there again", milk.younger(5, 4), 10);
        milk.quarrel(5, 0);
        milk.undo();
        Due.is(says + ": peace, too", milk.younger(5, 5), 1);
    }

    private static void notUndone() {
        String says = "P12 UNDONE are these, and nothing else";
        YoungerMilk milk = new YoungerMilk();
        milk.put(0, 41);
        milk.quarrel(0, 0);
        milk.cats(0, 10);
        milk.pass(0);
        milk.pass(21);
        milk.see(0, 3);
        milk.forget();
        milk.see(0, 3);
        milk.keep();
        milk.write('s');
        milk.year(1, 60, 0);
        milk.best(99, 20, -1);
        Due.is(says + ": refused acts, questions", milk.count(9), 0);
        Due.is(says + ": NO", milk.undo(), NO);
        milk.put(0, 9);
        milk.see(1, 3);
        milk.keep();
        milk.write('5');
        Due.is(says + ": the act", milk.undo(), 0);
        Due.is(says + ": what is seen stays", milk.count(8), 2);
        Due.is(says + ": what is kept stays", milk.count(10), 2);
        Due.is(says + ": the text stays", milk.count(11), 2);
        Due.is(says + ": what was kept is as it was", milk.back() + 10 * milk.step(0, 0), 91);
    }

    private static void oneStepThere() {
        String says = "P6 what is SET DOWN, what CATS drink, what would be LEFT OVER this DAY, YOUNGER ones that have not GONE (bits)";
        YoungerMilk milk = Due.laid("s9;c8,40;k8,9;c0,1;y0,8,0,9,1;y0,8,0,9,20;y1,0,0,9,1;y0,8,0,9,20;y0,8,0,9,20;y1,8,0,9,1;"
            + "y0,0,0,9,20;y0,8,0,9,9;");
        int[] want = {40, 9, 0, 0b10111011};
        for (int what = 0; what < 4; what++) {
            Due.is(says + ": step(8, " + what + ")", milk.step(8, what), want[what]);
        }
        Due.is(says + ": where nobody is", milk.step(4, 3), 0);
        Due.is(says + ": the others", milk.step(0, 3), 0b01000100);
        milk.quarrel(7, 1);
        Due.is(says + ": who has quarrelled is there", milk.step(8, 3), 0b10111011);
        milk.pass(1);
        Due.is(says + ": who has gone is not", milk.step(8, 3), 0b10011011);
        Due.is(says + ": what = 4", milk.step(8, 4), BAD);
        Due.is(says + ": what = -1", milk.step(8, -1), BAD);
        Due.is(says + ": step 9", milk.step(9, 0), BAD);
    }

    private static void younger() {
        String says = "P7 by how much it is WELL (0: GONE), 1 if it has QUARRELLED, what it would drink this DAY (GONE, QUARRELLED: 0)";
        YoungerMilk milk = Due.laid("c0,40;y0,0,0,9,1;y0,0,0,9,20;y1,1,0,9,1;");
        milk.quarrel(0, 1);
        Due.is(says + ": quarrelled", milk.younger(0, 5), 1);
        Due.is(says + ": it drinks nothing", milk.younger(0, 6), 0);
        Due.is(says + ": the other", milk.younger(1, 6), 9);
        milk.pass(1);
        Due.is(says + ": gone, quarrelled", milk.younger(0, 4), 0);
        Due.is(says + ": it has quarrelled still", milk.younger(0, 5), 1);
        Due.is(says + ": gone, at peace", milk.younger(2, 4), 0);
        Due.is(says + ": it has not quarrelled", milk.younger(2, 5), 0);
        Due.is(says + ": it drinks nothing", milk.younger(2, 6), 0);
        for (int what = 0; what < 4; what++) {
            Due.is(says + ": what it was, stays", milk.younger(2, what), new int[] {1, 1, 0, 9}[what]);
        }
        Due.is(says + ": what = 7", milk.younger(0, 7), BAD);
        Due.is(says + ": what = -1", milk.younger(0, -1), BAD);
        Due.is(says + ": one more than there are", milk.younger(3, 0), BAD);
    }
}

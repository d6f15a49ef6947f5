/** What the document names as too small, too large, empty, full of what comes: a sentence a test. */
public final class ComeEdgesTest {
    private static final int NONE = YoungerMilk.NONE, BAD = YoungerMilk.BAD;
    private static final String FAR = "s9;y0,0,0,1,20;";

    public static void main(String[] args) {
        behindNoDayAndThirty();
        behindOfGoneOnes();
        goneBehindSoManyDays();
        goesOrNone();
        leastBetween();
        leastBehindDays();
        leastOfThatStep();
        leastForNobody();
        roundOfNothing();
        roundWithHAtMost();
        roundLeavesOut();
        roundByOneJourney();
        roundAtLeast();
        waysOfNothing();
        waysOfAllThereIs();
        waysOfNineAtMost();
        waysBehindDays();
        waysOfLeastInSum();
        waysThatAreFirst();
        waysAtEachStep();
        helpOfNobody();
        helpBehindTenDays();
        helpOfOthers();
        helpOfTheLowest();
        helpOfEight();
        Due.end();
    }

    private static void behindNoDayAndThirty() {
        String says = "BEHIND n (0 to 30) DAYS by how much a YOUNGER one is WELL";
        YoungerMilk milk = Due.laid("s9;y0,8,0,1,20;y1,0,0,9,20;c0,5;");
        Due.is(says + ": 0", milk.behind(0, 0), 20);
        Due.is(says + ": 1", milk.behind(1, 0), 19);
        Due.is(says + ": 19", milk.behind(19, 0), 1);
        Due.is(says + ": 20", milk.behind(20, 0), 0);
        Due.is(says + ": 30", milk.behind(30, 0), 0);
        Due.is(says + ": 20 at most", milk.behind(30, 1), 20);
        Due.is(says + ": 31", milk.behind(31, 0), BAD);
        Due.is(says + ": -1", milk.behind(-1, 0), BAD);
        Due.is(says + ": nobody", milk.behind(0, 2), BAD);
        Due.is(says + ": nobody", milk.behind(0, -1), BAD);
        // the one ahead goes the second day; the other fades till then, and drinks from then on
        milk = Due.laid("c0,2;y0,0,0,9,10;y1,0,1,2,10;");
        int[] want = {10, 9, 8, 9, 10, 11, 12, 13, 14, 15, 16, 17, 18, 19, 20, 20, 20};
        for (int n = 0; n < want.length; n++) {
            Due.is(says + ": " + n + " of one that fades and thrives", milk.behind(n, 1), want[n]);
        }
    }

    private static void behindOfGoneOnes() {
        String says = "BEHIND, of one that has GONE";
        YoungerMilk milk = Due.laid("y0,0,0,9,1;y0,0,0,1,20;");
        milk.pass(1);
        milk.put(0, 40);
        Due.is(says + ": 0", milk.behind(0, 0), 0);
        Due.is(says + ": 30", milk.behind(30, 0), 0);
        Due.is(says + ": the other drinks", milk.behind(1, 1), 20);
    }

    private static void goneBehindSoManyDays() {
        String says = "GOES: behind how many DAYS (1 to 60) it has GONE first (0: it has)";
        for (int well = 1; well <= 20; well++) {
            YoungerMilk milk = Due.laid("y1,0,0,9," + well + ";");
            Due.is(says + ": one less a day of " + well, milk.goes(0), well);
            Due.is(says + ": nine less a day of " + well, Due.laid("y0,0,0,9," + well + ";").goes(0), (well + 8) / 9);
            milk.pass(well);
            Due.is(says + ": it has", milk.goes(0), 0);
            milk.put(0, 40);
            Due.is(says + ": it has, whatever is set down", milk.goes(0), 0);
        }
    }

    private static void goesOrNone() {
        String says = "GOES: none";
        Due.is(says + ": of enough", Due.laid("c0,1;y0,0,0,1,1;").goes(0), NONE);
        Due.is(says + ": one less than enough", Due.laid("c0,1;y0,0,0,2,1;").goes(0), 1);
        // the one ahead goes the second day; the other is well by 1 then, and drinks from then on
        Due.is(says + ": it was close", Due.laid("c0,2;y0,0,0,9,10;y1,0,1,2,3;").goes(1), NONE);
        Due.is(says + ": it was too close", Due.laid("c0,2;y0,0,0,9,10;y1,0,1,2,2;").goes(1), 2);
        Due.is(says + ": of nobody", Due.laid("c0,1;y0,0,0,1,1;").goes(1), BAD);
        Due.is(says + ": of nobody", Due.laid("c0,1;y0,0,0,1,1;").goes(-1), BAD);
        YoungerMilk milk = Due.laid("c0,1;y0,0,0,1,20;");
        milk.quarrel(0, 1);
        Due.is(says + ": not of one that quarrelled", milk.goes(0), 20);
    }

    private static void leastBetween() {
        String says = "LEAST: the least M (0 to 40); none";
        Due.is(says + ": 0", Due.laid("c0,9;y1,0,0,1,2;").least(0, 1), 0);
        Due.is(says + ": 1", Due.laid("c0,9;y1,0,0,1,1;").least(0, 1), 1);
        // two greedy ones of 18, then one that must have all it needs
        String greedy = "y2,0,0,9,20;y2,0,1,9,20;";
        Due.is(says + ": 39", Due.laid(greedy + "y0,0,2,3,1;").least(0, 1), 39);
        Due.is(says + ": 40", Due.laid(greedy + "y0,0,2,4,1;").least(0, 1), 40);
        Due.is(says + ": 41 would be", Due.laid(greedy + "y0,0,2,5,1;").least(0, 1), NONE);
        Due.is(says + ": one less is enough for one more", Due.laid(greedy + "y0,0,2,5,2;").least(0, 1), 40);
        for (int c = 0; c <= 9; c++) {
            Due.is(says + ": cats first, " + c, Due.laid("k0," + c + ";y0,0,0,9,1;").least(0, 1), c + 9);
        }
        Due.is(says + ": a shy one", Due.laid("y3,0,0,9,1;").least(0, 20), 9);
        Due.is(says + ": a shy one where a cat is", Due.laid("k0,1;y3,0,0,9,1;").least(0, 1), NONE);
    }

    private static void leastBehindDays() {
        String says = "LEAST for a STEP, n (1 to 20)";
        YoungerMilk milk = Due.laid("s9;y1,8,0,1,20;");
        Due.is(says + ": 19", milk.least(8, 19), 0);
        Due.is(says + ": 20", milk.least(8, 20), 1);
        Due.is(says + ": 21", milk.least(8, 21), BAD);
        Due.is(says + ": 0", milk.least(8, 0), BAD);
        Due.is(says + ": no such STEP", milk.least(9, 1), BAD);
        Due.is(says + ": no such STEP", milk.least(-1, 1), BAD);
        Due.is(says + ": 1", Due.laid("y1,0,0,1,1;").least(0, 1), 1);
        Due.is(says + ": what is set down now does not matter", Due.laid("c0,40;y1,0,0,1,1;").least(0, 20), 1);
    }

    private static void leastOfThatStep() {
        String says = "LEAST: nobody of that STEP who has not GONE by now be GONE behind n DAYS";
        YoungerMilk milk = Due.laid("y0,0,0,9,1;y0,0,1,2,20;y0,1,0,9,1;");
        Due.is(says + ": all", milk.least(0, 1), 9);
        milk.pass(1);
        Due.is(says + ": who has GONE counts no more", milk.least(0, 20), 2);
        Due.is(says + ": nor at another STEP", milk.least(1, 20), 0);
        milk = Due.laid("y0,0,0,2,20;y0,0,1,3,2;");
        milk.quarrel(1, 1);
        Due.is(says + ": one that QUARRELLED is of it", milk.least(0, 1), 0);
        Due.is(says + ": and can't be helped", milk.least(0, 2), NONE);
        // who has gone at once leaves more than it drinks; but it must not
        Due.is(says + ": it can't be one for the other", Due.laid("k0,9;y2,0,0,9,1;y2,0,1,9,1;").least(0, 1), 36);
    }

    private static void leastForNobody() {
        String says = "LEAST, where nobody is";
        YoungerMilk milk = Due.laid("s9;y0,0,0,9,1;k8,9;");
        Due.is(says, milk.least(8, 1), 0);
        Due.is(says, milk.least(8, 20), 0);
        milk.pass(1);
        Due.is(says + " any more", milk.least(0, 20), 0);
    }

    private static int round(String text) {
        return Due.laid(FAR + text).round();
    }

    private static void roundOfNothing() {
        String says = "ROUND: as often as it has to";
        Due.is(says + ": nothing is set down", round(""), 0);
        Due.is(says + ": nothing again", round("c0,0;c8,0;"), 0);
        YoungerMilk milk = Due.laid(FAR + "c8,40;h1;");
        milk.put(8, 0);
        Due.is(says + ": nothing any more", milk.round(), 0);
        milk.put(8, 1);
        Due.is(says + ": one", milk.round(), 18);
        for (int x = 0; x < 8; x++) {
            milk.put(x, 1);
            Due.is(says + ": one more", milk.round(), 18 + 2 * (x + 1));
            milk.put(x, 0);
            Due.is(says + ": one less", milk.round(), 18);
        }
    }

    private static void roundWithHAtMost() {
        String says = "ROUND: with H at most";
        Due.is(says + ": just that", round("c0,4;c8,5;h9;"), 18);
        Due.is(says + ": one more", round("c0,5;c8,5;h9;"), 20);
        Due.is(says + ": 99", round("c0,19;c4,40;c8,40;h99;"), 18);
        Due.is(says + ": one more than 99", round("c0,20;c4,40;c8,40;h99;"), 20);
        Due.is(says + ": 1 at a time", round("c0,1;c1,1;c2,1;c3,1;c4,1;c5,1;c6,1;c7,1;c8,1;h1;"), 90);
        Due.is(says + ": 2 at a time", round("c0,1;c1,1;c2,1;c3,1;c4,1;c5,1;c6,1;c7,1;c8,1;h2;"), 50);
        Due.is(says + ": 9 at a time", round("c0,1;c1,1;c2,1;c3,1;c4,1;c5,1;c6,1;c7,1;c8,1;h9;"), 18);
        Due.is(says + ": 20 without h", round("c0,10;c8,10;"), 18);
        Due.is(says + ": 21 without h", round("c0,11;c8,10;"), 20);
    }

    private static void roundLeavesOut() {
        String says = "ROUND: what is more than H there is left out: it is H then";
        Due.is(says + ": one more", round("c8,10;h9;"), 18);
        Due.is(says + ": all", round("c0,40;c8,40;h1;"), 20);
        Due.is(says + ": nothing goes along", round("c0,1;c8,10;h9;"), 20);
        Due.is(says + ": just H", round("c0,1;c8,9;h9;"), 20);
        Due.is(says + ": one less than H", round("c0,1;c8,8;h9;"), 18);
        YoungerMilk milk = Due.laid(FAR + "c8,40;h1;");
        milk.round();
        Due.is(says + ": it is set down still", milk.step(8, 0), 40);
    }

    private static void roundByOneJourney() {
        String says = "ROUND: at each STEP is SET DOWN what is, by one journey";
        // by parts, two journeys would do
        Due.is(says, round("c6,2;c7,2;c8,2;h3;"), 14 + 16 + 18);
        Due.is(says + ": three of 6 by 10", round("c0,6;c1,6;c8,6;h10;"), 2 + 4 + 18);
    }

    private static void roundAtLeast() {
        String says = "ROUND: how far it goes in sum at least (there and back)";
        Due.is(says + ": the far ones together", round("c0,3;c1,3;c7,3;c8,3;h6;"), 18 + 4);
        Due.is(says + ": not the largest together", round("c8,4;c7,4;c6,3;c5,3;c4,3;c3,3;h10;"), 18 + 16);
        Due.is(says + ": not the nearest first", round("c4,6;c3,3;c2,5;c1,4;c0,2;h10;"), 18);
        Due.is(says + ": all nine", round("c0,9;c1,8;c2,7;c3,6;c4,5;c5,4;c6,3;c7,2;c8,1;h15;"), 18 + 8 + 6);
        YoungerMilk milk = Due.laid(FAR + "c8,1;c7,1;h1;");
        Due.is(says + ": twice", milk.round(), 34);
        Due.is(says + ": the same again", milk.round(), 34);
    }

    private static void ways(String says, YoungerMilk milk, int m, int n, int kept, int... each) {
        Due.is(says + ": best(" + m + ", " + n + ", -1)", milk.best(m, n, -1), kept);
        for (int x = 0; x < each.length; x++) {
            Due.is(says + ": best(" + m + ", " + n + ", " + x + ")", milk.best(m, n, x), each[x]);
        }
    }

    private static void waysOfNothing() {
        String says = "KEPT WELL by m (0 to 99)";
        YoungerMilk milk = Due.laid("s2;c0,40;c1,40;y0,0,0,1,1;y0,1,0,1,2;");
        ways(says, milk, 0, 1, 1, 0, 0);
        ways(says, milk, 0, 20, 0, 0, 0);
        ways(says, milk, 1, 1, 2, 1, 0);
        ways(says, milk, 99, 20, 2, 1, 1);
        Due.is(says + ": -1", milk.best(-1, 1, -1), BAD);
        Due.is(says + ": 100", milk.best(100, 1, -1), BAD);
        Due.is(says + ": no such STEP", milk.best(0, 1, 2), BAD);
        Due.is(says + ": -2", milk.best(0, 1, -2), BAD);
        milk.put(0, 0);
        milk.put(1, 0);
        milk.pass(2);
        ways(says + ": all have gone", milk, 99, 20, 0, 0, 0);
    }

    private static void waysOfAllThereIs() {
        String says = "to SET DOWN m in sum, or less";
        StringBuilder text = new StringBuilder("s9;");
        for (int x = 0; x < 8; x++) {
            text.append("y0,").append(x).append(",0,9,1;");
        }
        YoungerMilk milk = Due.laid(text.toString());
        ways(says, milk, 99, 1, 8, 9, 9, 9, 9, 9, 9, 9, 9, 0);
        ways(says, milk, 72, 1, 8, 9, 9, 9, 9, 9, 9, 9, 9, 0);
        ways(says, milk, 71, 1, 7, 0, 9, 9, 9, 9, 9, 9, 9, 0);
        ways(says, milk, 9, 1, 1, 0, 0, 0, 0, 0, 0, 0, 9, 0);
        ways(says, milk, 8, 1, 0, 0, 0, 0, 0, 0, 0, 0, 0, 0);
    }

    private static void waysOfNineAtMost() {
        String says = "0 to 9 at each STEP";
        ways(says, Due.laid("s1;y2,0,0,4,20;y0,0,1,1,1;"), 99, 1, 2, 9);
        ways(says, Due.laid("s1;y2,0,0,4,20;y0,0,1,2,1;"), 99, 1, 1, 0);
        ways(says, Due.laid("s1;k0,9;y0,0,1,1,1;"), 99, 1, 0, 0);
        ways(says, Due.laid("s1;k0,8;y0,0,1,1,1;"), 99, 1, 1, 9);
        ways(says, Due.laid("s1;k0,8;y0,0,1,1,1;"), 8, 1, 0, 0);
    }

    private static void waysBehindDays() {
        String says = "KEPT WELL by m, n (1 to 20)";
        YoungerMilk milk = Due.laid("s2;y1,0,0,1,20;y1,1,0,1,19;");
        ways(says, milk, 99, 18, 2, 0, 0);
        ways(says, milk, 99, 19, 2, 0, 1);
        ways(says, milk, 99, 20, 2, 1, 1);
        Due.is(says + ": 0", milk.best(9, 0, -1), BAD);
        Due.is(says + ": 21", milk.best(9, 21, -1), BAD);
        ways(says + ": a day", Due.laid("s1;y1,0,0,1,1;"), 9, 1, 1, 1);
    }

    private static void waysOfLeastInSum() {
        String says = "by which most have not GONE, of several that of least in sum";
        ways(says + ": one is enough", Due.laid("s2;y0,0,0,5,4;y0,1,0,5,20;"), 99, 1, 2, 2, 0);
        ways(says + ": the cheaper one", Due.laid("s2;y0,0,0,3,1;y0,1,0,4,1;"), 6, 1, 1, 3, 0);
        ways(says + ": the cheaper one behind", Due.laid("s2;y0,0,0,4,1;y0,1,0,3,1;"), 6, 1, 1, 0, 3);
        ways(says + ": most ahead of least", Due.laid("s2;y0,0,0,9,1;y0,1,0,9,1;"), 18, 1, 2, 9, 9);
        ways(says + ": two for one", Due.laid("s3;y0,0,0,5,1;y0,1,0,3,1;y0,2,0,3,1;"), 6, 1, 2, 0, 3, 3);
    }

    private static void waysThatAreFirst() {
        String says = "then the first (the least at STEP 0, then 1, ..)";
        String two = "y0,0,0,2,1;y0,1,0,2,1;y0,2,0,2,1;y0,3,0,2,1;";
        ways(says, Due.laid("s4;" + two), 2, 1, 1, 0, 0, 0, 2);
        ways(says, Due.laid("s4;" + two), 4, 1, 2, 0, 0, 2, 2);
        ways(says, Due.laid("s4;" + two), 7, 1, 3, 0, 2, 2, 2);
        String others = "s4;y0,0,0,1,1;y0,1,0,3,1;y0,2,0,2,1;y0,3,0,2,1;";
        ways(says, Due.laid(others), 3, 1, 2, 1, 0, 0, 2);
        ways(says, Due.laid(others), 4, 1, 2, 1, 0, 0, 2);
        ways(says, Due.laid(others), 5, 1, 3, 1, 0, 2, 2);
        // 1 and 3, or 3 and 1
        ways(says, Due.laid("s2;y0,0,0,1,1;y0,0,1,2,1;y0,1,0,1,1;y0,1,1,2,1;"), 5, 1, 3, 1, 3);
        ways(says, Due.laid("s4;y0,0,0,3,1;y0,1,0,9,1;y0,2,0,3,1;y0,3,0,9,1;"), 3, 1, 1, 0, 0, 3, 0);
    }

    private static void waysAtEachStep() {
        String says = "P17 how many (x = -1), what at a STEP";
        YoungerMilk milk = Due.laid("s9;y0,0,0,1,1;y0,8,0,2,1;");
        ways(says, milk, 99, 1, 2, 1, 0, 0, 0, 0, 0, 0, 0, 2);
        Due.is(says + ": one STEP more", milk.best(99, 1, 9), BAD);
        milk = Due.laid("s1;y0,0,0,1,1;");
        ways(says, milk, 99, 1, 1, 1);
        Due.is(says + ": of one STEP", milk.best(99, 1, 1), BAD);
        milk = Due.laid("s2;y0,0,0,5,1;y0,0,1,3,1;y0,1,0,9,9;");
        milk.quarrel(0, 1);
        ways(says + ": one that quarrelled goes", milk, 9, 1, 2, 3, 1);
        milk = Due.laid("s2;y0,0,0,5,2;y0,0,1,3,1;y0,1,0,9,9;");
        milk.quarrel(0, 1);
        ways(says + ": one that quarrelled stays for a day", milk, 9, 1, 3, 3, 1);
    }

    private static void help(String says, YoungerMilk milk, int which, int many) {
        Due.is(says + ": which", milk.help(0), which);
        Due.is(says + ": how many", milk.help(1), many);
    }

    private static void helpOfNobody() {
        String says = "HELP: the YOUNGER one, not QUARRELLED, GONE; none";
        YoungerMilk milk = Due.laid("y0,0,0,9,1;y0,0,0,1,20;");
        milk.quarrel(1, 1);
        milk.pass(1);
        help(says + ": one is gone, one has quarrelled", milk, NONE, NONE);
        milk.quarrel(1, 0);
        help(says + ": one is at peace again", milk, 1, 0);
        milk = Due.laid("y0,0,0,9,1;");
        milk.quarrel(0, 1);
        help(says + ": all have quarrelled", milk, NONE, NONE);
        milk.pass(1);
        help(says + ": all have gone", milk, NONE, NONE);
        Due.is("P18 BAD ahead of NONE", milk.help(2), BAD);
        Due.is("P18 BAD ahead of NONE", milk.help(-1), BAD);
    }

    private static void helpBehindTenDays() {
        String says = "HELP: not GONE behind 10 DAYS";
        // by the greedy one's quarrel there is milk for both others
        help(says + ": two of 10", Due.laid("c0,4;y1,0,1,1,10;y1,0,1,1,10;y2,0,0,2,20;"), 2, 2);
        help(says + ": two of 11", Due.laid("c0,4;y1,0,1,1,11;y1,0,1,1,11;y2,0,0,2,20;"), 0, 2);
        help(says + ": one of 11, one of 10", Due.laid("c0,4;y1,0,1,1,11;y1,0,1,1,10;y2,0,0,2,20;"), 1, 2);
        help(says + ": nobody is helped", Due.laid("y1,0,0,1,11;y1,0,0,1,10;y1,0,0,1,9;"), 1, 1);
    }

    private static void helpOfOthers() {
        String says = "HELP: most others have not GONE";
        help(says + ": one alone", Due.laid("c0,40;y0,0,0,1,20;"), 0, 0);
        help(says + ": two", Due.laid("c0,40;y0,0,0,1,20;y0,0,0,1,20;"), 0, 1);
        YoungerMilk milk = Due.laid("y1,0,0,1,11;y1,0,0,1,20;");
        milk.quarrel(0, 1);
        help(says + ": one that quarrelled is one", milk, 1, 1);
        milk.pass(1);
        help(says + ": if it has not gone", milk, 1, 0);
        milk.pass(10);
        help(says + ": nor by now", milk, 1, 0);
    }

    private static void helpOfTheLowest() {
        String says = "HELP: of several the lowest";
        help(says, Due.laid("c0,4;c1,4;y1,0,1,1,5;y1,0,1,1,5;y2,0,0,2,20;y2,1,0,2,20;y1,1,1,1,5;y1,1,1,1,5;"), 2, 3);
        help(says + ": all", Due.laid("c0,40;" + "y0,0,0,1,20;".repeat(8)), 0, 7);
        YoungerMilk milk = Due.laid("c0,40;" + "y0,0,0,1,20;".repeat(8));
        milk.quarrel(0, 1);
        help(says + ": all but one", milk, 1, 7);
    }

    private static void helpOfEight() {
        String says = "HELP, of eight";
        help(says + ": the last one", Due.laid("c0,4;" + "y1,0,1,1,5;".repeat(7) + "y2,0,0,2,20;"), 7, 4);
        help(says + ": the first one", Due.laid("c0,4;y2,0,0,2,20;" + "y1,0,1,1,5;".repeat(7)), 0, 4);
    }
}

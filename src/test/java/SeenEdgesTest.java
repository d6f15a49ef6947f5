/** What the document names as too small, too large, empty, full of what was seen: a sentence a test. */
public final class SeenEdgesTest {
    private static final int NONE = YoungerMilk.NONE, NO = YoungerMilk.NO, FULL = YoungerMilk.FULL, BAD = YoungerMilk.BAD;

    public static void main(String[] args) {
        sixAtMost();
        leftOverFromNothingToForty();
        onTheDayThatIs();
        forgotten();
        setsWithoutAnythingSeen();
        setsOfThatStep();
        setsOfThoseNotGone();
        setsWhetherTheyQuarrelOrNot();
        setsByAllThatIsSeen();
        lowestSet();
        setsOfEight();
        catsWithoutAnythingSeen();
        catsFromNothingToNine();
        catsInPlaceOfWhatTheyDrink();
        catsByThoseAtPeace();
        catsAndShyOnes();
        wasFromNothingToTwenty();
        wasBehindDays();
        wasOfAllElseAsItIs();
        wasOfGoneOnes();
        Due.end();
    }

    private static void sixAtMost() {
        String says = "SEEN (6 at most)";
        YoungerMilk milk = Due.laid("s9;y0,0,0,1,9;");
        for (int i = 1; i <= 6; i++) {
            Due.is(says + ": how many", milk.see(i + 2, i), i);
            Due.is(says + ": count(8)", milk.count(8), i);
        }
        Due.is(says + ": one more", milk.see(0, 0), FULL);
        Due.is(says + ": the same once more", milk.see(8, 6), FULL);
        Due.is(says + ": BAD ahead of FULL, a STEP", milk.see(9, 0), BAD);
        Due.is(says + ": BAD ahead of FULL, r", milk.see(0, 41), BAD);
        Due.is(says + ": six still", milk.count(8), 6);
        Due.is(says + ": nothing changes by FULL", milk.within(0, 0), 2);
        Due.is(says + ": the sixth is judged", milk.isCats(8), 0);
        Due.is("P20 forget() of six", milk.forget(), 6);
        Due.is(says + ": again", milk.see(0, 0), 1);
        milk = Due.laid("y0,0,0,1,9;");
        for (int i = 1; i <= 6; i++) {
            Due.is(says + ": the same is one more", milk.see(0, 0), i);
        }
    }

    private static void leftOverFromNothingToForty() {
        String says = "SEEN is that r (0 to 40) would be LEFT OVER at a STEP";
        for (int r = 0; r <= 40; r++) {
            YoungerMilk milk = Due.laid("s9;y0,8,0,9,9;c8," + r + ";");
            Due.is(says + ": " + r, milk.see(8, r), 1);
            Due.is(says + ": by nobody, " + r, milk.within(8, 1), 0);
            Due.is(says + ": of nothing it is so or not, " + r, milk.within(8, 0), r == 0 ? 2 : 1);
        }
        YoungerMilk milk = Due.laid("s9;y0,8,0,9,9;");
        Due.is(says + ": 41", milk.see(0, 41), BAD);
        Due.is(says + ": -1", milk.see(0, -1), BAD);
        Due.is(says + ": STEP 9", milk.see(9, 0), BAD);
        Due.is(says + ": STEP -1", milk.see(-1, 0), BAD);
        Due.is(says + ": nothing changes by BAD", milk.count(8), 0);
    }

    private static void onTheDayThatIs() {
        String says = "SEEN is .. on the DAY that is when that is asked";
        YoungerMilk milk = Due.laid("c0,3;y0,0,0,3,9;y0,0,1,3,3;");
        milk.see(0, 0);
        Due.is(says + ": by one or both", milk.within(0, 0), 3);
        milk.put(0, 6);
        Due.is(says + ": by both", milk.within(0, 1), 3);
        milk.put(0, 3);
        milk.pass(1);
        Due.is(says + ": by the one that has not gone", milk.within(0, 0), 1);
        milk.put(0, 6);
        Due.is(says + ": by nobody", milk.within(0, 1), NONE);
        milk.cats(0, 3);
        Due.is(says + ": where cats are", milk.within(0, 1), 1);
        milk.undo();
        milk.undo();
        milk.undo();
        Due.is(says + ": undone", milk.within(0, 0), 3);
    }

    private static void forgotten() {
        String says = "P20 Nothing is SEEN: how many were";
        YoungerMilk milk = Due.laid("y0,0,0,1,9;");
        Due.is(says + ": nothing", milk.forget(), 0);
        for (int many = 1; many <= 6; many++) {
            for (int i = 0; i < many; i++) {
                milk.see(0, 40);
            }
            Due.is(says + ": it can't be so", milk.within(0, 0), 0);
            Due.is(says + ": " + many, milk.forget(), many);
            Due.is(says + ": no more", milk.count(8), 0);
            Due.is(says + ": all is so", milk.within(0, 0), 2);
            milk.see(4, 0);
            Due.is(says + ": what was seen is none of it", milk.within(0, 0), 2);
            milk.forget();
        }
    }

    private static void setsWithoutAnythingSeen() {
        String says = "WITHIN, nothing SEEN there";
        YoungerMilk milk = Due.laid("s9;y0,0,0,1,9;y0,0,0,1,9;y0,8,0,1,9;");
        Due.is(says + ": of two", milk.within(0, 0), 4);
        Due.is(says + ": of one", milk.within(8, 0), 2);
        Due.is(says + ": of nobody, the set of none", milk.within(4, 0), 1);
        Due.is(says + ": of nobody, the lowest", milk.within(4, 1), 0);
        milk.see(4, 1);
        Due.is(says + ": of nobody, not so", milk.within(4, 0), 0);
        Due.is(says + ": of nobody, none", milk.within(4, 1), NONE);
        Due.is(says + ": others", milk.within(0, 0), 4);
        milk.put(4, 1);
        Due.is(says + ": of nobody, so", milk.within(4, 0), 1);
    }

    private static void setsOfThatStep() {
        String says = "WITHIN for a STEP: YOUNGER ones of that STEP";
        YoungerMilk milk = Due.laid("s9;c0,2;c8,2;y0,8,0,2,9;y0,0,0,2,9;y0,8,0,2,9;");
        milk.see(8, 0);
        Due.is(says + ": how many", milk.within(8, 0), 3);
        Due.is(says + ": the lowest", milk.within(8, 1), 1);
        Due.is(says + ": what is seen elsewhere does not matter", milk.within(0, 0), 2);
        Due.is(says + ": STEP 9", milk.within(9, 0), BAD);
        Due.is(says + ": STEP -1", milk.within(-1, 0), BAD);
        Due.is(says + ": what = 2", milk.within(8, 2), BAD);
        Due.is(says + ": what = -1", milk.within(8, -1), BAD);
    }

    private static void setsOfThoseNotGone() {
        String says = "WITHIN: YOUNGER ones that have not GONE";
        YoungerMilk milk = Due.laid("y0,0,0,2,1;y0,0,0,2,9;y0,0,0,2,9;");
        milk.pass(1);
        milk.put(0, 2);
        Due.is(says + ": all sets", milk.within(0, 0), 4);
        milk.see(0, 0);
        Due.is(says + ": how many", milk.within(0, 0), 3);
        Due.is(says + ": the lowest", milk.within(0, 1), 2);
        milk.pass(20);
        milk.put(0, 0);
        milk.pass(20);
        Due.is(says + ": all have, and nothing is set down", milk.within(0, 0), 1);
        milk.put(0, 2);
        Due.is(says + ": all have, and something is", milk.within(0, 0), 0);
        Due.is(says + ": none", milk.within(0, 1), NONE);
    }

    private static void setsWhetherTheyQuarrelOrNot() {
        String says = "WITHIN: whether they QUARREL or not";
        YoungerMilk milk = Due.laid("c0,3;y0,0,0,1,9;y0,0,0,2,9;");
        milk.see(0, 0);
        Due.is(says + ": at peace", milk.within(0, 1), 3);
        milk.quarrel(0, 1);
        Due.is(says + ": one", milk.within(0, 1), 3);
        milk.quarrel(1, 1);
        Due.is(says + ": both", milk.within(0, 1), 3);
        Due.is(says + ": what would be left over is another thing", milk.step(0, 2), 3);
    }

    private static void setsByAllThatIsSeen() {
        String says = "WITHIN: all that is SEEN there would be so";
        YoungerMilk milk = Due.laid("c0,9;k0,1;y0,0,0,1,9;y1,0,0,2,9;y2,0,0,2,9;y3,0,0,8,9;");
        // of 8: 1, 2, 4; the shy one drinks nothing where cats drank
        for (int left = 0; left <= 8; left++) {
            milk.see(0, left);
            Due.is(says + ": " + left, milk.within(0, 0), left == 0 ? 0 : 2);
            Due.is(says + ": the lowest of " + left, milk.within(0, 1), left == 0 ? NONE : 8 - left);
            milk.forget();
        }
        milk.see(0, 4);
        milk.see(0, 4);
        Due.is(says + ": twice the same", milk.within(0, 1), 4);
        milk.see(0, 5);
        Due.is(says + ": two that are not the same", milk.within(0, 0), 0);
        milk.cats(0, 0);
        milk.forget();
        milk.see(0, 0);
        Due.is(says + ": without cats 8 is drunk, and one more", milk.within(0, 1), 9);
    }

    private static void lowestSet() {
        String says = "WITHIN: the lowest as bits";
        YoungerMilk milk = Due.laid("c0,6;y0,0,0,3,9;y0,0,0,1,9;y0,0,0,2,9;y0,0,0,3,9;");
        milk.see(0, 3);
        Due.is(says + ": 1 of 1, 6, 8", milk.within(0, 1), 1);
        Due.is(says + ": how many", milk.within(0, 0), 3);
        milk.forget();
        milk.see(0, 0);
        Due.is(says + ": 7, not 9", milk.within(0, 1), 7);
        milk.forget();
        milk.see(0, 6);
        Due.is(says + ": nobody", milk.within(0, 1), 0);
    }

    private static void setsOfEight() {
        String says = "WITHIN, of eight";
        YoungerMilk milk = Due.laid("c0,40;" + "y0,0,0,1,9;".repeat(7) + "y0,0,0,9,9;");
        Due.is(says + ": all sets", milk.within(0, 0), 256);
        milk.see(0, 31);
        Due.is(says + ": just the last", milk.within(0, 1), 128);
        Due.is(says + ": just one set", milk.within(0, 0), 1);
        milk.forget();
        milk.see(0, 24);
        Due.is(says + ": all eight", milk.within(0, 1), 255);
        milk.forget();
        milk.see(0, 33);
        Due.is(says + ": the seven", milk.within(0, 1), 127);
    }

    private static void catsWithoutAnythingSeen() {
        String says = "CATS, nothing SEEN there";
        YoungerMilk milk = Due.laid("s9;c8,9;y0,0,0,1,9;");
        Due.is(says, milk.isCats(8), 1023);
        milk.see(0, 40);
        Due.is(says + ", but elsewhere", milk.isCats(8), 1023);
        Due.is(says + ": STEP 9", milk.isCats(9), BAD);
        Due.is(says + ": STEP -1", milk.isCats(-1), BAD);
        milk.see(8, 0);
        milk.see(8, 1);
        Due.is(says + ": both can't be so", milk.isCats(8), 0);
    }

    private static void catsFromNothingToNine() {
        String says = "CATS for a STEP: C (bits 0 to 9)";
        YoungerMilk milk = Due.laid("s9;c8,40;y0,0,0,1,9;");
        for (int c = 0; c <= 10; c++) {
            milk.see(8, 40 - c);
            Due.is(says + ": " + c, milk.isCats(8), c < 10 ? 1 << c : 0);
            milk.forget();
        }
        for (int m = 0; m <= 9; m++) {
            milk.put(8, m);
            milk.see(8, 0);
            Due.is(says + ": " + m + " or more", milk.isCats(8), 1024 - (1 << m));
            milk.forget();
        }
        milk.put(8, 10);
        milk.see(8, 0);
        Due.is(says + ": 10 would be", milk.isCats(8), 0);
    }

    private static void catsInPlaceOfWhatTheyDrink() {
        String says = "CATS: in place of what they drink";
        YoungerMilk milk = Due.laid("c0,9;k0,9;y0,0,0,2,9;");
        milk.see(0, 7);
        Due.is(says + ": nothing", milk.isCats(0), 1);
        milk.cats(0, 0);
        Due.is(says + ": whatever they drink", milk.isCats(0), 1);
        milk.forget();
        milk.see(0, 0);
        Due.is(says + ": 7 or more", milk.isCats(0), 1024 - 128);
    }

    private static void catsByThoseAtPeace() {
        String says = "CATS, by those that have not QUARRELLED, GONE";
        YoungerMilk milk = Due.laid("c0,9;y0,0,0,2,20;y0,0,0,3,1;y0,0,1,9,9;");
        milk.see(0, 4);
        Due.is(says + ": all", milk.isCats(0), 0);
        milk.quarrel(2, 1);
        Due.is(says + ": but one", milk.isCats(0), 1);
        milk.quarrel(1, 1);
        Due.is(says + ": but two", milk.isCats(0), 1 << 3);
        milk.pass(1);
        Due.is(says + ": gone", milk.isCats(0), 1 << 3);
        milk.quarrel(0, 1);
        Due.is(says + ": nobody", milk.isCats(0), 1 << 5);
    }

    private static void catsAndShyOnes() {
        String says = "CATS, where a SHY one is";
        YoungerMilk milk = Due.laid("c0,5;y3,0,0,4,9;");
        int[] want = {0b1111100000, 0b0000010001, 0b0000001000, 0b0000000100, 0b0000000010, 0};
        for (int left = 0; left < want.length; left++) {
            milk.see(0, left);
            Due.is(says + ": " + left, milk.isCats(0), want[left]);
            milk.forget();
        }
        milk.put(0, 0);
        milk.see(0, 0);
        Due.is(says + ": of nothing", milk.isCats(0), 1023);
    }

    private static void wasFromNothingToTwenty() {
        String says = "WAS: by how much WELL (0 to 20) it can have been";
        for (int well = 1; well <= 20; well++) {
            YoungerMilk fades = Due.laid("y1,0,0,9," + well + ";");
            Due.is(says + ": one more than " + well, fades.was(0, 1, 1), well < 20 ? well + 1 : NONE);
            Due.is(says + ": just that", fades.was(0, 1, 0), well < 20 ? 1 : 0);
            YoungerMilk thrives = Due.laid("c0,9;y0,0,0,9," + well + ";");
            Due.is(says + ": one less than " + well, thrives.was(0, 1, 1), well > 1 ? well - 1 : NONE);
            Due.is(says + ": how many", thrives.was(0, 1, 0), well == 20 ? 2 : well > 1 ? 1 : 0);
        }
    }

    private static void wasBehindDays() {
        String says = "WAS, n (1 to 20)";
        YoungerMilk full = Due.laid("c0,9;y0,0,0,9,20;y1,1,0,9,1;");
        for (int n = 1; n <= 20; n++) {
            Due.is(says + ": how many behind " + n, full.was(0, n, 0), Math.min(20, n + 1));
            Due.is(says + ": the least behind " + n, full.was(0, n, 1), Math.max(1, 20 - n));
            Due.is(says + ": the most behind " + n, full.was(1, n, 1), n < 20 ? n + 1 : NONE);
        }
        Due.is(says + ": 0", full.was(0, 0, 0), BAD);
        Due.is(says + ": 21", full.was(0, 21, 0), BAD);
        Due.is(says + ": what = 2", full.was(0, 1, 2), BAD);
        Due.is(says + ": what = -1", full.was(0, 1, -1), BAD);
        Due.is(says + ": nobody", full.was(2, 1, 0), BAD);
    }

    private static void wasOfAllElseAsItIs() {
        String says = "WAS: all else being as it is now";
        // who is ahead goes the first day; the other fades by 2 that day, and thrives from then on
        YoungerMilk milk = Due.laid("c0,2;y0,0,0,9,7;y0,0,1,2,10;");
        Due.is(says + ": a day", milk.was(1, 1, 1), 12);
        Due.is(says + ": two days", milk.was(1, 2, 1), 11);
        Due.is(says + ": three days", milk.was(1, 3, 1), 10);
        Due.is(says + ": five days", milk.was(1, 5, 1), 8);
        milk.quarrel(0, 1);
        Due.is(says + ": the one ahead has quarrelled", milk.was(1, 1, 1), 9);
        milk.quarrel(1, 1);
        Due.is(says + ": it has quarrelled itself", milk.was(1, 1, 1), 11);
        milk = Due.laid("c0,40;k0,9;y3,0,0,2,10;");
        Due.is(says + ": cats", milk.was(0, 1, 1), 12);
        // nine less a day: behind two days it would have been 29
        milk = Due.laid("c0,9;y0,0,0,9,20;y0,0,1,9,11;");
        Due.is(says + ": behind one day", milk.was(1, 1, 1), 20);
        Due.is(says + ": behind two days", milk.was(1, 2, 0), 0);
    }

    private static void wasOfGoneOnes() {
        String says = "P23 NO: it has GONE";
        YoungerMilk milk = Due.laid("y0,0,0,9,1;y0,0,0,1,20;");
        milk.pass(1);
        Due.is(says + ": how many", milk.was(0, 1, 0), NO);
        Due.is(says + ": ahead of NONE", milk.was(0, 1, 1), NO);
        Due.is(says + ": behind BAD, n", milk.was(0, 21, 0), BAD);
        Due.is(says + ": behind BAD, what", milk.was(0, 1, 2), BAD);
        Due.is(says + ": the other has not", milk.was(1, 1, 1), 20);
        milk.undo();
        Due.is(says + ": undone", milk.was(0, 1, 1), 10);
    }
}

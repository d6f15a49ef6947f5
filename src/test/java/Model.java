import java.math.BigInteger;
import java.util.ArrayDeque;
import java.util.ArrayList;
import java.util.Deque;
import java.util.List;
import java.util.function.IntPredicate;
import java.util.regex.Matcher;
import java.util.regex.Pattern;

/** The document once more, in the plainest and slowest way, to compare the class with. */
final class Model {
    static final int BAD = -1, NO = -2, FULL = -3, NONE = -4;
    private static final Pattern ITEM = Pattern.compile("([sykch])(\\d{1,2}(?:,\\d{1,2})*);");

    private static final class Person {
        int kind, step, age, needs, well;
        boolean quarrelled;
        int drank;
    }

    /** A street as it stands. */
    private static final class Street {
        int steps = 5, holds = 20, day;
        int[] down = new int[9], cats = new int[9];
        List<Person> people = new ArrayList<>();

        Street copy() {
            Street other = new Street();
            other.steps = steps;
            other.holds = holds;
            other.day = day;
            other.down = down.clone();
            other.cats = cats.clone();
            for (Person p : people) {
                Person q = new Person();
                q.kind = p.kind;
                q.step = p.step;
                q.age = p.age;
                q.needs = p.needs;
                q.well = p.well;
                q.quarrelled = p.quarrelled;
                other.people.add(q);
            }
            return other;
        }

        int leftOver(int x) {
            int rest = down[x];
            int lapped = Math.min(rest, cats[x]);
            rest -= lapped;
            for (int age = 0; age <= 20; age++) {
                for (Person p : people) {
                    if (p.step != x || p.age != age) {
                        continue;
                    }
                    p.drank = 0;
                    if (p.well == 0 || p.quarrelled) {
                        continue;
                    }
                    int wants = p.needs;
                    if (p.kind == 1) {
                        wants = p.needs / 2 + 1;
                    } else if (p.kind == 2) {
                        wants = p.needs * 2;
                    } else if (p.kind == 3 && lapped > 0) {
                        wants = 0;
                    }
                    p.drank = Math.min(wants, rest);
                    rest -= p.drank;
                }
            }
            return rest;
        }

        int leftOverInAll() {
            int sum = 0;
            for (int x = 0; x < steps; x++) {
                sum += leftOver(x);
            }
            return sum;
        }

        Street pass(int days) {
            for (int d = 0; d < days; d++) {
                leftOverInAll();
                for (Person p : people) {
                    if (p.well == 0) {
                        continue;
                    }
                    boolean enough = p.drank >= p.needs || p.kind == 1 && p.drank >= p.needs / 2 + 1;
                    if (enough) {
                        p.well = Math.min(20, p.well + 1);
                    } else if (p.kind == 1 || p.quarrelled) {
                        p.well--;
                    } else {
                        p.well -= p.needs - p.drank;
                    }
                    p.well = Math.max(0, p.well);
                }
                day++;
            }
            return this;
        }

        int there(int x) {
            int bits = 0;
            for (int y = 0; y < people.size(); y++) {
                bits |= people.get(y).step == x && people.get(y).well > 0 ? 1 << y : 0;
            }
            return bits;
        }

        int howMany(IntPredicate which) {
            int sum = 0;
            for (int y = 0; y < people.size(); y++) {
                sum += which.test(y) ? 1 : 0;
            }
            return sum;
        }

        int notGone() {
            return howMany(y -> people.get(y).well > 0);
        }

        int quarrelled() {
            return howMany(y -> people.get(y).quarrelled);
        }
    }

    private String text = "";
    private Street street;
    private final Deque<Street> past = new ArrayDeque<>();
    private final Deque<Street> kept = new ArrayDeque<>();
    private final List<int[]> seen = new ArrayList<>();

    Model() {
        text = "s5;y0,0,9,2,8;y1,0,15,4,6;y2,2,7,3,5;y0,2,4,1,9;y3,3,11,2,7;y0,4,20,5,10;k2,2;k3,1;c0,5;c2,6;c3,2;c4,3;h9;";
        lay();
        text = "";
    }

    /** Answers the call of that name; for whatever call the class has. */
    int answer(String call, int a, int b, int c, int d) {
        switch (call) {
            case "write": return write(a);
            case "wipe": return wipe();
            case "fault": return read(new Street());
            case "lay": return lay();
            case "step": return step(a, b);
            case "younger": return younger(a, b);
            case "pass": return bad(a, 1, 20) ? BAD : act().pass(a).day;
            case "put": return noStep(a) || bad(b, 0, 40) ? BAD : set(act().down, a, b);
            case "quarrel": return quarrel(a, b);
            case "cats": return noStep(a) || bad(b, 0, 9) ? BAD : set(act().cats, a, b);
            case "undo": return undo();
            case "behind": return bad(a, 0, 30) || noOne(b) ? BAD : street.copy().pass(a).people.get(b).well;
            case "goes": return goes(a);
            case "least": return least(a, b);
            case "round": return round(0, new ArrayList<>());
            case "best": return best(a, b, c);
            case "help": return help(a);
            case "see": return see(a, b);
            case "forget": return forget();
            case "within": return within(a, b);
            case "isCats": return isCats(a);
            case "was": return was(a, b, c);
            case "snows": return snows(a, b, c, d);
            case "year": return year(a, b, c);
            case "keep": return keep();
            case "back": return back();
            default: return count(a);
        }
    }

    private static boolean bad(int n, int low, int high) {
        return n < low || n > high;
    }

    private boolean noStep(int x) {
        return bad(x, 0, street.steps - 1);
    }

    private boolean noOne(int y) {
        return bad(y, 0, street.people.size() - 1);
    }

    private Street act() {
        past.push(street.copy());
        if (past.size() > 8) {
            past.removeLast();
        }
        return street;
    }

    private static int set(int[] row, int x, int n) {
        int was = row[x];
        row[x] = n;
        return was;
    }

    private int write(int letter) {
        if (bad(letter, 32, 126)) {
            return BAD;
        }
        if (text.length() == 200) {
            return FULL;
        }
        text += (char) letter;
        return text.length();
    }

    private int wipe() {
        int was = text.length();
        text = "";
        return was;
    }

    private int read(Street into) {
        Matcher item = ITEM.matcher(text);
        int at = 0;
        boolean others = false;
        while (at < text.length()) {
            item.region(at, text.length());
            if (!item.lookingAt()) {
                return at;
            }
            String[] words = item.group(2).split(",");
            int[] n = new int[words.length];
            for (int i = 0; i < n.length; i++) {
                n[i] = Integer.parseInt(words[i]);
            }
            char letter = item.group(1).charAt(0);
            if (letter == 's' && others || !tell(into, letter, n)) {
                return at;
            }
            others |= letter != 's';
            at = item.end();
        }
        return NONE;
    }

    private static boolean tell(Street into, char letter, int[] n) {
        int[] most = letter == 's' ? new int[] {9} : letter == 'h' ? new int[] {99}
            : letter == 'k' ? new int[] {into.steps - 1, 9} : letter == 'c' ? new int[] {into.steps - 1, 40}
            : new int[] {3, into.steps - 1, 20, 9, 20};
        if (n.length != most.length) {
            return false;
        }
        for (int i = 0; i < n.length; i++) {
            int low = letter == 's' || letter == 'h' || letter == 'y' && i >= 3 ? 1 : 0;
            if (bad(n[i], low, most[i])) {
                return false;
            }
        }
        switch (letter) {
            case 's': into.steps = n[0]; break;
            case 'h': into.holds = n[0]; break;
            case 'k': into.cats[n[0]] = n[1]; break;
            case 'c': into.down[n[0]] = n[1]; break;
            default:
                Person p = new Person();
                p.kind = n[0];
                p.step = n[1];
                p.age = n[2];
                p.needs = n[3];
                p.well = n[4];
                into.people.add(p);
                return into.people.size() <= 8;
        }
        return true;
    }

    private int lay() {
        Street next = new Street();
        if (read(next) != NONE || next.people.isEmpty()) {
            return NO;
        }
        street = next;
        past.clear();
        kept.clear();
        seen.clear();
        return street.people.size();
    }

    private int step(int x, int what) {
        if (noStep(x) || bad(what, 0, 3)) {
            return BAD;
        }
        int[] told = {street.down[x], street.cats[x], street.leftOver(x), street.there(x)};
        return told[what];
    }

    private int younger(int y, int what) {
        if (noOne(y) || bad(what, 0, 6)) {
            return BAD;
        }
        Person p = street.people.get(y);
        street.leftOverInAll();
        int[] told = {p.kind, p.step, p.age, p.needs, p.well, p.quarrelled ? 1 : 0, p.drank};
        return told[what];
    }

    private int quarrel(int y, int is) {
        if (noOne(y) || bad(is, 0, 1)) {
            return BAD;
        }
        Person p = street.people.get(y);
        if (p.quarrelled == (is == 1) || p.well == 0) {
            return NO;
        }
        act();
        p.quarrelled = is == 1;
        return street.quarrelled();
    }

    private int undo() {
        if (past.isEmpty()) {
            return NO;
        }
        street = past.pop();
        return past.size();
    }

    private int goes(int y) {
        if (noOne(y)) {
            return BAD;
        }
        for (int n = 0; n <= 60; n++) {
            if (street.copy().pass(n).people.get(y).well == 0) {
                return n;
            }
        }
        return NONE;
    }

    private int least(int x, int n) {
        if (noStep(x) || bad(n, 1, 20)) {
            return BAD;
        }
        for (int m = 0; m <= 40; m++) {
            Street then = street.copy();
            then.down[x] = m;
            if (then.pass(n).there(x) == street.there(x)) {
                return m;
            }
        }
        return NONE;
    }

    /** Puts step x into each journey there is or a new one. A journey: how far, how full. */
    private int round(int x, List<int[]> journeys) {
        if (x == street.steps) {
            int sum = 0;
            for (int[] j : journeys) {
                sum += 2 * j[0];
            }
            return sum;
        }
        int can = Math.min(street.down[x], street.holds);
        if (can == 0) {
            return round(x + 1, journeys);
        }
        int least = Integer.MAX_VALUE;
        for (int i = 0; i < journeys.size(); i++) {
            int[] j = journeys.get(i);
            if (j[1] + can <= street.holds) {
                journeys.set(i, new int[] {x + 1, j[1] + can});
                least = Math.min(least, round(x + 1, journeys));
                journeys.set(i, j);
            }
        }
        journeys.add(new int[] {x + 1, can});
        least = Math.min(least, round(x + 1, journeys));
        journeys.remove(journeys.size() - 1);
        return least;
    }

    /** All ways, those with less at the first steps first. */
    private int best(int m, int n, int x) {
        if (bad(m, 0, 99) || bad(n, 1, 20) || x != -1 && noStep(x)) {
            return BAD;
        }
        int[][] stay = new int[street.steps][10];
        for (int at = 0; at < street.steps; at++) {
            for (int each = 0; each < 10; each++) {
                Street then = street.copy();
                then.down[at] = each;
                stay[at][each] = Integer.bitCount(then.pass(n).there(at));
            }
        }
        int[] best = null;
        int bestSum = 0;
        int bestKept = -1;
        int ways = (int) Math.pow(10, street.steps);
        for (int way = 0; way < ways; way++) {
            int[] each = new int[street.steps];
            int sum = 0;
            int keeps = 0;
            for (int at = street.steps - 1, rest = way; at >= 0; at--, rest /= 10) {
                each[at] = rest % 10;
                sum += each[at];
                keeps += stay[at][each[at]];
            }
            if (sum <= m && (keeps > bestKept || keeps == bestKept && sum < bestSum)) {
                best = each;
                bestSum = sum;
                bestKept = keeps;
            }
        }
        return x == -1 ? bestKept : best[x];
    }

    private int help(int what) {
        if (bad(what, 0, 1)) {
            return BAD;
        }
        int best = NONE;
        int most = -1;
        for (int y = 0; y < street.people.size(); y++) {
            if (street.people.get(y).well == 0 || street.people.get(y).quarrelled) {
                continue;
            }
            Street then = street.copy();
            then.people.get(y).quarrelled = true;
            then.pass(10);
            then.people.get(y).well = 0;
            if (then.notGone() > most) {
                most = then.notGone();
                best = y;
            }
        }
        return best == NONE ? NONE : what == 0 ? best : most;
    }

    private int see(int x, int r) {
        if (noStep(x) || bad(r, 0, 40)) {
            return BAD;
        }
        if (seen.size() == 6) {
            return FULL;
        }
        seen.add(new int[] {x, r});
        return seen.size();
    }

    private int forget() {
        int was = seen.size();
        seen.clear();
        return was;
    }

    private boolean allSeenIsSo(Street then, int x) {
        return seen.stream().allMatch(s -> s[0] != x || s[1] == then.leftOver(x));
    }

    private int within(int x, int what) {
        if (noStep(x) || bad(what, 0, 1)) {
            return BAD;
        }
        List<Integer> sets = new ArrayList<>();
        for (int set = 0; set < 256; set++) {
            Street then = street.copy();
            for (int y = 0; y < then.people.size(); y++) {
                then.people.get(y).quarrelled = (set >> y & 1) == 0;
            }
            if ((set & street.there(x)) == set && allSeenIsSo(then, x)) {
                sets.add(set);
            }
        }
        return what == 0 ? sets.size() : sets.isEmpty() ? NONE : sets.get(0);
    }

    private int isCats(int x) {
        if (noStep(x)) {
            return BAD;
        }
        int bits = 0;
        for (int c = 0; c < 10; c++) {
            Street then = street.copy();
            then.cats[x] = c;
            bits |= allSeenIsSo(then, x) ? 1 << c : 0;
        }
        return bits;
    }

    private int was(int y, int n, int what) {
        if (noOne(y) || bad(n, 1, 20) || bad(what, 0, 1)) {
            return BAD;
        }
        if (street.people.get(y).well == 0) {
            return NO;
        }
        List<Integer> found = new ArrayList<>();
        for (int well = 0; well <= 20; well++) {
            Street then = street.copy();
            then.people.get(y).well = well;
            if (then.pass(n).people.get(y).well == street.people.get(y).well) {
                found.add(well);
            }
        }
        return what == 0 ? found.size() : found.isEmpty() ? NONE : found.get(0);
    }

    private static BigInteger ways(Street then, int y, int n, int x) {
        if (n == 0) {
            return then.people.get(y).well > 0 ? BigInteger.ONE : BigInteger.ZERO;
        }
        Street snow = then.copy();
        snow.down = new int[9];
        snow.pass(1);
        snow.down = then.down.clone();
        BigInteger bySnow = ways(snow, y, n - 1, x).multiply(BigInteger.valueOf(x));
        return bySnow.add(ways(then.copy().pass(1), y, n - 1, x).multiply(BigInteger.valueOf(10 - x)));
    }

    private int snows(int y, int n, int x, int part) {
        if (noOne(y) || bad(n, 0, 8) || bad(x, 0, 10) || bad(part, 0, 1)) {
            return BAD;
        }
        BigInteger above = ways(street, y, n, x);
        BigInteger below = BigInteger.TEN.pow(n);
        return (part == 0 ? above : below).divide(above.gcd(below)).intValueExact();
    }

    private int year(int z, int n, int what) {
        if (bad(z, 0, 9999) || bad(n, 1, 60) || bad(what, 0, 1)) {
            return BAD;
        }
        Street then = street.copy();
        int left = 0;
        for (int k = 0; k < n; k++) {
            BigInteger x = BigInteger.valueOf(7919).multiply(BigInteger.valueOf(z))
                .add(BigInteger.valueOf(6151).multiply(BigInteger.valueOf(k))).add(BigInteger.ONE);
            int draw = x.multiply(x).mod(BigInteger.valueOf(65521)).intValueExact();
            if (draw % 8 < 2) {
                then.down[draw / 8 % then.steps] = draw / 64 % 41;
            } else if (draw % 8 == 2) {
                Person p = then.people.get(draw / 8 % then.people.size());
                p.quarrelled = !p.quarrelled;
            } else if (draw % 8 == 3) {
                then.cats[draw / 8 % then.steps] = draw / 64 % 10;
            }
            left += then.leftOverInAll();
            then.pass(1);
        }
        return what == 0 ? then.notGone() : left;
    }

    private int keep() {
        if (kept.size() == 2) {
            return FULL;
        }
        kept.push(street.copy());
        return kept.size();
    }

    private int back() {
        if (kept.isEmpty()) {
            return NO;
        }
        street = kept.pop();
        past.clear();
        return kept.size();
    }

    private int count(int what) {
        int down = 0;
        for (int x = 0; x < street.steps; x++) {
            down += street.down[x];
        }
        int[] told = {street.steps, street.people.size(), street.holds, street.day,
            street.people.size() - street.notGone(), street.quarrelled(), down, street.leftOverInAll(), seen.size(),
            past.size(), kept.size(), text.length()};
        return bad(what, 0, 11) ? BAD : told[what];
    }
}

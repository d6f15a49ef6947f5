/** The milk that is left on the steps of a street for those whom people once were. */
public final class YoungerMilk {
    public static final int BAD = -1, NO = -2, FULL = -3, NONE = -4;

    private static final int STEPS = 9, YOUNGER = 8, LETTERS = 200, NUMBERS = 5;
    private static final int OLDEST = 20, MOST_NEED = 9, WELLEST = 20;
    private static final int MOST_DOWN = 40, MOST_CATS = 9, MOST_HOLD = 99;
    private static final int PROUD = 1, GREEDY = 2, SHY = 3;
    private static final int UNDOS = 8, KEPTS = 2, SEEN = 6;
    private static final int GOES_DAYS = 60, HELP_DAYS = 10, SNOW_DAYS = 8;
    private static final int MOST_TO_SHARE = 99, MOST_SHARE = 9;
    private static final String AT_FIRST =
            "s5;y0,0,9,2,8;y1,0,15,4,6;y2,2,7,3,5;y0,2,4,1,9;y3,3,11,2,7;y0,4,20,5,10;k2,2;k3,1;c0,5;c2,6;c3,2;c4,3;h9;";

    private final Reader reader = new Reader();
    private final Plan laid = new Plan();
    private final Plan draft = new Plan();
    private final Standing now = new Standing();
    private final Shelf undos = new Shelf(UNDOS);
    private final Shelf kepts = new Shelf(KEPTS);
    private final Day day = new Day(laid);
    private final Seen seen = new Seen();
    private final Comes comes = new Comes(laid, day);
    private final Sharing sharing = new Sharing(laid, day);
    private final Snowing snowing = new Snowing(laid, day);
    private final Cart cart = new Cart();

    public YoungerMilk() {
        for (int i = 0; i < AT_FIRST.length(); i++) {
            reader.add(AT_FIRST.charAt(i));
        }
        reader.readInto(laid);
        reader.clear();
        start();
    }

    // ---- streets

    public int write(int letter) {
        if (outside(letter, 32, 126)) {
            return BAD;
        }
        if (reader.length >= LETTERS) {
            return FULL;
        }
        reader.add(letter);
        return reader.length;
    }

    public int wipe() {
        int length = reader.length;
        reader.clear();
        return length;
    }

    public int fault() {
        return reader.readInto(draft);
    }

    public int lay() {
        // the street that stands must not be touched by a text that cannot be laid, so a draft tries it first
        if (reader.readInto(draft) != NONE || draft.count == 0) {
            return NO;
        }
        reader.readInto(laid);
        start();
        return laid.count;
    }

    public int step(int x, int what) {
        if (noStep(x) || outside(what, 0, 3)) {
            return BAD;
        }
        switch (what) {
            case 0: return now.down[x];
            case 1: return now.cats[x];
            case 2: return day.leftOverAt(now, x);
            default: return day.notGoneAt(now, x);
        }
    }

    public int younger(int y, int what) {
        if (noYounger(y) || outside(what, 0, 6)) {
            return BAD;
        }
        switch (what) {
            case 0: return laid.kind[y];
            case 1: return laid.at[y];
            case 2: return laid.age[y];
            case 3: return laid.need[y];
            case 4: return now.well[y];
            case 5: return now.hasQuarrelled(y) ? 1 : 0;
            default:
                day.leftOverAt(now, laid.at[y]);
                return day.drunk[y];
        }
    }

    // ---- acts

    public int pass(int n) {
        if (outside(n, 1, 20)) {
            return BAD;
        }
        undos.push(now);
        for (int i = 0; i < n; i++) {
            day.goBy(now);
        }
        return now.date;
    }

    public int put(int x, int m) {
        if (noStep(x) || outside(m, 0, MOST_DOWN)) {
            return BAD;
        }
        undos.push(now);
        int before = now.down[x];
        now.down[x] = m;
        return before;
    }

    public int quarrel(int y, int is) {
        if (noYounger(y) || outside(is, 0, 1)) {
            return BAD;
        }
        if (now.hasQuarrelled(y) == (is == 1) || now.well[y] == 0) {
            return NO;
        }
        undos.push(now);
        now.turn(y);
        return Integer.bitCount(now.quarrelled);
    }

    public int cats(int x, int c) {
        if (noStep(x) || outside(c, 0, MOST_CATS)) {
            return BAD;
        }
        undos.push(now);
        int before = now.cats[x];
        now.cats[x] = c;
        return before;
    }

    public int undo() {
        if (undos.size == 0) {
            return NO;
        }
        undos.popInto(now);
        return undos.size;
    }

    // ---- what comes

    public int behind(int n, int y) {
        if (outside(n, 0, 30) || noYounger(y)) {
            return BAD;
        }
        return comes.wellBehind(now, n, y);
    }

    public int goes(int y) {
        return noYounger(y) ? BAD : comes.daysToGo(now, y);
    }

    public int least(int x, int n) {
        if (noStep(x) || outside(n, 1, 20)) {
            return BAD;
        }
        return comes.leastFor(now, x, n);
    }

    public int round() {
        return cart.leastWay(now.down, laid.hold);
    }

    public int best(int m, int n, int x) {
        if (outside(m, 0, MOST_TO_SHARE) || outside(n, 1, 20) || x != -1 && noStep(x)) {
            return BAD;
        }
        sharing.dealOut(now, m, n);
        return x == -1 ? sharing.kept : sharing.share[x];
    }

    public int help(int what) {
        if (outside(what, 0, 1)) {
            return BAD;
        }
        int helper = comes.helper(now);
        if (helper == NONE) {
            return NONE;
        }
        return what == 0 ? helper : comes.othersKeptBy(now, helper);
    }

    // ---- what was seen

    public int see(int x, int r) {
        if (noStep(x) || outside(r, 0, MOST_DOWN)) {
            return BAD;
        }
        if (seen.size >= SEEN) {
            return FULL;
        }
        seen.add(x, r);
        return seen.size;
    }

    public int forget() {
        int size = seen.size;
        seen.clear();
        return size;
    }

    public int within(int x, int what) {
        if (noStep(x) || outside(what, 0, 1)) {
            return BAD;
        }
        int found = 0;
        int there = day.notGoneAt(now, x);
        for (int set = 0; set < 1 << YOUNGER; set++) {
            boolean ofThese = (set & ~there) == 0;
            if (!ofThese || !seen.fits(x, day.leftOver(x, now.down[x], now.cats[x], set))) {
                continue;
            }
            if (what == 1) {
                return set;
            }
            found++;
        }
        return what == 1 ? NONE : found;
    }

    public int isCats(int x) {
        if (noStep(x)) {
            return BAD;
        }
        int bits = 0;
        int drinkers = day.drinkersAt(now, x);
        for (int c = 0; c <= MOST_CATS; c++) {
            if (seen.fits(x, day.leftOver(x, now.down[x], c, drinkers))) {
                bits |= 1 << c;
            }
        }
        return bits;
    }

    public int was(int y, int n, int what) {
        if (noYounger(y) || outside(n, 1, 20) || outside(what, 0, 1)) {
            return BAD;
        }
        if (now.well[y] == 0) {
            return NO;
        }
        int found = 0;
        for (int well = 0; well <= WELLEST; well++) {
            if (comes.wellBehindFrom(now, n, y, well) != now.well[y]) {
                continue;
            }
            if (what == 1) {
                return well;
            }
            found++;
        }
        return what == 1 ? NONE : found;
    }

    // ---- snows, years

    public int snows(int y, int n, int x, int part) {
        if (noYounger(y) || outside(n, 0, SNOW_DAYS) || outside(x, 0, 10) || outside(part, 0, 1)) {
            return BAD;
        }
        int above = snowing.waysKept(now, y, n, x);
        int below = 1;
        for (int i = 0; i < n; i++) {
            below *= 10;
        }
        int by = Math.max(1, commonDivisor(above, below));
        return (part == 0 ? above : below) / by;
    }

    public int year(int z, int n, int what) {
        if (outside(z, 0, 9999) || outside(n, 1, 60) || outside(what, 0, 1)) {
            return BAD;
        }
        int left = comes.leftOverInYear(now, z, n);
        return what == 0 ? comes.then.notGone() : left;
    }

    public int keep() {
        if (kepts.size >= KEPTS) {
            return FULL;
        }
        kepts.push(now);
        return kepts.size;
    }

    public int back() {
        if (kepts.size == 0) {
            return NO;
        }
        kepts.popInto(now);
        undos.clear();
        return kepts.size;
    }

    public int count(int what) {
        switch (what) {
            case 0: return laid.steps;
            case 1: return laid.count;
            case 2: return laid.hold;
            case 3: return now.date;
            case 4: return laid.count - now.notGone();
            case 5: return Integer.bitCount(now.quarrelled);
            case 6: return downInAll();
            case 7: return leftOverInAll();
            case 8: return seen.size;
            case 9: return undos.size;
            case 10: return kepts.size;
            case 11: return reader.length;
            default: return BAD;
        }
    }

    private void start() {
        now.startAs(laid);
        seen.clear();
        undos.clear();
        kepts.clear();
    }

    private int downInAll() {
        int sum = 0;
        for (int x = 0; x < laid.steps; x++) {
            sum += now.down[x];
        }
        return sum;
    }

    private int leftOverInAll() {
        int sum = 0;
        for (int x = 0; x < laid.steps; x++) {
            sum += day.leftOverAt(now, x);
        }
        return sum;
    }

    private boolean noStep(int x) {
        return outside(x, 0, laid.steps - 1);
    }

    private boolean noYounger(int y) {
        return outside(y, 0, laid.count - 1);
    }

    private static boolean outside(int n, int low, int high) {
        return n < low || n > high;
    }

    private static boolean has(int bits, int i) {
        return (bits >> i & 1) != 0;
    }

    private static int modulo(int n, int by) {
        return by > 0 ? n % by : 0;
    }

    private static int commonDivisor(int a, int b) {
        // the second grows less each time: some forty times is more than two ints can take
        for (int i = 0; i < 64 && b != 0; i++) {
            int rest = a % b;
            a = b;
            b = rest;
        }
        return a;
    }

    /** What a text tells: what stays as it is, and how all stands at first. */
    private static final class Plan {
        final int[] kind = new int[YOUNGER];
        final int[] at = new int[YOUNGER];
        final int[] age = new int[YOUNGER];
        final int[] need = new int[YOUNGER];
        final int[] well = new int[YOUNGER];
        final int[] down = new int[STEPS];
        final int[] cats = new int[STEPS];
        /** The younger ones in the order in which they drink, step behind step. */
        final int[] line = new int[YOUNGER];
        /** Where in the line those of a step begin; one more, so that each step's line has an end. */
        final int[] first = new int[STEPS + 1];
        int steps;
        int hold;
        int count;
        private boolean onlySteps;

        void clear() {
            steps = 5;
            hold = 20;
            count = 0;
            onlySteps = true;
            for (int x = 0; x < STEPS; x++) {
                down[x] = 0;
                cats[x] = 0;
                first[x] = 0;
            }
            first[STEPS] = 0;
        }

        /** Takes an item with its numbers, or answers that it is not so. */
        boolean take(int letter, int[] told, int many) {
            if (letter == 's') {
                return takeSteps(told, many);
            }
            onlySteps = false;
            switch (letter) {
                case 'y': return takeYounger(told, many);
                case 'k': return takeAtStep(cats, told, many, MOST_CATS);
                case 'c': return takeAtStep(down, told, many, MOST_DOWN);
                case 'h': return takeHold(told, many);
                default: return false;
            }
        }

        private boolean takeSteps(int[] told, int many) {
            if (!onlySteps || many != 1 || outside(told[0], 1, STEPS)) {
                return false;
            }
            steps = told[0];
            return true;
        }

        private boolean takeYounger(int[] told, int many) {
            if (many != 5 || count >= YOUNGER || outside(told[0], 0, SHY) || outside(told[1], 0, steps - 1)
                    || outside(told[2], 0, OLDEST) || outside(told[3], 1, MOST_NEED) || outside(told[4], 1, WELLEST)) {
                return false;
            }
            kind[count] = told[0];
            at[count] = told[1];
            age[count] = told[2];
            need[count] = told[3];
            well[count] = told[4];
            count++;
            return true;
        }

        private boolean takeAtStep(int[] row, int[] told, int many, int most) {
            if (many != 2 || outside(told[0], 0, steps - 1) || outside(told[1], 0, most)) {
                return false;
            }
            row[told[0]] = told[1];
            return true;
        }

        private boolean takeHold(int[] told, int many) {
            if (many != 1 || outside(told[0], 1, MOST_HOLD)) {
                return false;
            }
            hold = told[0];
            return true;
        }

        /** Finds the line, when all items are taken. */
        void lineUp() {
            for (int y = 0; y < count; y++) {
                int i = y;
                for (; i > 0 && drinksBehind(line[i - 1], y); i--) {
                    line[i] = line[i - 1];
                }
                line[i] = y;
                for (int x = at[y] + 1; x <= STEPS; x++) {
                    first[x]++;
                }
            }
        }

        private boolean drinksBehind(int y, int other) {
            return at[y] > at[other] || at[y] == at[other] && age[y] > age[other];
        }

        int wants(int y, boolean catsDrank) {
            switch (kind[y]) {
                case PROUD: return need[y] / 2 + 1;
                case GREEDY: return 2 * need[y];
                case SHY: return catsDrank ? 0 : need[y];
                default: return need[y];
            }
        }

        /** By how much a day makes one more well that drank so much at peace. */
        int gains(int y, int drunk) {
            boolean proud = kind[y] == PROUD;
            int enough = proud ? wants(y, false) : need[y];
            if (drunk >= enough) {
                return 1;
            }
            return proud ? -1 : drunk - need[y];
        }
    }

    /** The text, and how it is read. */
    private static final class Reader {
        private final int[] letters = new int[LETTERS];
        private final int[] told = new int[NUMBERS];
        int length;

        void add(int letter) {
            if (length < LETTERS) {
                letters[length++] = letter;
            }
        }

        void clear() {
            length = 0;
        }

        /** Makes the plan what the text tells, up to its fault; answers where that is. */
        int readInto(Plan plan) {
            plan.clear();
            int item = 0;
            int many = 0;
            int figures = 0;
            for (int i = 0; i < length; i++) {
                int letter = letters[i];
                if (i == item) {
                    // which letter it is, is for the plan to judge, when the item's numbers are all read
                    continue;
                }
                if (letter >= '0' && letter <= '9' && figures < 2 && many < NUMBERS) {
                    told[many] = (figures == 0 ? 0 : 10 * told[many]) + letter - '0';
                    figures++;
                    continue;
                }
                if (figures == 0 || letter != ',' && letter != ';') {
                    return item;
                }
                many++;
                figures = 0;
                if (letter == ';') {
                    if (!plan.take(letters[item], told, many)) {
                        return item;
                    }
                    item = i + 1;
                    many = 0;
                }
            }
            plan.lineUp();
            return item < length ? item : NONE;
        }
    }

    /** All that acts change and days. */
    private static final class Standing {
        final int[] down = new int[STEPS];
        final int[] cats = new int[STEPS];
        /** By how much each is well; 0: it has gone, or there is none such. */
        final int[] well = new int[YOUNGER];
        int quarrelled;
        int date;

        void startAs(Plan plan) {
            for (int x = 0; x < STEPS; x++) {
                down[x] = plan.down[x];
                cats[x] = plan.cats[x];
            }
            for (int y = 0; y < YOUNGER; y++) {
                well[y] = y < plan.count ? plan.well[y] : 0;
            }
            quarrelled = 0;
            date = 0;
        }

        void become(Standing other) {
            for (int x = 0; x < STEPS; x++) {
                down[x] = other.down[x];
                cats[x] = other.cats[x];
            }
            for (int y = 0; y < YOUNGER; y++) {
                well[y] = other.well[y];
            }
            quarrelled = other.quarrelled;
            date = other.date;
        }

        boolean hasQuarrelled(int y) {
            return has(quarrelled, y);
        }

        void turn(int y) {
            quarrelled ^= 1 << y;
        }

        int notGone() {
            int sum = 0;
            for (int y = 0; y < YOUNGER; y++) {
                sum += well[y] > 0 ? 1 : 0;
            }
            return sum;
        }
    }

    /** The latest so many standings that were put on it. */
    private static final class Shelf {
        private final Standing[] places;
        private int next;
        int size;

        Shelf(int most) {
            places = new Standing[most];
            for (int i = 0; i < most; i++) {
                places[i] = new Standing();
            }
        }

        void clear() {
            size = 0;
        }

        void push(Standing standing) {
            if (next >= 0 && next < places.length) {
                places[next].become(standing);
                next = next + 1 == places.length ? 0 : next + 1;
                size = Math.min(size + 1, places.length);
            }
        }

        void popInto(Standing standing) {
            int last = next == 0 ? places.length - 1 : next - 1;
            if (size > 0 && last >= 0 && last < places.length) {
                standing.become(places[last]);
                next = last;
                size--;
            }
        }
    }

    /** A day: who drinks how much, what is left over, how they fare by it. */
    private static final class Day {
        private final Plan plan;
        final int[] drunk = new int[YOUNGER];

        Day(Plan plan) {
            this.plan = plan;
        }

        int notGoneAt(Standing standing, int x) {
            int bits = 0;
            for (int i = plan.first[x]; i < plan.first[x + 1]; i++) {
                int y = plan.line[i];
                bits |= standing.well[y] > 0 ? 1 << y : 0;
            }
            return bits;
        }

        int drinkersAt(Standing standing, int x) {
            return notGoneAt(standing, x) & ~standing.quarrelled;
        }

        /** What is left over at a step where just these drink; tells who drank how much. */
        int leftOver(int x, int down, int cats, int drinkers) {
            int lapped = Math.min(cats, down);
            int left = down - lapped;
            for (int i = plan.first[x]; i < plan.first[x + 1]; i++) {
                int y = plan.line[i];
                drunk[y] = has(drinkers, y) ? Math.min(plan.wants(y, lapped > 0), left) : 0;
                left -= drunk[y];
            }
            return left;
        }

        int leftOverAt(Standing standing, int x) {
            return leftOver(x, standing.down[x], standing.cats[x], drinkersAt(standing, x));
        }

        /** Lets it go by at one step, with so much set down there; answers what was left over. */
        int goByAt(Standing standing, int x, int down) {
            int left = leftOver(x, down, standing.cats[x], drinkersAt(standing, x));
            for (int i = plan.first[x]; i < plan.first[x + 1]; i++) {
                int y = plan.line[i];
                if (standing.well[y] > 0) {
                    int gained = standing.hasQuarrelled(y) ? -1 : plan.gains(y, drunk[y]);
                    standing.well[y] = Math.max(0, Math.min(WELLEST, standing.well[y] + gained));
                }
            }
            return left;
        }

        int goBy(Standing standing) {
            int left = 0;
            for (int x = 0; x < plan.steps; x++) {
                left += goByAt(standing, x, standing.down[x]);
            }
            standing.date++;
            return left;
        }
    }

    /** What comes of how it stands, tried out on another standing. */
    private static final class Comes {
        private final Plan plan;
        private final Day day;
        final Standing then = new Standing();

        Comes(Plan plan, Day day) {
            this.plan = plan;
            this.day = day;
        }

        private void goByAt(int x, int days) {
            for (int i = 0; i < days; i++) {
                day.goByAt(then, x, then.down[x]);
            }
        }

        int wellBehind(Standing now, int n, int y) {
            return wellBehindFrom(now, n, y, now.well[y]);
        }

        int wellBehindFrom(Standing now, int n, int y, int well) {
            then.become(now);
            then.well[y] = well;
            goByAt(plan.at[y], n);
            return then.well[y];
        }

        int daysToGo(Standing now, int y) {
            then.become(now);
            for (int days = 0; days <= GOES_DAYS; days++) {
                if (then.well[y] == 0) {
                    return days;
                }
                goByAt(plan.at[y], 1);
            }
            return NONE;
        }

        int leastFor(Standing now, int x, int n) {
            int there = day.notGoneAt(now, x);
            for (int m = 0; m <= MOST_DOWN; m++) {
                then.become(now);
                then.down[x] = m;
                goByAt(x, n);
                if (day.notGoneAt(then, x) == there) {
                    return m;
                }
            }
            return NONE;
        }

        int helper(Standing now) {
            int helper = NONE;
            int most = -1;
            for (int y = 0; y < plan.count; y++) {
                if (now.well[y] == 0 || now.hasQuarrelled(y)) {
                    continue;
                }
                int kept = othersKeptBy(now, y);
                if (kept > most) {
                    most = kept;
                    helper = y;
                }
            }
            return helper;
        }

        int othersKeptBy(Standing now, int y) {
            then.become(now);
            then.turn(y);
            for (int i = 0; i < HELP_DAYS; i++) {
                day.goBy(then);
            }
            return then.notGone() - (then.well[y] > 0 ? 1 : 0);
        }

        int leftOverInYear(Standing now, int z, int n) {
            then.become(now);
            int left = 0;
            for (int k = 0; k < n; k++) {
                long x = 7919L * z + 6151L * k + 1;
                act((int) (x * x % 65521));
                left += day.goBy(then);
            }
            return left;
        }

        private void act(int draw) {
            int whose = draw / 8;
            int much = draw / 64;
            switch (draw % 8) {
                case 0:
                case 1:
                    then.down[modulo(whose, plan.steps)] = much % (MOST_DOWN + 1);
                    break;
                case 2:
                    then.turn(modulo(whose, plan.count));
                    break;
                case 3:
                    then.cats[modulo(whose, plan.steps)] = much % (MOST_CATS + 1);
                    break;
                default:
                    break;
            }
        }
    }

    /** How most are kept by so much milk. */
    private static final class Sharing {
        /** One kept is worth more than all that a street can be given. */
        private static final int KEPT = 100;

        private final Plan plan;
        private final Day day;
        private final Standing then = new Standing();
        private final int[][] stay = new int[STEPS][MOST_SHARE + 1];
        /** The most that the steps from one on are worth with so much left for them. */
        private final int[][] worth = new int[STEPS][MOST_TO_SHARE + 1];
        final int[] share = new int[STEPS];
        int kept;

        Sharing(Plan plan, Day day) {
            this.plan = plan;
            this.day = day;
        }

        void dealOut(Standing now, int m, int n) {
            for (int each = 0; each <= MOST_SHARE; each++) {
                stayBy(now, each, n);
            }
            // what is set down at one step changes nothing at others, so the steps can be settled from the last one on
            for (int x = plan.steps - 1; x > 0; x--) {
                for (int left = 0; left <= m; left++) {
                    worth[x][left] = worthOf(x, left, bestShare(x, left));
                }
            }
            deal(m);
        }

        private void stayBy(Standing now, int each, int n) {
            then.become(now);
            for (int x = 0; x < plan.steps; x++) {
                for (int i = 0; i < n; i++) {
                    day.goByAt(then, x, each);
                }
                stay[x][each] = Integer.bitCount(day.notGoneAt(then, x));
            }
        }

        private int worthOf(int x, int left, int each) {
            int behind = x + 1 < plan.steps ? worth[x + 1][left - each] : 0;
            return KEPT * stay[x][each] - each + behind;
        }

        private int bestShare(int x, int left) {
            int found = 0;
            int most = worthOf(x, left, 0);
            for (int each = 1; each <= MOST_SHARE && each <= left; each++) {
                int worthNow = worthOf(x, left, each);
                if (worthNow > most) {
                    most = worthNow;
                    found = each;
                }
            }
            return found;
        }

        private void deal(int m) {
            int left = m;
            kept = 0;
            for (int x = 0; x < plan.steps; x++) {
                share[x] = bestShare(x, left);
                left -= share[x];
                kept += stay[x][share[x]];
            }
        }
    }

    /** Days on which it may snow. */
    private static final class Snowing {
        private final Plan plan;
        private final Day day;
        /** How it stands behind so many days, and in how many ways out of ten to them it came so. */
        private final Standing[] behind = new Standing[SNOW_DAYS + 1];
        private final int[] ways = new int[SNOW_DAYS + 1];

        Snowing(Plan plan, Day day) {
            this.plan = plan;
            this.day = day;
            for (int i = 0; i <= SNOW_DAYS; i++) {
                behind[i] = new Standing();
            }
        }

        /** In how many ways, out of ten to the days, one has not gone. */
        int waysKept(Standing now, int y, int n, int x) {
            behind[0].become(now);
            ways[0] = 1;
            int kept = 0;
            for (int sky = 0; sky < 1 << n; sky++) {
                // the skies are counted up with the last day lowest: what is ahead of the change is as it was
                for (int i = sameAhead(sky, n); i < n; i++) {
                    goBy(i, plan.at[y], has(sky, n - 1 - i), x);
                }
                kept += behind[n].well[y] > 0 ? ways[n] : 0;
            }
            return kept;
        }

        private static int sameAhead(int sky, int n) {
            for (int i = n - 1; i > 0; i--) {
                if (has(sky, n - 1 - i)) {
                    return i;
                }
            }
            return 0;
        }

        private void goBy(int i, int step, boolean snow, int x) {
            behind[i + 1].become(behind[i]);
            day.goByAt(behind[i + 1], step, snow ? 0 : behind[i].down[step]);
            ways[i + 1] = ways[i] * (snow ? x : 10 - x);
        }
    }

    /** The journeys of the cart. */
    private static final class Cart {
        /** For each set of steps that get something: what is brought there, and the least way by which. */
        private final int[] load = new int[1 << STEPS];
        private final int[] way = new int[1 << STEPS];

        int leastWay(int[] down, int hold) {
            int due = 0;
            for (int x = 0; x < STEPS && x < down.length; x++) {
                if (down[x] == 0) {
                    continue;
                }
                for (int nearer = 0; nearer < 1 << x; nearer++) {
                    if ((nearer & ~due) == 0) {
                        bringTo(x, nearer, Math.min(down[x], hold), hold);
                    }
                }
                due |= 1 << x;
            }
            return way[due];
        }

        /** Finds the least way to a step and nearer ones: some journey goes there and takes some of these along. */
        private void bringTo(int x, int nearer, int can, int hold) {
            int there = 2 * (x + 1);
            int least = there + way[nearer];
            for (int along = nearer; along > 0; along = along - 1 & nearer) {
                if (load[along] + can <= hold) {
                    least = Math.min(least, there + way[nearer ^ along]);
                }
            }
            load[nearer | 1 << x] = load[nearer] + can;
            way[nearer | 1 << x] = least;
        }
    }

    /** What is seen. */
    private static final class Seen {
        private final int[] at = new int[SEEN];
        private final int[] left = new int[SEEN];
        int size;

        void clear() {
            size = 0;
        }

        void add(int x, int r) {
            if (size < SEEN) {
                at[size] = x;
                left[size] = r;
                size++;
            }
        }

        boolean fits(int x, int leftOver) {
            for (int i = 0; i < size; i++) {
                if (at[i] == x && left[i] != leftOver) {
                    return false;
                }
            }
            return true;
        }
    }
}

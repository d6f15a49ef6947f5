/** The calls of the face by their names, and all that can be asked of how it stands. */
final class Calls {
    private Calls() {
    }

    /** Answers the call of that name; numbers that it does not take are left aside. */
    static int answer(YoungerMilk milk, String call, int a, int b, int c, int d) {
        switch (call) {
            case "write": return milk.write(a);
            case "wipe": return milk.wipe();
            case "fault": return milk.fault();
            case "lay": return milk.lay();
            case "step": return milk.step(a, b);
            case "younger": return milk.younger(a, b);
            case "pass": return milk.pass(a);
            case "put": return milk.put(a, b);
            case "quarrel": return milk.quarrel(a, b);
            case "cats": return milk.cats(a, b);
            case "undo": return milk.undo();
            case "behind": return milk.behind(a, b);
            case "goes": return milk.goes(a);
            case "least": return milk.least(a, b);
            case "round": return milk.round();
            case "best": return milk.best(a, b, c);
            case "help": return milk.help(a);
            case "see": return milk.see(a, b);
            case "forget": return milk.forget();
            case "within": return milk.within(a, b);
            case "isCats": return milk.isCats(a);
            case "was": return milk.was(a, b, c);
            case "snows": return milk.snows(a, b, c, d);
            case "year": return milk.year(a, b, c);
            case "keep": return milk.keep();
            case "back": return milk.back();
            case "count": return milk.count(a);
            default: throw new IllegalArgumentException(call);
        }
    }

    /** How it stands, in words: some 190 calls at most, none of which changes anything. */
    static String state(YoungerMilk milk) {
        StringBuilder all = new StringBuilder("counts");
        for (int what = 0; what < 12; what++) {
            all.append(' ').append(milk.count(what));
        }
        all.append("; fault ").append(milk.fault());
        for (int x = 0; x < milk.count(0); x++) {
            all.append("; step ").append(x);
            for (int what = 0; what < 4; what++) {
                all.append(' ').append(milk.step(x, what));
            }
            all.append(" seen ").append(milk.within(x, 0)).append(' ').append(milk.isCats(x));
        }
        for (int y = 0; y < milk.count(1); y++) {
            all.append("; younger ").append(y);
            for (int what = 0; what < 7; what++) {
                all.append(' ').append(milk.younger(y, what));
            }
        }
        return all.toString();
    }
}

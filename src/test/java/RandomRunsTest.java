import java.util.ArrayList;
import java.util.List;
import java.util.Random;

/** Runs of drawn calls (from fixed seeds) on LivingDays and on the plain model: the answers are alike. */
public final class RandomRunsTest {
    private static final int RUNS = 700;
    private static final int CALLS = 512;
    private static final String[] METHODS = {"feed", "calendar", "stay", "home", "centre", "nation", "drawn", "at",
        "letter", "window", "rule", "order", "entries", "entered", "treaty", "without", "tax", "told", "days",
        "month", "within", "overstays", "nth", "away", "travels", "most", "tight", "rank", "slide", "trade",
        "erase", "routes", "latest", "wins", "partner", "together", "claims", "holds", "answers", "by", "lives",
        "pairs", "split", "owed", "free", "mustLeave", "mayCome", "claimBy", "freest", "need", "moved", "loose",
        "nearest", "instead", "trip", "cheapest", "count", "keep", "undo"};
    private static final int[] ODD = {-1, -2, -3, 6, 7, 1080, 1081, 361, 3, Integer.MIN_VALUE, Integer.MAX_VALUE,
        Integer.MIN_VALUE + 1, 65536, -1079, 100000};

    private final Random random;
    private final Checks checks;
    private final int run;
    private LivingDays own = new LivingDays();
    private PlainModel model = new PlainModel();
    private final List<String> calls = new ArrayList<>();
    /** How often odd numbers come: many runs have none, so that states grow rich. */
    private final int oddness;

    private RandomRunsTest(int run, Checks checks) {
        this.run = run;
        this.random = new Random(7919L * run + 17);
        this.checks = checks;
        this.oddness = run % 4 == 0 ? 12 : run % 4 == 1 ? 60 : 1000000;
    }

    public static void main(String[] args) {
        Checks checks = new Checks("RandomRunsTest");
        int runs = args.length > 1 ? Integer.parseInt(args[1]) : RUNS;
        for (int run = 0; run < runs && checks.wrong() == 0; run++) {
            new RandomRunsTest(run, checks).play();
        }
        checks.end();
    }

    private void play() {
        setUp();
        for (int k = calls.size(); k < CALLS && checks.wrong() == 0; k++) {
            String method = METHODS[random.nextInt(METHODS.length)];
            if (method.equals("loose") && random.nextInt(8) != 0) {
                method = "stay";
            }
            call(method);
        }
        if (checks.wrong() != 0) {
            System.out.println("the calls of run " + run + ":");
            calls.forEach(System.out::println);
        }
    }

    /** Rules and days that make most questions worth asking. */
    private void setUp() {
        if (run % 7 == 0) {
            return;
        }
        call("drawn");
        for (int k = 0; k < 20; k++) {
            call(new String[] {"window", "rule", "rule", "home", "centre", "tax", "entries", "nation", "partner",
                "stay"}[random.nextInt(10)]);
        }
    }

    private int odd(int usual) {
        return random.nextInt(oddness) == 0 ? ODD[random.nextInt(ODD.length)] : usual;
    }

    private int land() {
        return odd(random.nextInt(6));
    }

    private int place() {
        return odd(random.nextInt(7) - 1);
    }

    private int year() {
        return odd(random.nextInt(3));
    }

    private int what(int greatest) {
        return odd(random.nextInt(greatest + 1));
    }

    private int day() {
        int kind = random.nextInt(6);
        if (kind == 0) {
            return odd(new int[] {0, 1079, 359, 360, 719, 720, 1078, 1}[random.nextInt(8)]);
        }
        return odd(random.nextInt(1080));
    }

    private int dayFrom(int from) {
        if (from < 0 || from > 1079 || random.nextInt(40) == 0) {
            return day();
        }
        int most = random.nextInt(3) == 0 ? 1080 - from : Math.min(1080 - from, 40);
        return odd(from + random.nextInt(most));
    }

    private int number(int least, int greatest) {
        int kind = random.nextInt(8);
        if (kind == 0) {
            return odd(random.nextBoolean() ? least : greatest);
        }
        if (kind < 4) {
            return odd(least + random.nextInt(Math.min(40, greatest - least + 1)));
        }
        return odd(least + random.nextInt(greatest - least + 1));
    }

    private void same(String text, long got, long want) {
        calls.add(text + " = " + want);
        checks.due("run " + run + ", call " + calls.size() + ": " + text, got, want);
    }

    private void same(String text, boolean got, boolean want) {
        same(text, got ? 1L : 0L, want ? 1L : 0L);
    }

    private static String told(String method, Object... arguments) {
        StringBuilder text = new StringBuilder(method).append('(');
        for (int k = 0; k < arguments.length; k++) {
            text.append(k > 0 ? ", " : "").append(arguments[k]);
        }
        return text.append(')').toString();
    }

    // ---- texts for the tape

    private String blanks() {
        return random.nextInt(5) == 0 ? " ".repeat(1 + random.nextInt(2)) : "";
    }

    private String calendarText() {
        StringBuilder text = new StringBuilder();
        int stays = 1 + random.nextInt(random.nextInt(4) == 0 ? 12 : 4);
        for (int k = 0; k < stays; k++) {
            int from = random.nextInt(1080);
            text.append(k > 0 ? "," : "").append(blanks());
            text.append("abcdef-".charAt(random.nextInt(7))).append(blanks()).append(from).append(blanks());
            if (random.nextBoolean()) {
                int to = Math.min(1079, from + random.nextInt(200));
                text.append("..").append(blanks()).append(to).append(blanks());
            }
        }
        if (random.nextInt(3) == 0) {
            String signs = " ,.-abg0123456789";
            int at = random.nextInt(text.length());
            char sign = random.nextInt(10) == 0 ? (char) random.nextInt(256) : signs.charAt(random.nextInt(17));
            switch (random.nextInt(3)) {
                case 0 -> text.setCharAt(at, sign);
                case 1 -> text.insert(at, sign);
                default -> text.deleteCharAt(at);
            }
        }
        return text.toString();
    }

    private String rowText() {
        String letters = random.nextInt(6) == 0 ? "hcdnx" : "hcdn";
        StringBuilder pool = new StringBuilder(letters);
        StringBuilder row = new StringBuilder();
        int length = random.nextInt(5);
        for (int k = 0; k < length; k++) {
            int at = random.nextInt(pool.length());
            row.append(pool.charAt(at));
            if (random.nextInt(12) != 0) {
                pool.deleteCharAt(at);
            }
        }
        return row.toString();
    }

    private void feedText(String text) {
        for (int k = 0; k < text.length(); k += 20) {
            int[] words = new int[5];
            for (int j = 0; j < 20; j++) {
                int sign = k + j < text.length() ? text.charAt(k + j) : 'x';
                words[j / 4] = words[j / 4] << 8 | sign;
            }
            feedWords(words);
        }
    }

    private void feedWords(int[] w) {
        same(told("feed", w[0], w[1], w[2], w[3], w[4]), own.feed(w[0], w[1], w[2], w[3], w[4]), model.feed(w));
    }

    /** Feeds a text onto an empty tape, most of the time; how many bytes the call is to take. */
    private int fedLength(String text) {
        if (random.nextInt(10) != 0) {
            emptyTape();
            feedText(text);
        }
        return random.nextInt(30) == 0 ? number(0, 161) : odd(text.length());
    }

    private void emptyTape() {
        same("order(0, 4) that may empty the tape", own.order(0, 4), model.order(0, 4));
    }

    // ---- the calls

    private void call(String method) {
        switch (method) {
            case "feed" -> feedWords(new int[] {random.nextInt(), random.nextInt(), 0x61312c62, 0x20202020, -1});
            case "calendar", "trip", "order", "treaty" -> callWithTape(method);
            case "stay", "home", "centre", "nation", "drawn", "at", "letter" -> callDays(method);
            case "window", "rule", "entries", "entered", "without", "tax", "told" -> callRules(method);
            case "days", "month", "within", "overstays", "nth", "away", "travels", "most", "tight", "rank" ->
                callCounted(method);
            case "slide", "trade", "erase", "routes", "latest", "wins", "partner", "together" -> callMore(method);
            case "claims", "holds", "answers", "by", "lives", "pairs", "split", "owed" -> callLives(method);
            case "count", "keep", "undo" -> callAll(method);
            default -> callWouldBe(method);
        }
    }

    private void callWithTape(String method) {
        boolean row = method.equals("order") || method.equals("treaty");
        int n = fedLength(row ? rowText() : calendarText());
        int a = land();
        int b = land();
        int what = what(4);
        switch (method) {
            case "calendar" -> same(told(method, n), own.calendar(n), model.calendar(n));
            case "trip" -> same(told(method, n, what), own.trip(n, what), model.trip(n, what));
            case "order" -> same(told(method, a, n), own.order(a, n), model.order(a, n));
            default -> same(told(method, a, b, n), own.treaty(a, b, n), model.treaty(a, b, n));
        }
    }

    private void callDays(String method) {
        int land = land();
        int place = place();
        int from = day();
        int to = dayFrom(from);
        boolean is = random.nextInt(3) != 0;
        switch (method) {
            case "stay" -> same(told(method, place, from, to), own.stay(place, from, to), model.stay(place, from, to));
            case "home" -> same(told(method, land, from, to, is), own.home(land, from, to, is),
                model.home(land, from, to, is));
            case "centre" -> same(told(method, place, from, to), own.centre(place, from, to),
                model.centre(place, from, to));
            case "nation" -> same(told(method, land, is), own.nation(land, is), model.nation(land, is));
            case "drawn" -> {
                int seed = random.nextInt();
                int n = number(1, 100);
                int most = number(1, 360);
                same(told(method, seed, n, most), own.drawn(seed, n, most), model.drawn(seed, n, most));
            }
            case "at" -> {
                int what = what(2);
                same(told(method, from, what), own.at(from, what), model.at(from, what));
            }
            default -> {
                int k = odd(random.nextInt(300) - 1);
                same(told(method, k), own.letter(k), model.letter(k));
            }
        }
    }

    private void callRules(String method) {
        int land = land();
        int other = land();
        int year = year();
        switch (method) {
            case "window" -> {
                int w = number(0, 360);
                int m = w > 0 && w <= 360 ? odd(random.nextInt(w + 1)) : odd(0);
                same(told(method, land, w, m), own.window(land, w, m), model.window(land, w, m));
            }
            case "rule" -> {
                int sort = what(2);
                int n = number(0, random.nextBoolean() ? 360 : 60);
                same(told(method, land, sort, n), own.rule(land, sort, n), model.rule(land, sort, n));
            }
            case "entries" -> {
                int n = random.nextBoolean() ? odd(random.nextInt(4)) : number(0, 100);
                same(told(method, land, n), own.entries(land, n), model.entries(land, n));
            }
            case "entered" -> {
                int what = what(2);
                same(told(method, land, year, what), own.entered(land, year, what), model.entered(land, year, what));
            }
            case "without" -> same(told(method, land, other), own.without(land, other), model.without(land, other));
            case "tax" -> {
                int r = number(0, 60);
                same(told(method, land, r), own.tax(land, r), model.tax(land, r));
            }
            default -> {
                int what = what(11);
                same(told(method, land, what), own.told(land, what), model.told(land, what));
            }
        }
    }

    private void callCounted(String method) {
        int land = land();
        int year = year();
        int from = day();
        int to = dayFrom(from);
        int w = number(1, 1080);
        switch (method) {
            case "days" -> {
                int what = what(4);
                same(told(method, land, year, what), own.days(land, year, what), model.days(land, year, what));
            }
            case "month" -> {
                int month = odd(random.nextInt(36));
                same(told(method, land, month), own.month(land, month), model.month(land, month));
            }
            case "within" -> same(told(method, land, from, w), own.within(land, from, w), model.within(land, from, w));
            case "overstays" -> {
                int what = what(2);
                same(told(method, land, from, to, what), own.overstays(land, from, to, what),
                    model.overstays(land, from, to, what));
            }
            case "nth" -> {
                int k = odd(random.nextInt(8));
                int what = what(2);
                same(told(method, land, k, what), own.nth(land, k, what), model.nth(land, k, what));
            }
            case "away" -> {
                int what = what(1);
                same(told(method, land, what), own.away(land, what), model.away(land, what));
            }
            case "travels" -> same(told(method, land, year), own.travels(land, year), model.travels(land, year));
            case "most" -> {
                int sort = what(2);
                same(told(method, land, sort, year), own.most(land, sort, year), model.most(land, sort, year));
            }
            case "tight" -> {
                int what = what(1);
                same(told(method, land, w, what), own.tight(land, w, what), model.tight(land, w, what));
            }
            default -> {
                int k = what(5);
                same(told(method, year, k), own.rank(year, k), model.rank(year, k));
            }
        }
    }

    private void callMore(String method) {
        int land = land();
        int other = land();
        int year = year();
        int from = day();
        int to = dayFrom(from);
        switch (method) {
            case "slide" -> {
                int by = odd(random.nextInt(121) - 60);
                same(told(method, from, to, by), own.slide(from, to, by), model.slide(from, to, by));
            }
            case "trade" -> same(told(method, land, other, from, to), own.trade(land, other, from, to),
                model.trade(land, other, from, to));
            case "erase" -> {
                int n = random.nextInt(4) == 0 ? number(1, 360) : odd(1 + random.nextInt(5));
                same(told(method, land, n), own.erase(land, n), model.erase(land, n));
            }
            case "routes" -> {
                int a = place();
                int b = place();
                same(told(method, a, b, year), own.routes(a, b, year), model.routes(a, b, year));
            }
            case "latest" -> same(told(method, land, year), own.latest(land, year), model.latest(land, year));
            case "wins" -> same(told(method, land, year), own.wins(land, year), model.wins(land, year));
            case "partner" -> same(told(method), own.partner(), model.partner());
            default -> {
                int what = what(3);
                same(told(method, year, what), own.together(year, what), model.together(year, what));
            }
        }
    }

    private void callLives(String method) {
        int land = land();
        int other = land();
        int year = year();
        int what = what(2);
        switch (method) {
            case "claims" -> same(told(method, year), own.claims(year), model.claims(year));
            case "holds" -> same(told(method, land, year), own.holds(land, year), model.holds(land, year));
            case "answers" -> same(told(method, land, other, year), own.answers(land, other, year),
                model.answers(land, other, year));
            case "by" -> same(told(method, land, other, year), own.by(land, other, year),
                model.by(land, other, year));
            case "lives" -> same(told(method, year), own.lives(year), model.lives(year));
            case "pairs" -> same(told(method, year, what), own.pairs(year, what), model.pairs(year, what));
            case "split" -> same(told(method, land, year, what), own.split(land, year, what),
                model.split(land, year, what));
            default -> same(told(method, year), own.owed(year), model.owed(year));
        }
    }

    private void callWouldBe(String method) {
        int land = land();
        int place = place();
        int year = year();
        int from = day();
        int to = dayFrom(from);
        int n = number(1, 360);
        int what = what(1);
        switch (method) {
            case "free" -> same(told(method, land, from, n), own.free(land, from, n), model.free(land, from, n));
            case "mustLeave" -> same(told(method, land, from), own.mustLeave(land, from),
                model.mustLeave(land, from));
            case "mayCome" -> same(told(method, land, from, n), own.mayCome(land, from, n),
                model.mayCome(land, from, n));
            case "claimBy" -> same(told(method, land, from), own.claimBy(land, from), model.claimBy(land, from));
            case "freest" -> same(told(method, from, n, what), own.freest(from, n, what),
                model.freest(from, n, what));
            case "need" -> same(told(method, land, year), own.need(land, year), model.need(land, year));
            case "moved" -> same(told(method, from, place), own.moved(from, place), model.moved(from, place));
            case "loose" -> same(told(method, year, what), own.loose(year, what), model.loose(year, what));
            case "nearest" -> same(told(method, year, what), own.nearest(year, what), model.nearest(year, what));
            case "instead" -> {
                int outcome = what(4);
                same(told(method, land, place, from, to, outcome), own.instead(land, place, from, to, outcome),
                    model.instead(land, place, from, to, outcome));
            }
            default -> same(told(method, from, to, what), own.cheapest(from, to, what),
                model.cheapest(from, to, what));
        }
    }

    private void callAll(String method) {
        switch (method) {
            case "count" -> {
                int what = what(5);
                same(told(method, what), own.count(what), model.count(what));
            }
            case "keep" -> same(told(method), own.keep(), model.keep());
            default -> same(told(method), own.undo(), model.undo());
        }
    }
}

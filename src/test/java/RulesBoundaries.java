import static java.lang.Integer.MAX_VALUE;
import static java.lang.Integer.MIN_VALUE;

/** The boundary cases of promises 11 to 19: what lands tell. */
final class RulesBoundaries {
    private RulesBoundaries() {
    }

    static void run(Boundaries b) {
        window(b);
        rule(b);
        order(b);
        entries(b);
        entered(b);
        treaty(b);
        without(b);
        tax(b);
        told(b);
    }

    private static void window(Boundaries b) {
        b.sentence(11, "WINDOW of a LAND (w 0: none, m 0 then)");
        LivingDays x = new LivingDays();
        x.stay(5, 0, 1079);
        x.window(5, 1, 0);
        b.due("w 1, m 0", x.told(5, 0) * 1000 + x.told(5, 1), 1000);
        b.due("all overstay", x.count(2), 1080);
        x.window(5, 360, 360);
        b.due("w 360, m 360", x.told(5, 0) * 1000 + x.told(5, 1), 360360);
        x.window(5, 0, 0);
        b.due("w 0, m 0", x.told(5, 0) * 1000 + x.told(5, 1), 0);
        b.due("none overstays", x.count(2), 0);
        b.due("w 0, m 1", x.window(5, 0, 1), -1);
        b.due("another land has none", x.told(4, 0), 0);
        b.sentence(11, "w as it was");
        b.due("0", x.window(5, 7, 3), 0);
        b.due("7", x.window(5, 360, 360), 7);
        b.due("360", x.window(5, 360, 0), 360);
        b.due("360 again", x.window(5, 0, 0), 360);
        b.due("none", x.window(5, 0, 0), 0);
        b.sentence(11, "NONE: no such ones");
        b.bounds("window", -1, (y, n) -> y.window(n[0], n[1], n[2]), Boundaries.n(3, 10, 0), Boundaries.n(0, 0, 5),
            Boundaries.n(1, 0, 360), Boundaries.n(2, 0, 10));
        b.bounds("window at its widest", -1, (y, n) -> y.window(n[0], n[1], n[2]), Boundaries.n(0, 360, 5),
            Boundaries.n(1, 5, 360), Boundaries.n(2, 0, 360));
        b.leaves("w 0, m 1", -1, y -> y.window(0, 0, 1));
        b.leaves("w 0, m -1", -1, y -> y.window(0, 0, -1));
        b.leaves("w -1, m -1", -1, y -> y.window(0, -1, -1));
    }

    private static void rule(Boundaries b) {
        b.sentence(12, "A RULE of a LAND, sort 0 BY DAYS, 1 BY THE MEAN, 2 BY HOME (n 0: none)");
        for (int sort = 0; sort < 3; sort++) {
            LivingDays x = new LivingDays();
            x.stay(5, 0, 359);
            x.home(5, 0, 359, true);
            x.rule(5, sort, 1);
            b.due("n 1, sort " + sort, x.holds(5, 0), 1 << sort);
            x.rule(5, sort, 360);
            b.due("n 360, sort " + sort, x.holds(5, 0), 1 << sort);
            x.rule(5, sort, 0);
            b.due("n 0, sort " + sort, x.holds(5, 0), 0);
            b.due("no other land", x.holds(4, 0), 0);
        }
        b.sentence(12, "what n was");
        LivingDays x = new LivingDays();
        for (int sort = 0; sort < 3; sort++) {
            b.due("none was", x.rule(0, sort, 360), 0);
            b.due("360 was", x.rule(0, sort, 1 + sort), 360);
        }
        for (int sort = 0; sort < 3; sort++) {
            b.due("of each sort its own", x.rule(0, sort, 0), 1 + sort);
            b.due("none was again", x.rule(0, sort, 0), 0);
        }
        b.sentence(12, "NONE: no such ones (0 to 360)");
        b.bounds("rule", -1, (y, n) -> y.rule(n[0], n[1], n[2]), Boundaries.n(3, 1, 9), Boundaries.n(0, 0, 5),
            Boundaries.n(1, 0, 2), Boundaries.n(2, 0, 360));
    }

    private static String orderOf(LivingDays x, int land) {
        StringBuilder row = new StringBuilder();
        for (int k = 0; k < x.told(land, 7); k++) {
            row.append("hcdn".charAt(x.told(land, 8 + k)));
        }
        return row.toString();
    }

    private static void dueOrder(Boundaries b, LivingDays x, int land, String want) {
        String got = orderOf(x, land);
        b.due("the order is <" + got + ">, due is <" + want + ">", got.equals(want), true);
    }

    private static void order(Boundaries b) {
        b.sentence(13, "ORDER of a LAND by the tape's first n bytes (0 to 4; empty then): its letters alone: true");
        LivingDays x = new LivingDays();
        b.due("none of an empty tape", x.order(0, 0), true);
        dueOrder(b, x, 0, "");
        for (String row : new String[] {"h", "c", "d", "n", "nd", "cdh", "ndch", "hcdn"}) {
            b.due("the order " + row, Texts.setOrder(x, 5, row), true);
            dueOrder(b, x, 5, row);
            b.due("empty then", x.count(4), 0);
        }
        Texts.feed(x, "hcdnhcdn" + " ".repeat(300));
        b.due("four of 320", x.order(1, 4), true);
        dueOrder(b, x, 1, "hcdn");
        b.due("empty then", x.count(4), 0);
        Texts.feed(x, "cx");
        b.due("one, whatever is behind it", x.order(1, 1), true);
        dueOrder(b, x, 1, "c");
        Texts.feed(x, "xx");
        b.due("none, whatever is there", x.order(1, 0), true);
        dueOrder(b, x, 1, "");
        b.due("empty then", x.count(4), 0);
        dueOrder(b, x, 2, "hcdn");
        b.sentence(13, "false: others, twice one (ORDER stays)");
        String[] bad = {"x", "hx", "hcx", "hcdx", " ", "h ", "H", "hcdN", "hh", "hch", "hcdh", "nn", "ncdd"};
        for (String row : bad) {
            x = new LivingDays();
            Texts.setOrder(x, 3, "nd");
            b.due("the order <" + row + ">", Texts.setOrder(x, 3, row), false);
            dueOrder(b, x, 3, "nd");
            b.due("empty then", x.count(4), 0);
        }
        b.leavesAllButTheTape("the tape's e", 0, y -> Boundaries.bit(y.order(1, 1)));
        b.sentence(13, "no such ones, it has not so many (the tape stays then)");
        for (int odd : new int[] {-1, 5, 20, MIN_VALUE, MAX_VALUE}) {
            b.leaves("n " + odd, 0, y -> Boundaries.bit(y.order(1, odd)));
        }
        for (int odd : new int[] {-1, 6, MIN_VALUE, MAX_VALUE}) {
            b.leaves("land " + odd, 0, y -> Boundaries.bit(y.order(odd, 0)));
            b.leaves("land " + odd + " with other letters", 0, y -> Boundaries.bit(y.order(odd, 1)));
        }
        x = new LivingDays();
        b.due("one of an empty tape", x.order(0, 1), false);
        dueOrder(b, x, 0, "hcdn");
        Texts.feed(x, "nhcd");
        b.due("five good bytes are too many", x.order(0, 5), false);
        b.due("the tape stays", x.count(4), 20);
        b.due("land 5", x.order(5, 4), true);
        Texts.feed(x, "nhcd");
        b.due("land 0", x.order(0, 4), true);
    }

    private static void entries(Boundaries b) {
        b.sentence(14, "ENTRIES that a LAND lets one have in a YEAR (0: any number, at first; to 100)");
        LivingDays x = new LivingDays();
        for (int k = 0; k < 101; k++) {
            x.stay(5, 2 * k, 2 * k);
        }
        b.due("any number at first", x.entered(5, 0, 1), 0);
        x.entries(5, 1);
        b.due("1", x.entered(5, 0, 1), 100);
        x.entries(5, 100);
        b.due("100", x.entered(5, 0, 1), 1);
        x.entries(5, 0);
        b.due("0: any number", x.entered(5, 0, 1), 0);
        b.sentence(14, "what it was");
        for (int land = 0; land < 6; land += 5) {
            b.due("at first", x.entries(land, 100), 0);
            b.due("100", x.entries(land, 1), 100);
            b.due("1", x.entries(land, 0), 1);
            b.due("0", x.entries(land, 0), 0);
        }
        b.sentence(14, "NONE: no such ones");
        b.bounds("entries", -1, (y, n) -> y.entries(n[0], n[1]), Boundaries.n(2, 5), Boundaries.n(0, 0, 5),
            Boundaries.n(1, 0, 100));
    }

    private static void entered(Boundaries b) {
        b.sentence(15, "ENTRIES in a LAND in a YEAR (DAYS of it on which one is there, and was not on the DAY "
            + "ahead, or it is DAY 0), what 0 how many");
        LivingDays x = new LivingDays();
        b.due("none", x.entered(0, 0, 0), 0);
        x.stay(0, 0, 0);
        b.due("on day 0", x.entered(0, 0, 0), 1);
        x.stay(0, 0, 359);
        b.due("it goes on", x.entered(0, 0, 0), 1);
        x.stay(0, 0, 360);
        b.due("over the turn of the year", x.entered(0, 1, 0), 0);
        x.stay(1, 359, 359);
        b.due("from another land", x.entered(0, 1, 0), 1);
        b.due("on the last day of the year", x.entered(1, 0, 0), 1);
        x.stay(0, 1079, 1079);
        b.due("on the last day of all", x.entered(0, 2, 0), 1);
        x.stay(-1, 5, 5);
        b.due("from nowhere", x.entered(0, 0, 0), 2);
        for (int day = 0; day < 360; day += 2) {
            x.stay(2, day, day);
        }
        b.due("each second day", x.entered(2, 0, 0), 180);
        b.sentence(15, "1 how many beyond what it lets (0: none)");
        x = new LivingDays();
        Texts.lay(x, "a10,a12,a14,a359,a400");
        b.due("any number", x.entered(0, 0, 1), 0);
        int[] beyond = {3, 2, 1, 0, 0};
        int[] days = {12, 14, 359, -2, -2};
        for (int n = 1; n <= 5; n++) {
            x.entries(0, n);
            b.due("four of " + n, x.entered(0, 0, 1), beyond[n - 1]);
        }
        b.sentence(15, "2 the DAY of the first one beyond (-2: none)");
        for (int n = 1; n <= 5; n++) {
            x.entries(0, n);
            b.due("four of " + n, x.entered(0, 0, 2), days[n - 1]);
        }
        x.entries(0, 1);
        b.due("one of one in the year behind", x.entered(0, 1, 2), -2);
        x.entries(0, 0);
        b.due("any number", x.entered(0, 0, 2), -2);
        b.sentence(15, "NONE: no such ones");
        b.bounds("entered", -1, (y, n) -> y.entered(n[0], n[1], n[2]), Boundaries.n(3, 1, 1), Boundaries.n(0, 0, 5),
            Boundaries.n(1, 0, 2), Boundaries.n(2, 0, 2));
    }

    private static void treaty(Boundaries b) {
        b.sentence(16, "A TREATY of LANDS a and b by the tape's first n bytes (0 to 4; empty then), as of order()");
        LivingDays x = new LivingDays();
        x.home(0, 0, 0, true);
        x.centre(5, 0, 0);
        b.due("none of an empty tape", x.treaty(0, 5, 0), true);
        b.due("nobody", x.answers(5, 0, 0), -2);
        b.due("four letters", Texts.setTreaty(x, 5, 0, "ndch"), true);
        b.due("empty then", x.count(4), 0);
        b.due("by the third", x.by(0, 5, 0), 2);
        b.due("one letter", Texts.setTreaty(x, 0, 5, "h"), true);
        b.due("in place of the former", x.answers(5, 0, 0), 0);
        for (String row : new String[] {"x", "hx", "hcdx", "cc", "cdnc"}) {
            b.due("<" + row + ">", Texts.setTreaty(x, 0, 5, row), false);
            b.due("it stays", x.answers(5, 0, 0), 0);
            b.due("empty then", x.count(4), 0);
        }
        Texts.feed(x, "xx");
        b.due("none, whatever is there", x.treaty(0, 5, 0), true);
        b.due("empty then", x.count(4), 0);
        b.due("nobody", x.answers(5, 0, 0), -2);
        b.due("one of an empty tape", x.treaty(0, 5, 1), false);
        b.leavesAllButTheTape("the tape's e", 0, y -> Boundaries.bit(y.treaty(0, 2, 1)));
        b.leavesAllButTheTape("where there was none", 0, y -> Boundaries.bit(y.treaty(1, 3, 1)));
        for (int odd : new int[] {-1, 5, 20, MIN_VALUE, MAX_VALUE}) {
            b.leaves("n " + odd, 0, y -> Boundaries.bit(y.treaty(0, 1, odd)));
        }
        for (int odd : new int[] {-1, 6, 0, MIN_VALUE, MAX_VALUE}) {
            b.leaves("b " + odd, 0, y -> Boundaries.bit(y.treaty(0, odd, 0)));
            b.leaves("a " + odd, 0, y -> Boundaries.bit(y.treaty(odd, 0, 0)));
            b.leaves("a " + odd + " with other letters", 0, y -> Boundaries.bit(y.treaty(odd, 0, 1)));
        }
        b.leaves("a and b 5", 0, y -> Boundaries.bit(y.treaty(5, 5, 0)));
    }

    private static void without(Boundaries b) {
        b.sentence(17, "The TREATY of LANDS a and b is gone: true");
        LivingDays x = new LivingDays();
        x.home(0, 0, 0, true);
        Texts.setTreaty(x, 0, 5, "");
        Texts.setTreaty(x, 0, 4, "");
        b.due("of b and a", x.without(5, 0), true);
        b.due("by orders again", x.answers(0, 5, 0), 0);
        b.due("another stays", x.answers(0, 4, 0), -2);
        Texts.setTreaty(x, 0, 5, "n");
        b.due("of a and b", x.without(0, 5), true);
        b.due("by orders again", x.answers(5, 0, 0), 0);
        b.sentence(17, "false: there is none, no such ones");
        b.due("gone already", x.without(0, 5), false);
        b.due("gone already", x.without(5, 0), false);
        b.leaves("there is none", 0, y -> Boundaries.bit(y.without(0, 1)));
        b.leaves("one each, none of both", 0, y -> Boundaries.bit(y.without(2, 4)));
        for (int odd : new int[] {-1, 6, 2, MIN_VALUE, MAX_VALUE}) {
            b.leaves("a " + odd, 0, y -> Boundaries.bit(y.without(odd, 2)));
            b.leaves("b " + odd, 0, y -> Boundaries.bit(y.without(2, odd)));
        }
    }

    private static void tax(Boundaries b) {
        b.sentence(18, "TAX of a LAND: what it was");
        LivingDays x = new LivingDays();
        for (int land = 0; land < 6; land += 5) {
            b.due("at first", x.tax(land, 60), 0);
            b.due("60", x.tax(land, 1), 60);
            b.due("1", x.tax(land, 0), 1);
            b.due("0", x.tax(land, 0), 0);
        }
        b.sentence(18, "NONE: no such ones");
        b.bounds("tax", -1, (y, n) -> y.tax(n[0], n[1]), Boundaries.n(2, 5), Boundaries.n(0, 0, 5),
            Boundaries.n(1, 0, 60));
    }

    private static void told(Boundaries b) {
        b.sentence(19, "Of a LAND, what 0, 1 w, m (0, 0 without)");
        LivingDays x = new LivingDays();
        b.due("w without", x.told(5, 0), 0);
        b.due("m without", x.told(5, 1), 0);
        x.window(5, 360, 359);
        b.due("w", x.told(5, 0), 360);
        b.due("m", x.told(5, 1), 359);
        x.window(5, 0, 0);
        b.due("w without again", x.told(5, 0), 0);
        b.due("m without again", x.told(5, 1), 0);
        b.sentence(19, "2 to 4 RULES by sorts (0 without)");
        for (int sort = 0; sort < 3; sort++) {
            b.due("without", x.told(0, 2 + sort), 0);
            x.rule(0, sort, 358 + sort);
            b.due("with", x.told(0, 2 + sort), 358 + sort);
        }
        x.rule(0, 1, 0);
        b.due("without again", x.told(0, 3), 0);
        b.sentence(19, "5 TAX");
        b.due("at first", x.told(0, 5), 0);
        x.tax(0, 60);
        b.due("60", x.told(0, 5), 60);
        b.sentence(19, "6 whether in NATION (1, 0)");
        b.due("not", x.told(0, 6), 0);
        x.nation(0, true);
        x.nation(5, true);
        b.due("in it", x.told(0, 6), 1);
        b.due("5 in it", x.told(5, 6), 1);
        b.due("4 not", x.told(4, 6), 0);
        b.sentence(19, "7 how many letters ORDER has");
        b.due("at first", x.told(0, 7), 4);
        Texts.setOrder(x, 0, "dn");
        b.due("two", x.told(0, 7), 2);
        Texts.setOrder(x, 5, "");
        b.due("none", x.told(5, 7), 0);
        b.sentence(19, "8 + k its letter k (0 h, 1 c, 2 d, 3 n; -2: it has not so many)");
        int[] two = {2, 3, -2, -2};
        for (int k = 0; k < 4; k++) {
            b.due("of four letter " + k, x.told(1, 8 + k), k);
            b.due("of two letter " + k, x.told(0, 8 + k), two[k]);
            b.due("of none letter " + k, x.told(5, 8 + k), -2);
        }
        b.sentence(19, "NONE: no such ones (k 0 to 3)");
        b.bounds("told", -1, (y, n) -> y.told(n[0], n[1]), Boundaries.n(2, 5), Boundaries.n(0, 0, 5),
            Boundaries.n(1, 0, 11));
    }
}

import static java.lang.Integer.MAX_VALUE;
import static java.lang.Integer.MIN_VALUE;

/** The boundary cases of promises 20 to 29: what is counted. */
final class CountedBoundaries {
    private CountedBoundaries() {
    }

    static void run(Boundaries b) {
        days(b);
        month(b);
        within(b);
        overstays(b);
        nth(b);
        away(b);
        travels(b);
        most(b);
        tight(b);
        rank(b);
    }

    private static void days(Boundaries b) {
        b.sentence(20, "DAYS in a LAND in a YEAR, what 0 of these");
        LivingDays x = new LivingDays();
        b.due("none", x.days(0, 0, 0), 0);
        x.stay(0, 359, 720);
        b.due("the last day of the year", x.days(0, 0, 0), 1);
        b.due("all", x.days(0, 1, 0), 360);
        b.due("the first day of the year", x.days(0, 2, 0), 1);
        x.stay(0, 1079, 1079);
        b.due("the last day of all", x.days(0, 2, 0), 2);
        b.sentence(20, "1 those with a HOME there");
        b.due("none", x.days(5, 1, 1), 0);
        x.home(5, 359, 720, true);
        b.due("the last day of the year", x.days(5, 0, 1), 1);
        b.due("all", x.days(5, 1, 1), 360);
        b.due("the first day of the year", x.days(5, 2, 1), 1);
        b.due("not in another land", x.days(0, 1, 1), 0);
        b.sentence(20, "2 those with THE CENTRE there");
        b.due("none", x.days(4, 1, 2), 0);
        x.centre(4, 359, 720);
        b.due("the last day of the year", x.days(4, 0, 2), 1);
        b.due("all", x.days(4, 1, 2), 360);
        b.due("the first day of the year", x.days(4, 2, 2), 1);
        b.due("not in another land", x.days(0, 1, 2), 0);
        b.sentence(20, "3 STAYS there (rows of DAYS in the YEAR)");
        b.due("none", x.days(3, 1, 3), 0);
        for (int year = 0; year < 3; year++) {
            b.due("a row over the turn is one of each year", x.days(0, year, 3), year == 2 ? 2 : 1);
        }
        x.stay(-1, 500, 500);
        b.due("a day elsewhere makes two", x.days(0, 1, 3), 2);
        x.stay(-1, 360, 360);
        x.stay(-1, 719, 719);
        b.due("the year's ends elsewhere", x.days(0, 1, 3), 2);
        for (int day = 0; day < 360; day += 2) {
            x.stay(3, day, day);
        }
        b.due("the most", x.days(3, 0, 3), 180);
        b.sentence(20, "4 the longest of them");
        b.due("none", x.days(5, 0, 4), 0);
        b.due("one day each", x.days(3, 0, 4), 1);
        x = new LivingDays();
        x.stay(0, 0, 1079);
        b.due("no longer than the year", x.days(0, 1, 4), 360);
        x.stay(1, 719, 719);
        b.due("all but the last day", x.days(0, 1, 4), 359);
        x.stay(1, 400, 400);
        b.due("the last row is the longest", x.days(0, 1, 4), 318);
        x.stay(1, 710, 710);
        x.stay(1, 380, 380);
        b.due("one in the middle", x.days(0, 1, 4), 309);
        b.sentence(20, "NONE: no such ones");
        b.bounds("days", -1, (y, n) -> y.days(n[0], n[1], n[2]), Boundaries.n(3, 1, 1), Boundaries.n(0, 0, 5),
            Boundaries.n(1, 0, 2), Boundaries.n(2, 0, 4));
    }

    private static void month(Boundaries b) {
        b.sentence(21, "DAYS in a LAND in a MONTH");
        LivingDays x = new LivingDays();
        b.due("none", x.month(0, 0), 0);
        x.stay(0, 29, 60);
        x.stay(5, 1049, 1079);
        b.due("the last day of month 0", x.month(0, 0), 1);
        b.due("all of month 1", x.month(0, 1), 30);
        b.due("the first day of month 2", x.month(0, 2), 1);
        b.due("none of month 3", x.month(0, 3), 0);
        b.due("the last day of month 34", x.month(5, 34), 1);
        b.due("all of month 35", x.month(5, 35), 30);
        x.stay(5, 0, 0);
        b.due("the first day of all", x.month(5, 0), 1);
        b.sentence(21, "NONE: no such ones");
        b.bounds("month", -1, (y, n) -> y.month(n[0], n[1]), Boundaries.n(3, 1), Boundaries.n(0, 0, 5),
            Boundaries.n(1, 0, 35));
    }

    private static void within(Boundaries b) {
        b.sentence(22, "DAYS in a LAND of the w DAYS that end with a DAY (w 1 to 1080)");
        LivingDays x = new LivingDays();
        b.due("none", x.within(0, 1079, 1080), 0);
        x.stay(0, 0, 9);
        b.due("w 1 on a day there", x.within(0, 9, 1), 1);
        b.due("w 1 on the day behind", x.within(0, 10, 1), 0);
        b.due("w 2 on the day behind", x.within(0, 10, 2), 1);
        b.due("w 10, all", x.within(0, 9, 10), 10);
        b.due("w 9, one fewer", x.within(0, 9, 9), 9);
        b.due("day 0, w 1", x.within(0, 0, 1), 1);
        b.due("day 0, w 1080", x.within(0, 0, 1080), 1);
        b.due("day 1079, w 1080", x.within(0, 1079, 1080), 10);
        b.due("day 1079, w 1079", x.within(0, 1079, 1079), 9);
        b.due("day 1079, w 1071", x.within(0, 1079, 1071), 1);
        b.due("day 1079, w 1070", x.within(0, 1079, 1070), 0);
        x.stay(5, 0, 1079);
        b.due("all days", x.within(5, 1079, 1080), 1080);
        b.sentence(22, "NONE: no such ones");
        b.bounds("within", -1, (y, n) -> y.within(n[0], n[1], n[2]), Boundaries.n(3, 5, 7), Boundaries.n(0, 0, 5),
            Boundaries.n(1, 0, 1079), Boundaries.n(2, 1, 1080));
    }

    private static void overstays(Boundaries b) {
        b.sentence(23, "DAYS on which one OVERSTAYS in a LAND, from a DAY to a DAY, what 0 how many");
        LivingDays x = new LivingDays();
        Texts.lay(x, "a0..9,a1070..1079,f500");
        b.due("no window", x.overstays(0, 0, 1079, 0), 0);
        x.window(0, 10, 8);
        x.window(5, 1, 0);
        b.due("all", x.overstays(0, 0, 1079, 0), 4);
        b.due("from the first of them", x.overstays(0, 8, 1079, 0), 4);
        b.due("from the second", x.overstays(0, 9, 1079, 0), 3);
        b.due("to the last but one", x.overstays(0, 0, 1078, 0), 3);
        b.due("one day", x.overstays(0, 1079, 1079, 0), 1);
        b.due("day 0", x.overstays(0, 0, 0, 0), 0);
        b.due("in between", x.overstays(0, 10, 1077, 0), 0);
        b.due("land 5", x.overstays(5, 500, 500, 0), 1);
        b.sentence(23, "1 the first (-2: none)");
        b.due("of all", x.overstays(0, 0, 1079, 1), 8);
        b.due("from it", x.overstays(0, 8, 8, 1), 8);
        b.due("behind it", x.overstays(0, 9, 1079, 1), 9);
        b.due("the first of the others", x.overstays(0, 10, 1079, 1), 1078);
        b.due("none", x.overstays(0, 10, 1077, 1), -2);
        b.due("no window", x.overstays(3, 0, 1079, 1), -2);
        x.window(0, 10, 0);
        b.due("day 0", x.overstays(0, 0, 1079, 1), 0);
        x.window(0, 10, 8);
        b.sentence(23, "2 by how many it is most beyond m (0: none)");
        b.due("of all", x.overstays(0, 0, 1079, 2), 2);
        b.due("to the first", x.overstays(0, 0, 8, 2), 1);
        b.due("none", x.overstays(0, 10, 1077, 2), 0);
        b.due("no window", x.overstays(3, 0, 1079, 2), 0);
        x.stay(3, 0, 1079);
        x.window(3, 360, 0);
        b.due("the most", x.overstays(3, 0, 1079, 2), 360);
        b.due("on day 0", x.overstays(3, 0, 0, 2), 1);
        x.window(3, 360, 359);
        b.due("the least", x.overstays(3, 0, 1079, 2), 1);
        b.sentence(23, "NONE: no such ones");
        b.bounds("overstays", -1, (y, n) -> y.overstays(n[0], n[1], n[2], n[3]), Boundaries.n(3, 100, 200, 1),
            Boundaries.n(0, 0, 5), Boundaries.n(1, 0, 200), Boundaries.n(2, 100, 1079), Boundaries.n(3, 0, 2));
    }

    private static void nth(Boundaries b) {
        b.sentence(24, "STAY k (from 0, by DAYS, as long as it can be, over YEARS, too) in a LAND, what 0 its "
            + "first DAY, 1 its last, 2 how many DAYS");
        LivingDays x = new LivingDays();
        Texts.lay(x, "a1079,a300..800,a5..6,a0,b1..4");
        int[][] stays = {{0, 0, 1}, {5, 6, 2}, {300, 800, 501}, {1079, 1079, 1}};
        for (int k = 0; k < 4; k++) {
            for (int what = 0; what < 3; what++) {
                b.due("stay " + k + ", what " + what, x.nth(0, k, what), stays[k][what]);
            }
        }
        x.stay(5, 0, 1079);
        b.due("all: the first", x.nth(5, 0, 0), 0);
        b.due("all: the last", x.nth(5, 0, 1), 1079);
        b.due("all: how many", x.nth(5, 0, 2), 1080);
        x.stay(4, 719, 719);
        x.stay(4, 720, 720);
        b.due("told in two, over the turn of the year", x.nth(4, 0, 2), 2);
        b.sentence(24, "-2: not so many");
        b.due("one behind the last", x.nth(4, 1, 0), -2);
        b.due("none at all", x.nth(0, 0, 1), -2);
        b.due("two of 5", x.nth(5, 1, 2), 359);
        b.due("no third", x.nth(5, 2, 2), -2);
        b.leaves("the greatest k", -2, y -> y.nth(0, MAX_VALUE, 0));
        LivingDays most = new LivingDays();
        Texts.alternate(most);
        b.due("the most: the last", most.nth(1, 539, 0), 1079);
        b.due("the most: none behind it", most.nth(1, 540, 0), -2);
        b.sentence(24, "NONE: no such ones (k below 0)");
        b.bounds("nth", -1, (y, n) -> y.nth(n[0], n[1], n[2]), Boundaries.n(3, 0, 1), Boundaries.n(0, 0, 5),
            Boundaries.n(2, 0, 2));
        b.leaves("k -1", -1, y -> y.nth(0, -1, 0));
        b.leaves("k least", -1, y -> y.nth(0, MIN_VALUE, 0));
        b.due("k 0", Rich.made(true).nth(0, 0, 1), 9);
    }

    private static void away(Boundaries b) {
        b.sentence(25, "The longest row of DAYS on which one is not in a LAND, what 0 how many (0: none)");
        LivingDays x = new LivingDays();
        b.due("all", x.away(5, 0), 1080);
        x.stay(5, 0, 1079);
        b.due("none", x.away(5, 0), 0);
        x.stay(-1, 1079, 1079);
        b.due("the last day", x.away(5, 0), 1);
        x.stay(0, 500, 509);
        x.stay(1, 510, 514);
        x.stay(-1, 515, 519);
        b.due("in other lands and nowhere", x.away(5, 0), 20);
        b.due("of another land: to the end", x.away(0, 0), 570);
        b.sentence(25, "1 the first of them (the first such row; -2: none)");
        b.due("in the middle", x.away(5, 1), 500);
        b.due("of another land", x.away(0, 1), 510);
        x.stay(-1, 0, 19);
        b.due("two of like length", x.away(5, 1), 0);
        x.stay(5, 0, 0);
        b.due("one is shorter", x.away(5, 1), 500);
        x.stay(5, 0, 1079);
        b.due("none", x.away(5, 1), -2);
        x.stay(-1, 1079, 1079);
        b.due("the last day", x.away(5, 1), 1079);
        x.stay(-1, 0, 0);
        b.due("the first day and the last", x.away(5, 1), 0);
        b.sentence(25, "NONE: no such ones");
        b.bounds("away", -1, (y, n) -> y.away(n[0], n[1]), Boundaries.n(3, 0), Boundaries.n(0, 0, 5),
            Boundaries.n(1, 0, 1));
    }

    private static void travels(Boundaries b) {
        b.sentence(26, "DAYS of a YEAR on which one is in a LAND, and was not on the DAY ahead, or is not on the "
            + "DAY behind");
        LivingDays x = new LivingDays();
        b.due("none", x.travels(0, 0), 0);
        x.stay(0, 100, 100);
        b.due("a lone day is one", x.travels(0, 0), 1);
        x.stay(0, 100, 101);
        b.due("two days are two", x.travels(0, 0), 2);
        x.stay(0, 100, 102);
        b.due("three days are two", x.travels(0, 0), 2);
        x.stay(1, 103, 103);
        b.due("to another land", x.travels(0, 0) * 10 + x.travels(1, 0), 21);
        x.stay(0, 359, 360);
        b.due("the last day of the year", x.travels(0, 0), 3);
        b.due("the first day of the year", x.travels(0, 1), 1);
        x.stay(0, 358, 361);
        b.due("over the turn of the year", x.travels(0, 1), 1);
        x = new LivingDays();
        x.stay(0, 1, 3);
        x.stay(0, 1076, 1078);
        b.due("from day 1 on", x.travels(0, 0), 2);
        b.due("to day 1078", x.travels(0, 2), 2);
        b.sentence(26, "(but for what is ahead of DAY 0, behind DAY 1079)");
        x = new LivingDays();
        x.stay(5, 0, 1079);
        b.due("always there", x.travels(5, 0) + x.travels(5, 1) + x.travels(5, 2), 0);
        x.stay(-1, 2, 1077);
        b.due("from day 0 to 1", x.travels(5, 0), 1);
        b.due("from day 1078 to 1079", x.travels(5, 2), 1);
        x.stay(-1, 1, 1078);
        b.due("day 0 alone", x.travels(5, 0), 1);
        b.due("day 1079 alone", x.travels(5, 2), 1);
        b.sentence(26, "NONE: no such ones");
        b.bounds("travels", -1, (y, n) -> y.travels(n[0], n[1]), Boundaries.n(3, 0), Boundaries.n(0, 0, 5),
            Boundaries.n(1, 0, 2));
    }

    /** The answer is the greatest n with which the rule, told, does hold. */
    private static void dueMost(Boundaries b, LivingDays x, int sort, int year, int want) {
        b.due("sort " + sort + " in year " + year, x.most(0, sort, year), want);
        int was = x.rule(0, sort, want);
        b.due("it holds by " + want, (x.holds(0, year) >> sort) & 1, want > 0 ? 1 : 0);
        if (want < 360) {
            x.rule(0, sort, want + 1);
            b.due("it does not hold by " + (want + 1), (x.holds(0, year) >> sort) & 1, 0);
        }
        x.rule(0, sort, was);
    }

    private static void most(Boundaries b) {
        b.sentence(27, "The greatest n by which a RULE of that sort, told of a LAND, would hold in a YEAR (360 at "
            + "most; 0: by none)");
        LivingDays x = new LivingDays();
        for (int sort = 0; sort < 3; sort++) {
            dueMost(b, x, sort, 0, 0);
            dueMost(b, x, sort, 2, 0);
        }
        x.stay(0, 359, 359);
        dueMost(b, x, 0, 0, 1);
        dueMost(b, x, 1, 0, 0);
        dueMost(b, x, 2, 0, 0);
        x.stay(0, 330, 359);
        dueMost(b, x, 1, 0, 0);
        x.stay(0, 329, 359);
        dueMost(b, x, 1, 0, 31);
        x.stay(0, 720, 750);
        dueMost(b, x, 1, 2, 36);
        x.stay(0, 360, 361);
        dueMost(b, x, 1, 2, 36);
        x.stay(0, 360, 362);
        dueMost(b, x, 1, 2, 37);
        x.home(0, 359, 720, true);
        dueMost(b, x, 2, 0, 1);
        dueMost(b, x, 2, 1, 360);
        dueMost(b, x, 2, 2, 1);
        x.stay(-1, 360, 719);
        dueMost(b, x, 2, 1, 0);
        Texts.lay(x, "-0..1079,a357..719");
        dueMost(b, x, 1, 1, 360);
        x.stay(-1, 719, 719);
        dueMost(b, x, 1, 1, 360);
        x.stay(-1, 357, 357);
        dueMost(b, x, 1, 1, 359);
        x.stay(0, 0, 1079);
        for (int year = 0; year < 3; year++) {
            dueMost(b, x, 0, year, 360);
            dueMost(b, x, 1, year, 360);
        }
        b.sentence(27, "NONE: no such ones");
        b.bounds("most", -1, (y, n) -> y.most(n[0], n[1], n[2]), Boundaries.n(3, 1, 1), Boundaries.n(0, 0, 5),
            Boundaries.n(1, 0, 2), Boundaries.n(2, 0, 2));
    }

    private static void tight(Boundaries b) {
        b.sentence(28, "The most DAYS in a LAND of any w DAYS one behind the other (1 to 1080; fewer at the "
            + "beginning), what 0 how many");
        LivingDays x = new LivingDays();
        b.due("none is there", x.tight(0, 1080, 0), 0);
        Texts.lay(x, "a0..4,a9..14,a1079");
        b.due("w 1", x.tight(0, 1, 0), 1);
        b.due("w 5", x.tight(0, 5, 0), 5);
        b.due("w 6", x.tight(0, 6, 0), 6);
        b.due("w 10", x.tight(0, 10, 0), 6);
        b.due("w 11", x.tight(0, 11, 0), 7);
        b.due("w 1079", x.tight(0, 1079, 0), 11);
        b.due("w 1080", x.tight(0, 1080, 0), 12);
        b.sentence(28, "1 the DAY with which the first such w end (-2: none is there)");
        b.due("w 1: day 0", x.tight(0, 1, 1), 0);
        b.due("w 5: fewer at the beginning", x.tight(0, 5, 1), 4);
        b.due("w 6", x.tight(0, 6, 1), 14);
        b.due("w 1079: the first such", x.tight(0, 1079, 1), 14);
        b.due("w 1080", x.tight(0, 1080, 1), 1079);
        b.due("none is there", x.tight(5, 1, 1), -2);
        b.due("none is there", x.tight(5, 1080, 1), -2);
        x.stay(5, 1079, 1079);
        b.due("the last day", x.tight(5, 1, 1), 1079);
        x.stay(5, 0, 1079);
        b.due("all", x.tight(5, 1080, 0) * 10000 + x.tight(5, 1080, 1), 10801079);
        b.sentence(28, "NONE: no such ones");
        b.bounds("tight", -1, (y, n) -> y.tight(n[0], n[1], n[2]), Boundaries.n(3, 10, 1), Boundaries.n(0, 0, 5),
            Boundaries.n(1, 1, 1080), Boundaries.n(2, 0, 1));
    }

    private static void rank(Boundaries b) {
        b.sentence(29, "LANDS by DAYS there in a YEAR, the most first (of like ones by numbers): the k-th (0 to 5)");
        LivingDays x = new LivingDays();
        for (int k = 0; k < 6; k++) {
            b.due("all alike: " + k, x.rank(2, k), k);
        }
        Texts.lay(x, "f710..729,e730..739,a740..741,c742..743");
        int[] due = {4, 5, 0, 2, 1, 3};
        for (int k = 0; k < 6; k++) {
            b.due("by the year's days: " + k, x.rank(2, k), due[k]);
        }
        b.due("in the year ahead", x.rank(1, 0), 5);
        x.stay(5, 744, 744);
        b.due("one more is ahead", x.rank(2, 0), 5);
        x.stay(0, 742, 742);
        b.due("the last of all", x.rank(2, 5), 3);
        b.sentence(29, "NONE: no such ones");
        b.bounds("rank", -1, (y, n) -> y.rank(n[0], n[1]), Boundaries.n(1, 1), Boundaries.n(0, 0, 2),
            Boundaries.n(1, 0, 5));
    }
}

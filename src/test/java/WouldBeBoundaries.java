/** The boundary cases of promises 46 to 57: what would be. */
final class WouldBeBoundaries {
    private WouldBeBoundaries() {
    }

    static void run(Boundaries b) {
        free(b);
        mustLeave(b);
        mayCome(b);
        claimBy(b);
        freest(b);
        need(b);
        moved(b);
        loose(b);
        nearest(b);
        instead(b);
        trip(b);
        cheapest(b);
    }

    private static void free(Boundaries b) {
        b.sentence(46, "FREE in n DAYS (1 to 360) from DAY d on");
        LivingDays x = new LivingDays();
        b.due("n 1, no window", x.free(5, 0, 1), 1);
        b.due("n 360, no window", x.free(5, 0, 360), 360);
        x.window(5, 360, 360);
        b.due("w 360, m 360", x.free(5, 0, 360), 360);
        x.window(5, 360, 359);
        b.due("w 360, m 359", x.free(5, 0, 360), 359);
        x.window(5, 360, 1);
        b.due("w 360, m 1", x.free(5, 720, 360), 1);
        x.window(5, 1, 0);
        b.due("w 1, m 0", x.free(5, 720, 360), 0);
        x.window(5, 2, 1);
        b.due("w 2, m 1: each second day", x.free(5, 720, 360), 180);
        b.due("at the end", x.free(5, 1077, 360), 2);
        b.due("on the last day", x.free(5, 1079, 360), 1);
        x.stay(5, 1079, 1079);
        b.due("the day ahead of one there", x.free(5, 1078, 1), 0);
        b.due("the last day is there", x.free(5, 1079, 1), 1);
        x.stay(5, 0, 0);
        b.due("the day behind one there", x.free(5, 1, 1), 0);
        b.due("two behind it", x.free(5, 2, 1), 1);
        b.leaves("a question", 30, y -> y.free(0, 200, 60));
        b.sentence(46, "NONE: no such ones");
        b.bounds("free", -1, (y, n) -> y.free(n[0], n[1], n[2]), Boundaries.n(0, 5, 7), Boundaries.n(0, 0, 5),
            Boundaries.n(1, 0, 1079), Boundaries.n(2, 1, 360));
    }

    private static void mustLeave(Boundaries b) {
        b.sentence(47, "MUST LEAVE");
        LivingDays x = new LivingDays();
        x.window(5, 1, 0);
        b.due("at once, on day 0", x.mustLeave(5, 0), 0);
        b.due("at once, on day 1079", x.mustLeave(5, 1079), 1079);
        x.window(5, 360, 359);
        b.due("after 359 days", x.mustLeave(5, 0), 359);
        b.due("on the last day", x.mustLeave(5, 720), 1079);
        x.stay(5, 719, 719);
        b.due("a day ahead counts", x.mustLeave(5, 720), 1078);
        b.sentence(47, "-2: on none");
        b.due("one day too late", x.mustLeave(5, 722), -2);
        x.window(5, 360, 360);
        b.due("m is w", x.mustLeave(5, 0), -2);
        b.leaves("no window", -2, y -> y.mustLeave(2, 0));
        b.sentence(47, "NONE: no such ones");
        b.bounds("mustLeave", -1, (y, n) -> y.mustLeave(n[0], n[1]), Boundaries.n(0, 5), Boundaries.n(0, 0, 5),
            Boundaries.n(1, 0, 1079));
    }

    private static void mayCome(Boundaries b) {
        b.sentence(48, "MAY COME for n DAYS (1 to 360)");
        LivingDays x = new LivingDays();
        b.due("no window, n 360, day 0", x.mayCome(5, 0, 360), 0);
        b.due("no window, n 360, day 1079", x.mayCome(5, 1079, 360), 1079);
        x.window(5, 360, 359);
        b.due("n 359", x.mayCome(5, 0, 359), 0);
        b.due("n 360: when only 359 are left", x.mayCome(5, 0, 360), 721);
        x.stay(5, 0, 358);
        b.due("n 1: when the first is out of the window", x.mayCome(5, 359, 1), 360);
        b.due("on days there", x.mayCome(5, 358, 1), 358);
        b.sentence(48, "-2: on none");
        x.window(5, 360, 0);
        b.due("m 0", x.mayCome(5, 0, 1), -2);
        x.window(5, 360, 1);
        x.stay(-1, 0, 1079);
        x.stay(5, 720, 720);
        b.due("a day of the window is there till the end", x.mayCome(5, 721, 1), -2);
        b.due("on that day itself", x.mayCome(5, 720, 1), 720);
        x.stay(-1, 720, 720);
        x.stay(5, 719, 719);
        b.due("it is out of the window on the last day", x.mayCome(5, 720, 1), 1079);
        b.leaves("m 0", -2, y -> y.mayCome(5, 0, 1));
        b.sentence(48, "NONE: no such ones");
        b.bounds("mayCome", -1, (y, n) -> y.mayCome(n[0], n[1], n[2]), Boundaries.n(0, 5, 7), Boundaries.n(0, 0, 5),
            Boundaries.n(1, 0, 1079), Boundaries.n(2, 1, 360));
    }

    private static void claimBy(Boundaries b) {
        b.sentence(49, "Were one in a LAND from DAY d on, DAY by DAY: the first DAY by which, all behind it as "
            + "they are, it CLAIMS one in the YEAR of that DAY");
        LivingDays x = new LivingDays();
        x.rule(5, 0, 1);
        b.due("by d itself, day 0", x.claimBy(5, 0), 0);
        b.due("by d itself, day 1079", x.claimBy(5, 1079), 1079);
        x.rule(5, 0, 360);
        b.due("a whole year", x.claimBy(5, 0), 359);
        b.due("the year behind, whole", x.claimBy(5, 1), 719);
        b.due("the last year, whole", x.claimBy(5, 361), 1079);
        x.rule(5, 0, 10);
        x.stay(5, 355, 359);
        b.due("days behind as they are", x.claimBy(5, 0), 4);
        b.due("some of them come on the way", x.claimBy(5, 352), 369);
        x.stay(5, 0, 9);
        b.due("it claims as it is", x.claimBy(5, 100), 100);
        x = new LivingDays();
        x.rule(5, 1, 40);
        b.due("by the mean with the year ahead: 30 and 31", x.claimBy(5, 330), 390);
        b.due("by the mean in the first year", x.claimBy(5, 0), 39);
        x = new LivingDays();
        x.rule(0, 2, 1);
        x.home(0, 720, 720, true);
        b.due("by home, in the year of the home", x.claimBy(0, 0), 720);
        b.due("by home, from the last day on", x.claimBy(0, 1079), 1079);
        b.sentence(49, "-2: there is none");
        x.rule(5, 0, 360);
        b.due("too late for a whole year", x.claimBy(5, 721), -2);
        b.due("just not too late", x.claimBy(5, 720), 1079);
        b.leaves("no rule", -2, y -> y.claimBy(3, 0));
        b.sentence(49, "NONE: no such ones");
        b.bounds("claimBy", -1, (y, n) -> y.claimBy(n[0], n[1]), Boundaries.n(0, 5), Boundaries.n(0, 0, 5),
            Boundaries.n(1, 0, 1079));
    }

    private static void freest(Boundaries b) {
        b.sentence(50, "The LAND with the most FREE in n DAYS (1 to 360) from DAY d on, what 0 the LAND, of like "
            + "ones the lowest");
        LivingDays x = new LivingDays();
        b.due("all alike", x.freest(0, 360, 0), 0);
        x.window(0, 360, 359);
        b.due("one less in 0", x.freest(0, 360, 0), 1);
        b.due("not so in 359 days", x.freest(0, 359, 0), 0);
        for (int land = 0; land < 6; land++) {
            x.window(land, 10, land == 5 ? 1 : 0);
        }
        b.due("the last", x.freest(0, 1, 0), 5);
        x.window(4, 10, 1);
        b.due("of two the lowest", x.freest(1079, 1, 0), 4);
        x.stay(3, 1079, 1079);
        b.due("a day there is one", x.freest(1079, 1, 0), 3);
        for (int land = 0; land < 6; land++) {
            x.window(land, 10, 0);
        }
        b.due("none has any", x.freest(100, 360, 0), 0);
        b.sentence(50, "1 that");
        b.due("none", x.freest(100, 360, 1), 0);
        b.due("one", x.freest(1079, 360, 1), 1);
        x.window(5, 0, 0);
        b.due("all", x.freest(0, 360, 1), 360);
        b.due("as many as there are", x.freest(1000, 360, 1), 80);
        b.leaves("a question", 60, y -> y.freest(200, 60, 1));
        b.sentence(50, "NONE: no such ones");
        b.bounds("freest", -1, (y, n) -> y.freest(n[0], n[1], n[2]), Boundaries.n(5, 7, 0), Boundaries.n(0, 0, 1079),
            Boundaries.n(1, 1, 360), Boundaries.n(2, 0, 1));
    }

    private static void need(Boundaries b) {
        b.sentence(51, "NEED;");
        LivingDays x = new LivingDays();
        x.rule(5, 0, 360);
        b.due("the most", x.need(5, 2), 360);
        x.stay(5, 720, 1078);
        b.due("one", x.need(5, 2), 1);
        x.stay(5, 720, 1079);
        b.due("none", x.need(5, 2), 0);
        x.rule(5, 0, 0);
        x.rule(5, 1, 1);
        b.due("31 at least", x.need(5, 0), 31);
        x.stay(5, 0, 29);
        b.due("30 are there", x.need(5, 0), 1);
        x.rule(0, 1, 50);
        x.stay(0, 0, 0);
        b.due("49 more", x.need(0, 0), 49);
        b.due("2 of 300 by the year ahead", x.need(0, 1), 50);
        x.stay(0, 0, 2);
        b.due("6 of 300 by the year ahead", x.need(0, 1), 49);
        b.sentence(51, "-2: not by all");
        b.due("no rule", x.need(3, 0), -2);
        x.rule(3, 2, 360);
        x.home(3, 0, 358, true);
        b.due("a home is lacking", x.need(3, 0), -2);
        x.home(3, 359, 359, true);
        b.due("none is lacking", x.need(3, 0), 1);
        b.leaves("no rule", -2, y -> y.need(3, 0));
        b.sentence(51, "NONE: no such ones");
        b.bounds("need", -1, (y, n) -> y.need(n[0], n[1]), Boundaries.n(0, 1), Boundaries.n(0, 0, 5),
            Boundaries.n(1, 0, 2));
    }

    private static void moved(Boundaries b) {
        b.sentence(52, "LIVES in the YEAR of a DAY, were one on it in a LAND (NONE: nowhere): the LAND");
        LivingDays x = Texts.told("a0..9,f350..359,f360,f1079");
        x.rule(0, 0, 1);
        x.rule(5, 0, 1);
        b.due("like days; day 0 to f", x.moved(0, 5), 5);
        b.due("day 0 to nowhere", x.moved(0, -1), 5);
        b.due("day 359 to a", x.moved(359, 0), 0);
        b.due("day 100 from nowhere to a", x.moved(100, 0), 0);
        b.due("day 360 is of year 1", x.moved(360, 0), 0);
        b.due("day 361 to nowhere, where one is", x.moved(361, -1), 5);
        b.due("day 1079 as it is", x.moved(1079, 5), 5);
        b.sentence(52, "-2: none");
        b.due("like days as they are", x.moved(0, 0), -2);
        b.due("like days as they are", x.moved(359, 5), -2);
        b.due("day 1079 to nowhere", x.moved(1079, -1), -2);
        b.due("day 361 to a: like days", x.moved(361, 0), -2);
        b.leaves("none claims then", -2, y -> y.moved(1079, -1));
        b.leaves("as it is", 5, y -> y.moved(1079, 5));
        b.sentence(52, "NONE: no such ones");
        b.bounds("moved", -1, (y, n) -> y.moved(n[0], n[1]), Boundaries.n(5, 1), Boundaries.n(0, 0, 1079),
            Boundaries.n(1, -1, 5));
    }

    private static void loose(Boundaries b) {
        b.sentence(53, "On how many DAYS of a YEAR there is a LAND, or nowhere, where being on that DAY alone "
            + "would change LIVES in the YEAR, what 0 how many");
        LivingDays x = Texts.told("f720..1079");
        x.rule(5, 0, 360);
        b.due("each day is needed", x.loose(2, 0), 360);
        x.rule(5, 0, 359);
        b.due("none is", x.loose(2, 0), 0);
        x.rule(5, 0, 0);
        b.due("none claims", x.loose(2, 0), 0);
        x = Texts.told("a359");
        x.rule(0, 0, 1);
        b.due("the one day alone", x.loose(0, 0), 1);
        x.rule(0, 0, 2);
        b.due("each other day", x.loose(0, 0), 359);
        x = Texts.told("a0..1,f2..3,c4");
        x.rule(0, 0, 2);
        x.rule(5, 0, 2);
        b.due("like days: any day changes it", x.loose(0, 0), 360);
        x.stay(0, 5, 6);
        b.due("only the days of a: one of them in f makes like days", x.loose(0, 0), 4);
        b.due("nothing in year 1", x.loose(1, 0), 0);
        b.sentence(53, "1 the first (-2: none)");
        b.due("the first of a", x.loose(0, 1), 0);
        b.due("none", x.loose(1, 1), -2);
        x = Texts.told("a359..360,a1079");
        x.rule(0, 0, 1);
        b.due("the last day of year 0", x.loose(0, 1), 359);
        b.due("the first day of year 1", x.loose(1, 1), 360);
        b.due("the last day of all", x.loose(2, 1), 1079);
        x.rule(0, 0, 2);
        b.due("the first day of all", x.loose(0, 1), 0);
        b.due("the second day of year 1", x.loose(1, 1), 361);
        b.leaves("a question", 0, y -> y.loose(0, 0));
        b.sentence(53, "NONE: no such ones");
        b.bounds("loose", -1, (y, n) -> y.loose(n[0], n[1]), Boundaries.n(1, 1), Boundaries.n(0, 0, 2),
            Boundaries.n(1, 0, 1));
    }

    private static void nearest(Boundaries b) {
        b.sentence(54, "The LAND that does not CLAIM one in a YEAR with the least NEED, what 0 the LAND, of like "
            + "ones the lowest");
        LivingDays x = new LivingDays();
        x.rule(5, 0, 360);
        b.due("the only one", x.nearest(2, 0), 5);
        x.rule(0, 0, 360);
        b.due("of two the lowest", x.nearest(2, 0), 0);
        x.rule(5, 0, 359);
        b.due("one less", x.nearest(2, 0), 5);
        x.rule(3, 0, 1);
        b.due("the least", x.nearest(2, 0), 3);
        x.stay(3, 1079, 1079);
        b.due("one that claims is not meant", x.nearest(2, 0), 5);
        b.due("it does not in another year", x.nearest(1, 0), 3);
        x.rule(1, 2, 1);
        b.due("one that can't is not meant", x.nearest(2, 0), 5);
        b.sentence(54, "1 its NEED");
        b.due("359", x.nearest(2, 1), 359);
        b.due("one", x.nearest(1, 1), 1);
        b.sentence(54, "-2: there is none");
        x = new LivingDays();
        b.due("no rule: no land", x.nearest(0, 0), -2);
        b.due("no rule: no need", x.nearest(0, 1), -2);
        x.rule(0, 2, 1);
        b.due("no home: no land", x.nearest(0, 0), -2);
        x.rule(0, 0, 1);
        x.stay(0, 0, 0);
        b.due("it claims: no land", x.nearest(0, 0), -2);
        b.due("it claims: no need", x.nearest(0, 1), -2);
        b.leaves("a question", 1, y -> y.nearest(0, 1));
        b.sentence(54, "NONE: no such ones");
        b.bounds("nearest", -1, (y, n) -> y.nearest(n[0], n[1]), Boundaries.n(1, 1), Boundaries.n(0, 0, 2),
            Boundaries.n(1, 0, 1));
    }

    private static void instead(Boundaries b) {
        b.sentence(55, "Were all DAYS in LAND a from a DAY to a DAY in LAND b (NONE: nowhere): LIVES in a YEAR "
            + "(what 0 to 2)");
        LivingDays x = Texts.told("a0..9,f10..18,a360..369,a1079");
        x.rule(0, 0, 1);
        x.rule(5, 0, 1);
        b.due("as it is", x.instead(3, 4, 0, 1079, 0), 0);
        b.due("day 0 in f", x.instead(0, 5, 0, 0, 0), 5);
        b.due("day 0 nowhere: like days", x.instead(0, -1, 0, 0, 0), -2);
        b.due("from 1 on", x.instead(0, 5, 1, 1079, 0), 5);
        b.due("no day of a", x.instead(0, 5, 10, 359, 0), 0);
        b.due("to day 360, in year 1", x.instead(0, 5, 0, 360, 1), 0);
        b.due("to day 369, in year 1", x.instead(0, 5, 0, 369, 1), 5);
        b.due("the last day, in year 2", x.instead(0, 5, 1079, 1079, 2), 5);
        b.due("ahead of the last day, in year 2", x.instead(0, 5, 0, 1078, 2), 0);
        b.sentence(55, "OWED in all YEARS together (3)");
        b.due("no tax", x.instead(0, 5, 0, 1079, 3), 0);
        x.tax(5, 60);
        b.due("as it is: a lives from 0 to 359", x.instead(3, 4, 0, 1079, 3), 0);
        b.due("all in f: it claims in all years", x.instead(0, 5, 0, 1079, 3), (360 + 360 + 360) * 60);
        b.due("f nowhere", x.instead(5, -1, 0, 1079, 3), 0);
        b.sentence(55, "OVERSTAYS in all LANDS together (4)");
        b.due("no window", x.instead(0, 5, 0, 1079, 4), 0);
        x.window(0, 10, 9);
        x.window(5, 19, 18);
        b.due("as it is", x.instead(3, 4, 0, 1079, 4), 2);
        b.due("in f there is one too many, twice", x.instead(0, 5, 0, 9, 4), 2);
        b.due("the tenth alone", x.instead(0, 5, 9, 9, 4), 1);
        b.due("nowhere", x.instead(0, -1, 0, 1079, 4), 0);
        b.sentence(55, "-2: none (of 0 to 2)");
        b.due("all nowhere: f lives", x.instead(0, -1, 0, 1079, 0), 5);
        b.due("all nowhere: none in year 1", x.instead(0, -1, 0, 1079, 1), -2);
        b.due("all nowhere: none in year 2", x.instead(0, -1, 0, 1079, 2), -2);
        b.leaves("none", -2, y -> y.instead(5, -1, 1079, 1079, 2));
        b.sentence(55, "NONE: no such ones, a is b");
        b.bounds("instead", -1, (y, n) -> y.instead(n[0], n[1], n[2], n[3], n[4]), Boundaries.n(2, 3, 100, 200, 1),
            Boundaries.n(0, 0, 5), Boundaries.n(2, 0, 200), Boundaries.n(3, 100, 1079), Boundaries.n(4, 0, 4));
        b.bounds("instead", -1, (y, n) -> y.instead(n[0], n[1], n[2], n[3], n[4]), Boundaries.n(2, 3, 100, 200, 1),
            Boundaries.n(1, -1, 5));
        for (int land = -1; land <= 6; land++) {
            int both = land;
            b.leaves("a and b " + land, -1, y -> y.instead(both, both, 0, 1079, 3));
        }
    }

    private static void trip(Boundaries b) {
        b.sentence(56, "A CALENDAR by the tape's first n bytes (1 to 160; empty then), laid over as if it were "
            + "told, what as of instead()");
        LivingDays x = Texts.told("a0..9,f360");
        x.rule(0, 0, 1);
        x.rule(5, 0, 1);
        x.tax(0, 10);
        x.tax(5, 60);
        x.window(0, 10, 9);
        b.due("lives in year 0", Texts.plan(x, "f10..20", 0), 5);
        b.due("empty then", x.count(4), 0);
        b.due("lives in year 1", Texts.plan(x, "-360", 1), -2);
        b.due("lives in year 2", Texts.plan(x, "a1079", 2), 0);
        b.due("lives in no year 2", Texts.plan(x, "a0", 2), -2);
        b.due("owed", Texts.plan(x, "b0..9,c360", 3), 0);
        b.due("owed with f on day 0", Texts.plan(x, "-1..9,f0", 3), 360 * 60 + 60);
        b.due("overstays as it is", Texts.plan(x, "-500", 4), 1);
        b.due("overstays with one more", Texts.plan(x, "a10", 4), 2);
        Texts.feed(x, "a10,-0..1079" + " ".repeat(308));
        b.due("n of 320 bytes", x.trip(3, 4), 2);
        b.due("all 320 are gone", x.count(4), 0);
        Texts.feed(x, "a10" + " ".repeat(177));
        b.due("n 160", x.trip(160, 4), 2);
        Texts.feed(x, "a10");
        b.due("n 1", x.trip(1, 4), -1001);
        b.sentence(56, "a FAULT: -1000 times its number, less its place");
        b.due("fault 1 at place 0", Texts.plan(x, "x", 0), -1000);
        b.due("fault 1 at the end", Texts.plan(x, "a1" + " ".repeat(157) + ",", 3), -1160);
        b.due("fault 2", Texts.plan(x, "a5..4", 4), -2004);
        b.due("empty then", x.count(4), 0);
        b.leavesAllButTheTape("a fault behind good stays", -1012, y -> y.trip(12, 0));
        b.sentence(56, "NONE: no such ones, it has not so many (the tape stays)");
        b.bounds("trip", -1, (y, n) -> y.trip(n[0], n[1]), Boundaries.n(17, 0), Boundaries.n(0, 1, 20),
            Boundaries.n(1, 0, 4));
        b.leaves("n 160 of 20", -1, y -> y.trip(160, 0));
        b.leaves("a fault and no what", -1, y -> y.trip(1, 5));
        b.due("an empty tape", x.trip(1, 0), -1);
        Texts.feed(x, "a10" + " ".repeat(317));
        b.due("n 161 of 320", x.trip(161, 4), -1);
        b.due("the tape stays", x.count(4), 320);
        b.due("n 160 of 320", x.trip(160, 4), 2);
        b.sentence(56, "Nothing is changed.");
        for (int what = 0; what < 5; what++) {
            int each = what;
            LivingDays y = Rich.made(true);
            int lived = y.trip(20, each);
            b.leavesAllButTheTape("what " + what, lived, z -> z.trip(20, each));
        }
    }

    private static void cheapest(Boundaries b) {
        b.sentence(57, "The LAND in which, were one there on all DAYS from a DAY to a DAY, OWED in all YEARS "
            + "together would be least, what 0 the LAND, of like ones the lowest");
        LivingDays x = new LivingDays();
        b.due("all alike", x.cheapest(0, 1079, 0), 0);
        x.tax(0, 1);
        b.due("not the first", x.cheapest(0, 1079, 0), 1);
        for (int land = 0; land < 6; land++) {
            x.tax(land, land == 5 ? 59 : 60);
        }
        b.due("the last", x.cheapest(0, 1079, 0), 5);
        x.tax(4, 59);
        b.due("of two the lowest", x.cheapest(1079, 1079, 0), 4);
        x.rule(4, 0, 1);
        x.home(4, 720, 720, true);
        b.due("where one would live it is dearer", x.cheapest(1079, 1079, 0), 5);
        LivingDays home = new LivingDays();
        home.tax(0, 10);
        for (int land = 1; land < 6; land++) {
            home.tax(land, 60);
        }
        home.rule(0, 2, 1);
        home.home(0, 0, 359, true);
        b.due("where one would live by a home it is dearer", home.cheapest(0, 0, 0), 1);
        b.due("in a year without a home it is not", home.cheapest(360, 360, 0), 0);
        b.sentence(57, "1 that");
        b.due("the last day", x.cheapest(1079, 1079, 1), 59);
        b.due("the first day", x.cheapest(0, 0, 1), 59);
        b.due("all days", x.cheapest(0, 1079, 1), 1080 * 59);
        x.stay(0, 0, 9);
        b.due("other days as they are", x.cheapest(5, 9, 1), 5 * 60 + 5 * 59);
        for (int land = 0; land < 6; land++) {
            x.tax(land, 60);
        }
        x.rule(4, 0, 0);
        b.due("the most", x.cheapest(0, 1079, 1), 1080 * 60);
        x.tax(5, 0);
        b.due("nothing", x.cheapest(0, 1079, 1), 0);
        b.leaves("a question", 2, y -> y.cheapest(600, 610, 0));
        b.sentence(57, "NONE: no such ones");
        b.bounds("cheapest", -1, (y, n) -> y.cheapest(n[0], n[1], n[2]), Boundaries.n(100, 200, 1),
            Boundaries.n(0, 0, 200), Boundaries.n(1, 100, 1079), Boundaries.n(2, 0, 1));
    }
}

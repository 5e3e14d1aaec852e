import static java.lang.Integer.MAX_VALUE;
import static java.lang.Integer.MIN_VALUE;

/** The boundary cases of promises 30 to 35: days moved, traded, erased; routes, the latest day, wins. */
final class ChangedBoundaries {
    private ChangedBoundaries() {
    }

    static void run(Boundaries b) {
        slide(b);
        trade(b);
        erase(b);
        routes(b);
        latest(b);
        wins(b);
    }

    private static void dueSlide(Boundaries b, String told, int[] n, int want, String text) {
        LivingDays x = Texts.told(told);
        b.due(Boundaries.shown("slide", n) + " of " + told, x.slide(n[0], n[1], n[2]), want);
        b.text(Boundaries.shown("slide", n) + " of " + told, x, text);
    }

    private static void slide(Boundaries b) {
        b.sentence(30, "Where one is on the DAYS from, to (of several, in between, too) comes by DAYS later (below "
            + "0: sooner), in place of what was there");
        dueSlide(b, "a10..12,b20", Boundaries.n(10, 12, 8), 6, "a18..20");
        dueSlide(b, "a10..12,b9", Boundaries.n(10, 12, -3), 6, "a7..9");
        dueSlide(b, "a10,b11,c12", Boundaries.n(11, 11, 1), 2, "a10,b12");
        dueSlide(b, "a10,b11,c12", Boundaries.n(11, 11, -1), 2, "b10,c12");
        dueSlide(b, "a10,b12,c20..22", Boundaries.n(10, 12, 10), 5, "a20,b22");
        dueSlide(b, "a0,f1079", Boundaries.n(0, 0, 1079), 2, "a1079");
        dueSlide(b, "a0,f1079", Boundaries.n(1079, 1079, -1079), 2, "f0");
        b.sentence(30, "on those of the former that are not come to by it one is nowhere");
        dueSlide(b, "a10..14", Boundaries.n(10, 14, 2), 4, "a12..16");
        dueSlide(b, "a10..14", Boundaries.n(10, 14, -2), 4, "a8..12");
        dueSlide(b, "a10..14", Boundaries.n(10, 14, 5), 10, "a15..19");
        dueSlide(b, "a10..14", Boundaries.n(10, 14, 6), 10, "a16..20");
        dueSlide(b, "a9..15", Boundaries.n(10, 14, 100), 10, "a9,a15,a110..114");
        b.sentence(30, "how many DAYS are otherwise then");
        dueSlide(b, "a10..14", Boundaries.n(10, 14, 0), 0, "a10..14");
        dueSlide(b, "a10..14", Boundaries.n(20, 30, 5), 0, "a10..14");
        dueSlide(b, "a0..1079", Boundaries.n(0, 1078, 1), 1, "a1..1079");
        dueSlide(b, "a0..1079", Boundaries.n(0, 1079, 0), 0, "a0..1079");
        b.sentence(30, "NONE: no such DAYS, some would be no DAYS");
        b.bounds("slide", -1, (y, n) -> y.slide(n[0], n[1], n[2]), Boundaries.n(100, 200, 10),
            Boundaries.n(0, 0, 200), Boundaries.n(1, 100, 1069), Boundaries.n(2, -100, 879));
        b.bounds("slide sooner", -1, (y, n) -> y.slide(n[0], n[1], n[2]), Boundaries.n(100, 200, -10),
            Boundaries.n(0, 10, 200), Boundaries.n(1, 100, 1079));
        b.bounds("slide all", -1, (y, n) -> y.slide(n[0], n[1], n[2]), Boundaries.n(0, 1079, 0),
            Boundaries.n(2, 0, 0));
        b.leaves("days beyond the last, that would come to days", -1, y -> y.slide(1080, 1080, -10));
        b.leaves("days ahead of the first, that would come to days", -1, y -> y.slide(-1, -1, 10));
        b.leaves("the least by, of day 0", -1, y -> y.slide(0, 0, MIN_VALUE));
        b.leaves("the greatest by, of day 0", -1, y -> y.slide(0, 0, MAX_VALUE));
    }

    private static void trade(Boundaries b) {
        b.sentence(31, "On DAYS from, to and in between one is in LAND b where one was in a, and in a where one "
            + "was in b");
        LivingDays x = Texts.told("a0..1,f2..3,c4,a1078,f1079");
        x.trade(0, 5, 0, 1079);
        b.text("all days", x, "f0..1,a2..3,c4,f1078,a1079");
        x.trade(5, 0, 1, 2);
        b.text("two days", x, "f0,a1,f2,a3,c4,f1078,a1079");
        x.trade(0, 5, 1079, 1079);
        b.text("the last day", x, "f0,a1,f2,a3,c4,f1078..1079");
        x.trade(0, 5, 0, 0);
        b.text("the first day", x, "a0..1,f2,a3,c4,f1078..1079");
        b.sentence(31, "how many DAYS are otherwise then");
        b.due("none of both", x.trade(1, 3, 0, 1079), 0);
        b.due("nowhere", x.trade(0, 5, 5, 1077), 0);
        b.due("of one alone", x.trade(2, 3, 0, 1079), 1);
        b.due("of both", x.trade(0, 5, 0, 1079), 6);
        x.stay(0, 0, 1079);
        b.due("all", x.trade(4, 0, 0, 1079), 1080);
        b.sentence(31, "NONE: no such ones, a is b");
        b.bounds("trade", -1, (y, n) -> y.trade(n[0], n[1], n[2], n[3]), Boundaries.n(2, 3, 100, 200),
            Boundaries.n(0, 0, 5), Boundaries.n(2, 0, 200), Boundaries.n(3, 100, 1079));
        b.bounds("trade", -1, (y, n) -> y.trade(n[0], n[1], n[2], n[3]), Boundaries.n(2, 3, 100, 200),
            Boundaries.n(1, 0, 5));
        for (int land = -1; land <= 6; land++) {
            int both = land;
            b.leaves("a and b " + land, -1, y -> y.trade(both, both, 0, 1079));
        }
    }

    private static void erase(Boundaries b) {
        b.sentence(32, "On the DAYS of each STAY in a LAND (as of nth()) of n DAYS or fewer (1 to 360) one is nowhere");
        LivingDays x = Texts.told("a0,b1,a2..3,a358..361,f400,a1078..1079");
        x.erase(0, 1);
        b.text("n 1", x, "b1,a2..3,a358..361,f400,a1078..1079");
        x.erase(0, 3);
        b.text("n 3, over the turn of the year there are four", x, "b1,a358..361,f400");
        x.erase(0, 4);
        b.text("n 4", x, "b1,f400");
        x = Texts.told("a0..359,a400..760");
        x.erase(0, 360);
        b.text("n 360", x, "a400..760");
        x = Texts.told("a0,f1,a2,f3");
        x.erase(0, 360);
        b.text("one erased stay does not join others", x, "f1,f3");
        b.sentence(32, "how many such STAYS there were");
        b.due("none", x.erase(0, 360), 0);
        b.due("two", x.erase(5, 1), 2);
        x = Texts.told("a0..1,a3..5,a7..10");
        b.due("too long ones", x.erase(0, 1), 0);
        b.due("one of three", x.erase(0, 2), 1);
        b.due("the two others", x.erase(0, 4), 2);
        x.stay(0, 0, 1079);
        b.due("one of 1080 days", x.erase(0, 360), 0);
        Texts.alternate(x);
        b.due("the most", x.erase(1, 1), 540);
        b.sentence(32, "NONE: no such ones");
        b.bounds("erase", -1, (y, n) -> y.erase(n[0], n[1]), Boundaries.n(2, 100), Boundaries.n(0, 0, 5),
            Boundaries.n(1, 1, 360));
    }

    private static void routes(Boundaries b) {
        b.sentence(33, "On how many DAYS of a YEAR one is in LAND b and was in LAND a on the DAY ahead (either "
            + "NONE: nowhere; DAY 0 has none ahead)");
        LivingDays x = Texts.told("f0..9,a10..19,f20,a358..359,f360,a1078,f1079");
        b.due("f to a", x.routes(5, 0, 0), 1);
        b.due("a to f", x.routes(0, 5, 0), 1);
        b.due("over the turn: of the year behind", x.routes(0, 5, 1), 1);
        b.due("on the last day", x.routes(0, 5, 2), 1);
        b.due("from nowhere: not on day 0", x.routes(-1, 5, 0), 0);
        b.due("from nowhere", x.routes(-1, 0, 0), 1);
        b.due("to nowhere", x.routes(5, -1, 0), 1);
        b.due("to nowhere in the year behind", x.routes(5, -1, 1), 1);
        b.due("other ones", x.routes(1, 2, 0), 0);
        x.stay(-1, 0, 0);
        b.due("from nowhere on day 1", x.routes(-1, 5, 0), 1);
        x = new LivingDays();
        for (int day = 0; day < 360; day++) {
            x.stay(day % 2, day, day);
        }
        b.due("the most", x.routes(0, 1, 0), 180);
        b.due("the most from day 2 on", x.routes(1, 0, 0), 179);
        b.sentence(33, "NONE: no such ones, a is b");
        b.bounds("routes", -1, (y, n) -> y.routes(n[0], n[1], n[2]), Boundaries.n(2, 3, 1), Boundaries.n(0, -1, 5),
            Boundaries.n(2, 0, 2));
        b.bounds("routes", -1, (y, n) -> y.routes(n[0], n[1], n[2]), Boundaries.n(2, 3, 1), Boundaries.n(1, -1, 5));
        for (int land = -2; land <= 6; land++) {
            int both = land;
            b.leaves("a and b " + land, -1, y -> y.routes(both, both, 0));
        }
    }

    private static void latest(Boundaries b) {
        b.sentence(34, "The last DAY of a YEAR from which on, were one in a LAND to the end of the YEAR, it would "
            + "CLAIM one in it");
        LivingDays x = new LivingDays();
        x.rule(5, 0, 1);
        for (int year = 0; year < 3; year++) {
            b.due("one day: the last of year " + year, x.latest(5, year), 360 * year + 359);
        }
        x.rule(5, 0, 360);
        for (int year = 0; year < 3; year++) {
            b.due("all days: the first of year " + year, x.latest(5, year), 360 * year);
        }
        x.stay(5, 360, 369);
        b.due("days there ahead of it", x.latest(5, 1), 370);
        x.stay(5, 719, 719);
        b.due("a day there at the end is one of them", x.latest(5, 1), 370);
        x.stay(5, 360, 719);
        b.due("it claims as it is", x.latest(5, 1), 719);
        x.stay(5, 350, 359);
        x.rule(5, 0, 11);
        b.due("days there are no more by being there", x.latest(5, 0), 349);
        x.rule(5, 0, 10);
        b.due("as many as are there", x.latest(5, 0), 359);
        x.rule(4, 1, 31);
        b.due("by the mean", x.latest(4, 0), 329);
        x.rule(4, 1, 1);
        b.due("31 days at least", x.latest(4, 0), 329);
        x.rule(3, 2, 1);
        x.home(3, 0, 0, true);
        b.due("by home", x.latest(3, 0), 359);
        b.sentence(34, "-2: by none");
        b.due("no rule", x.latest(0, 0), -2);
        b.due("no home", x.latest(3, 1), -2);
        x.rule(3, 2, 2);
        b.due("one home of two", x.latest(3, 0), -2);
        b.leaves("no rule", -2, y -> y.latest(3, 2));
        b.sentence(34, "NONE: no such ones");
        b.bounds("latest", -1, (y, n) -> y.latest(n[0], n[1]), Boundaries.n(2, 1), Boundaries.n(0, 0, 5),
            Boundaries.n(1, 0, 2));
    }

    private static void wins(Boundaries b) {
        b.sentence(35, "Against how many others that CLAIM one in a YEAR a LAND that CLAIMS has an ANSWER of both");
        LivingDays x = Texts.told("a0..5,b6..10,c11..14,d15..17,e18..19,f20");
        x.rule(0, 0, 1);
        b.due("no others", x.wins(0, 0), 0);
        for (int land = 1; land < 6; land++) {
            x.rule(land, 0, 1);
        }
        for (int land = 0; land < 6; land++) {
            b.due("land " + land, x.wins(land, 0), 5 - land);
        }
        Texts.setOrder(x, 5, "");
        b.due("one of both answers nobody", x.wins(0, 0), 4);
        Texts.setOrder(x, 5, "n");
        x.nation(5, true);
        b.due("one of both answers itself", x.wins(5, 0), 0);
        Texts.setTreaty(x, 0, 5, "n");
        b.due("by a treaty both answer it", x.wins(5, 0), 1);
        x.rule(0, 0, 7);
        b.due("one that does not claim is none", x.wins(5, 0), 0);
        b.sentence(35, "-2: it does not CLAIM");
        b.due("it claims no more", x.wins(0, 0), -2);
        b.due("in another year", x.wins(1, 1), -2);
        b.leaves("no rule", -2, y -> y.wins(3, 0));
        b.sentence(35, "NONE: no such ones");
        b.bounds("wins", -1, (y, n) -> y.wins(n[0], n[1]), Boundaries.n(2, 1), Boundaries.n(0, 0, 5),
            Boundaries.n(1, 0, 2));
    }
}

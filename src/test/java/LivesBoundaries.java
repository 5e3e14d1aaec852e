/** The boundary cases of promises 36 to 45: two together, and where one lives. */
final class LivesBoundaries {
    private LivesBoundaries() {
    }

    static void run(Boundaries b) {
        partner(b);
        together(b);
        claims(b);
        holds(b);
        answers(b);
        by(b);
        lives(b);
        pairs(b);
        split(b);
        owed(b);
    }

    private static void partner(Boundaries b) {
        b.sentence(36, "THE PARTNER is from now on where one is now on each DAY (whatever is told later)");
        LivingDays x = Texts.told("a0,b1079");
        x.partner();
        b.due("on the first day", x.together(0, 0), 1);
        b.due("on the last day", x.together(2, 0), 1);
        Texts.lay(x, "b0,a1079");
        b.due("told later", x.together(0, 0) + x.together(2, 0), 0);
        x.partner();
        b.due("from now on", x.together(0, 0) + x.together(2, 0), 2);
        x.drawn(1, 100, 10);
        x.slide(0, 100, 3);
        x.trade(0, 1, 0, 1079);
        x.stay(-1, 0, 1079);
        x.stay(1, 0, 0);
        b.due("whatever is told", x.together(0, 0), 1);
        b.sentence(36, "how many STAYS (as of letter())");
        b.due("one", x.partner(), 1);
        x.stay(-1, 0, 1079);
        b.due("none", x.partner(), 0);
        x.stay(0, 0, 1079);
        b.due("one over all", x.partner(), 1);
        x.stay(1, 360, 360);
        b.due("three", x.partner(), 3);
        x = new LivingDays();
        Texts.alternate(x);
        b.due("the most", x.partner(), 1080);
    }

    private static void together(Boundaries b) {
        b.sentence(37, "DAYS of a YEAR on which both are in one LAND, what 0 how many");
        LivingDays x = Texts.told("a0..359,f360..719");
        x.partner();
        b.due("all", x.together(0, 0), 360);
        b.due("both nowhere", x.together(2, 0), 0);
        Texts.lay(x, "b0,-359,c720,a360");
        b.due("not on the first, not on the last", x.together(0, 0), 358);
        b.due("in two lands", x.together(1, 0), 359);
        b.due("the partner nowhere", x.together(2, 0), 0);
        b.sentence(37, "1 the longest row of these in the YEAR");
        b.due("all but two", x.together(0, 1), 358);
        x.stay(1, 100, 100);
        b.due("the longer of two", x.together(0, 1), 258);
        b.due("none", x.together(2, 1), 0);
        x.stay(0, 359, 359);
        x.stay(5, 360, 360);
        b.due("no longer than the year", x.together(1, 1), 360);
        b.sentence(37, "2 in which LANDS (bits)");
        b.due("land 0", x.together(0, 2), 1);
        b.due("land 5", x.together(1, 2), 32);
        b.due("none", x.together(2, 2), 0);
        x.stay(5, 0, 1079);
        x.stay(0, 700, 700);
        x.partner();
        b.due("both", x.together(1, 2), 33);
        b.sentence(37, "3 how many DAYS of the YEAR are others");
        b.due("none", x.together(1, 3), 0);
        x.stay(-1, 359, 360);
        b.due("the last day", x.together(0, 3), 1);
        b.due("the first day", x.together(1, 3), 1);
        x.stay(-1, 0, 1079);
        x.partner();
        b.due("both nowhere: all", x.together(0, 3), 360);
        b.sentence(37, "-2: there is no PARTNER");
        x = new LivingDays();
        x.stay(0, 0, 1079);
        for (int what = 0; what < 4; what++) {
            b.due("what " + what, x.together(2, what), -2);
        }
        x.partner();
        b.due("there is one", x.together(2, 3), 0);
        b.sentence(37, "NONE: no such ones");
        b.bounds("together", -1, (y, n) -> y.together(n[0], n[1]), Boundaries.n(1, 1), Boundaries.n(0, 0, 2),
            Boundaries.n(1, 0, 3));
    }

    private static void claims(Boundaries b) {
        b.sentence(38, "LANDS that CLAIM one in a YEAR (bits)");
        LivingDays x = Texts.told("a0,b1,c2,d3,e4,f5,a719,f1079");
        b.due("none", x.claims(0), 0);
        x.rule(0, 0, 1);
        b.due("land 0", x.claims(0), 1);
        x.rule(5, 0, 1);
        b.due("land 5, too", x.claims(0), 33);
        for (int land = 0; land < 6; land++) {
            x.rule(land, 0, 1);
        }
        b.due("all", x.claims(0), 63);
        b.due("in year 1", x.claims(1), 1);
        b.due("in year 2", x.claims(2), 32);
        b.sentence(38, "NONE: no such one");
        b.bounds("claims", -1, (y, n) -> y.claims(n[0]), Boundaries.n(1), Boundaries.n(0, 0, 2));
    }

    private static void holds(Boundaries b) {
        b.sentence(39, "Which RULES of a LAND hold in a YEAR (bits by sorts)");
        LivingDays x = Texts.told("f1049..1079");
        x.home(5, 1079, 1079, true);
        b.due("none is told", x.holds(5, 2), 0);
        x.rule(5, 0, 31);
        b.due("by days", x.holds(5, 2), 1);
        x.rule(5, 1, 31);
        b.due("by the mean, too", x.holds(5, 2), 3);
        x.rule(5, 2, 1);
        b.due("all", x.holds(5, 2), 7);
        x.rule(5, 0, 32);
        b.due("one day is lacking", x.holds(5, 2), 6);
        x.rule(5, 1, 32);
        b.due("one day is lacking for the mean", x.holds(5, 2), 4);
        x.rule(5, 2, 2);
        b.due("one home is lacking", x.holds(5, 2), 0);
        b.due("none in the year ahead", x.holds(5, 1), 0);
        b.sentence(39, "NONE: no such ones");
        b.bounds("holds", -1, (y, n) -> y.holds(n[0], n[1]), Boundaries.n(2, 1), Boundaries.n(0, 0, 5),
            Boundaries.n(1, 0, 2));
    }

    private static void answers(Boundaries b) {
        b.sentence(40, "What LAND a ANSWERS against LAND b in a YEAR: the LAND");
        LivingDays x = Texts.told("a0,f1079");
        b.due("a in year 0", x.answers(0, 5, 0), 0);
        b.due("the same, asked of b", x.answers(5, 0, 0), 0);
        b.due("b in year 2", x.answers(0, 5, 2), 5);
        b.due("though none claims", x.claims(0), 0);
        b.sentence(40, "-2: nobody");
        b.due("nothing in year 1", x.answers(0, 5, 1), -2);
        Texts.setOrder(x, 0, "hcn");
        b.due("its letters do not tell", x.answers(0, 5, 0), -2);
        b.due("those of the other do", x.answers(5, 0, 0), 0);
        b.leaves("two of which nothing is told", -2, y -> y.answers(3, 4, 0));
        b.sentence(40, "NONE: no such ones, a is b");
        b.bounds("answers", -1, (y, n) -> y.answers(n[0], n[1], n[2]), Boundaries.n(2, 3, 1), Boundaries.n(0, 0, 5),
            Boundaries.n(2, 0, 2));
    }

    private static void by(Boundaries b) {
        b.sentence(41, "By the how-manieth letter of the ORDER of a (or of their TREATY; from 0) it ANSWERS");
        LivingDays x = Texts.told("a0");
        String[] rows = {"d", "hd", "hcd", "hcnd", "dhcn"};
        int[] places = {0, 1, 2, 3, 0};
        for (int k = 0; k < rows.length; k++) {
            Texts.setOrder(x, 5, rows[k]);
            b.due("by the order " + rows[k], x.by(5, 0, 0), places[k]);
            b.due("a by its own", x.by(0, 5, 0), 2);
        }
        Texts.setTreaty(x, 0, 5, "hcnd");
        b.due("by the treaty", x.by(0, 5, 0), 3);
        b.due("both by the treaty", x.by(5, 0, 0), 3);
        b.sentence(41, "-2: by none");
        b.due("none tells in year 1", x.by(0, 5, 1), -2);
        Texts.setTreaty(x, 0, 5, "hcn");
        b.due("the treaty does not tell", x.by(0, 5, 0), -2);
        Texts.setTreaty(x, 0, 5, "");
        b.due("the treaty is empty", x.by(5, 0, 0), -2);
        x.home(0, 0, 0, true);
        b.due("h is no letter of an empty treaty", x.by(5, 0, 0), -2);
        Texts.setTreaty(x, 0, 5, "cn");
        b.due("h is no letter of it", x.by(5, 0, 0), -2);
        b.due("nobody by it", x.answers(5, 0, 0), -2);
        b.leaves("two of which nothing is told", -2, y -> y.by(3, 4, 0));
        b.sentence(41, "NONE likewise");
        b.bounds("by", -1, (y, n) -> y.by(n[0], n[1], n[2]), Boundaries.n(2, 3, 1), Boundaries.n(0, 0, 5),
            Boundaries.n(2, 0, 2));
        for (int land = -1; land <= 6; land++) {
            int both = land;
            b.leaves("a and b " + land, -1, y -> y.by(both, both, 0));
            b.leaves("a and b of answers " + land, -1, y -> y.answers(both, both, 0));
        }
        for (int odd : new int[] {-1, 6, Integer.MIN_VALUE, Integer.MAX_VALUE}) {
            b.leaves("b " + odd, -1, y -> y.by(0, odd, 0));
            b.leaves("b of answers " + odd, -1, y -> y.answers(0, odd, 0));
        }
    }

    private static void lives(Boundaries b) {
        b.sentence(42, "LIVES in a YEAR: the LAND");
        LivingDays x = Texts.told("a0..9,f10..18,f720,a721");
        x.rule(5, 0, 1);
        b.due("land 5", x.lives(0), 5);
        x.rule(0, 0, 1);
        b.due("land 0 has one day more", x.lives(0), 0);
        b.sentence(42, "-2: none");
        b.due("none claims", x.lives(1), -2);
        b.due("like days", x.lives(2), -2);
        x.nation(5, true);
        b.due("now one of both is in NATION", x.lives(2), 5);
        Texts.setOrder(x, 0, "hcd");
        b.due("one of both answers nobody", x.lives(2), -2);
        b.sentence(42, "NONE: no such one");
        b.bounds("lives", -1, (y, n) -> y.lives(n[0]), Boundaries.n(1), Boundaries.n(0, 0, 2));
    }

    private static void pairs(Boundaries b) {
        b.sentence(43, "Pairs of LANDS that CLAIM one in a YEAR, what 0 all");
        LivingDays x = Texts.told("a0,b1,c2,d3,e4,f5");
        b.due("none claims", x.pairs(0, 0), 0);
        int[] all = {0, 1, 3, 6, 10, 15};
        for (int land = 0; land < 6; land++) {
            x.rule(land, 0, 1);
            b.due(land + 1 + " claim", x.pairs(0, 0), all[land]);
        }
        b.due("none in year 2", x.pairs(2, 0), 0);
        b.sentence(43, "1 that do not AGREE");
        b.due("all say nobody", x.pairs(0, 1), 0);
        x.nation(5, true);
        b.due("all say 5 or nobody", x.pairs(0, 1), 0);
        b.due("all are pairs, whatever they say", x.pairs(0, 0), 15);
        b.due("those of 5 do not say nobody", x.pairs(0, 2), 10);
        Texts.setOrder(x, 5, "");
        b.due("5 says nobody", x.pairs(0, 1), 5);
        for (int land = 0; land < 6; land++) {
            x.home(land, 0, land, true);
            Texts.setOrder(x, land, land % 2 == 0 ? "h" : "");
        }
        b.due("one says one, one nobody", x.pairs(0, 1), 9);
        b.sentence(43, "2 both of which ANSWER nobody");
        b.due("those without letters", x.pairs(0, 2), 3);
        for (int land = 0; land < 6; land++) {
            Texts.setOrder(x, land, "");
        }
        b.due("all", x.pairs(0, 2), 15);
        x.rule(0, 0, 0);
        b.due("five claim", x.pairs(0, 2), 10);
        b.due("none in year 1", x.pairs(1, 2), 0);
        b.sentence(43, "NONE: no such ones");
        b.bounds("pairs", -1, (y, n) -> y.pairs(n[0], n[1]), Boundaries.n(1, 1), Boundaries.n(0, 0, 2),
            Boundaries.n(1, 0, 2));
    }

    private static void split(Boundaries b) {
        b.sentence(44, "SPLIT of a LAND in a YEAR, what 0 FROM, 1 TILL");
        LivingDays x = Texts.told("f10..20,f30..40,f1070..1079");
        x.rule(5, 0, 10);
        b.due("from", x.split(5, 0, 0), 10);
        b.due("till", x.split(5, 0, 1), 40);
        b.due("from in year 2", x.split(5, 2, 0), 1070);
        b.due("till the last day of all", x.split(5, 2, 1), 1079);
        b.sentence(44, "2 DAYS there in between (both, too)");
        b.due("with both ends", x.split(5, 0, 2), 22);
        b.due("to the last day of all", x.split(5, 2, 2), 10);
        x.home(5, 0, 0, true);
        x.home(5, 359, 359, true);
        b.due("homes are no days there", x.split(5, 0, 2), 22);
        b.due("but from", x.split(5, 0, 0), 0);
        b.due("and till", x.split(5, 0, 1), 359);
        x.rule(0, 0, 1);
        x.stay(0, 719, 719);
        b.due("one day", x.split(0, 1, 2), 1);
        b.sentence(44, "-2: it does not CLAIM one");
        for (int what = 0; what < 3; what++) {
            b.due("in year 1, what " + what, x.split(5, 1, what), -2);
        }
        x.rule(5, 0, 22);
        b.due("just so", x.split(5, 0, 0), 0);
        x.rule(5, 0, 23);
        b.due("no more", x.split(5, 0, 0), -2);
        b.leaves("no rule", -2, y -> y.split(3, 0, 2));
        b.sentence(44, "NONE: no such ones");
        b.bounds("split", -1, (y, n) -> y.split(n[0], n[1], n[2]), Boundaries.n(2, 1, 1), Boundaries.n(0, 0, 5),
            Boundaries.n(1, 0, 2), Boundaries.n(2, 0, 2));
    }

    private static void owed(Boundaries b) {
        b.sentence(45, "OWED in a YEAR");
        LivingDays x = Texts.told("a0..359,f720..1079");
        b.due("no tax", x.owed(0), 0);
        x.tax(0, 60);
        x.tax(5, 1);
        b.due("the most", x.owed(0), 21600);
        b.due("nowhere", x.owed(1), 0);
        b.due("the least", x.owed(2), 360);
        x.rule(0, 0, 360);
        x.rule(5, 0, 360);
        b.due("where one lives", x.owed(0), 21600);
        b.due("in the last year", x.owed(2), 360);
        b.sentence(45, "NONE: no such one");
        b.bounds("owed", -1, (y, n) -> y.owed(n[0]), Boundaries.n(1), Boundaries.n(0, 0, 2));
    }
}

import static java.lang.Integer.MAX_VALUE;
import static java.lang.Integer.MIN_VALUE;

/** The boundary cases of the document's "Terms": they hold in every promise that uses the term. */
final class TermsBoundaries {
    private static final int TERMS = Document.TERMS;

    private TermsBoundaries() {
    }

    static void run(Boundaries b) {
        calls(b);
        numbers(b);
        atFirst(b);
        calendarText(b);
        calendarBlanks(b);
        calendarFaults(b);
        window(b);
        byDays(b);
        byTheMean(b);
        byHome(b);
        claims(b);
        order(b);
        letters(b);
        lives(b);
        split(b);
        free(b);
        leaveAndCome(b);
        need(b);
        owed(b);
        memory(b);
        refused(b);
        reasons(b);
    }

    private static void calls(Boundaries b) {
        b.sentence(TERMS, "An object is used for at most 512 calls after it has been made; what later calls answer "
            + "is free.");
        LivingDays x = new LivingDays();
        for (int k = 0; k < 511; k++) {
            b.due("call " + (k + 1), x.stay(k % 6, k, k), 1);
        }
        b.due("call 512", x.count(0), 511);
    }

    private static void numbers(Boundaries b) {
        LivingDays x = new LivingDays();
        b.sentence(TERMS, "DAYS 0 to 1079");
        b.due("day 0", x.at(0, 0), -2);
        b.due("day 1079", x.at(1079, 0), -2);
        b.due("day -1", x.at(-1, 0), -1);
        b.due("day 1080", x.at(1080, 0), -1);
        b.sentence(TERMS, "YEARS 0 to 2 of 360 DAYS each");
        for (int year = 0; year < 3; year++) {
            x.stay(year, 360 * year, 360 * year + 359);
        }
        for (int land = 0; land < 3; land++) {
            for (int year = 0; year < 3; year++) {
                b.due("land " + land + " in year " + year, x.days(land, year, 0), land == year ? 360 : 0);
            }
        }
        b.due("year -1", x.days(0, -1, 0), -1);
        b.due("year 3", x.days(0, 3, 0), -1);
        b.sentence(TERMS, "MONTHS 0 to 35 of 30");
        x.stay(-1, 0, 1079);
        x.stay(3, 0, 29);
        x.stay(4, 30, 30);
        x.stay(5, 1050, 1079);
        b.due("the first month", x.month(3, 0), 30);
        b.due("the second has none of it", x.month(3, 1), 0);
        b.due("day 30 is not of the first", x.month(4, 0), 0);
        b.due("day 30 is of the second", x.month(4, 1), 1);
        b.due("the last month", x.month(5, 35), 30);
        b.due("the one ahead of it", x.month(5, 34), 0);
        b.due("month -1", x.month(5, -1), -1);
        b.due("month 36", x.month(5, 36), -1);
        b.sentence(TERMS, "LANDS 0 to 5");
        b.due("land 0", x.days(0, 0, 0), 0);
        b.due("land 5", x.days(5, 2, 0), 30);
        b.due("land -1", x.days(-1, 0, 0), -1);
        b.due("land 6", x.days(6, 0, 0), -1);
    }

    private static void atFirst(Boundaries b) {
        LivingDays x = new LivingDays();
        b.sentence(TERMS, "On each DAY one is in one LAND, or nowhere (at first).");
        b.due("nowhere on day 0", x.at(0, 0), -2);
        b.due("nowhere on day 1079", x.at(1079, 0), -2);
        b.due("somewhere on none", x.count(0), 0);
        x.stay(0, 0, 359);
        x.stay(1, 359, 359);
        b.due("in one alone", x.days(0, 0, 0) + 1000 * x.days(1, 0, 0), 1359);
        b.sentence(TERMS, "HOMES: in each LAND on each DAY one has one or not (not at first).");
        for (int day : new int[] {0, 1079}) {
            b.due("no home on day " + day, x.at(day, 2), 0);
            for (int land = 0; land < 6; land++) {
                x.home(land, day, day, true);
            }
            b.due("homes in all lands on day " + day, x.at(day, 2), 63);
        }
        b.due("none on day 1", x.at(1, 2), 0);
        b.due("none on day 1078", x.at(1078, 2), 0);
        b.sentence(TERMS, "THE CENTRE of one's life: on each DAY a LAND or none (at first).");
        b.due("none on day 0", x.at(0, 1), -2);
        b.due("none on day 1079", x.at(1079, 1), -2);
        x.centre(5, 1079, 1079);
        x.centre(0, 1079, 1079);
        b.due("in one alone", x.at(1079, 1), 0);
        b.due("not in the former", x.days(5, 2, 2), 0);
        b.sentence(TERMS, "NATION: a set of LANDS (none at first).");
        b.due("none", x.count(1), 0);
        for (int land = 0; land < 6; land++) {
            x.nation(land, true);
        }
        b.due("all", x.count(1), 63);
        b.sentence(TERMS, "The constants: `NONE = -1`: There is none.");
        b.due("NONE", LivingDays.NONE, -1);
    }

    /** What a new object answers to a text; a fault leaves one nowhere. */
    private static void reads(Boundaries b, String text, int want) {
        LivingDays x = new LivingDays();
        b.due("the text <" + text + ">", Texts.lay(x, text), want);
        if (want < 0) {
            b.due("nothing is told by <" + text + ">", x.count(0), 0);
        }
    }

    private static void lies(Boundaries b, String text, String want) {
        LivingDays x = new LivingDays();
        Texts.lay(x, text);
        b.text("told by <" + text + ">", x, want);
    }

    private static void calendarText(Boundaries b) {
        b.sentence(TERMS, "A CALENDAR, a TEXT of 1 to 160 bytes");
        reads(b, "a", -1001);
        reads(b, "a1" + " ".repeat(158), 1);
        LivingDays x = new LivingDays();
        Texts.feed(x, "a1" + " ".repeat(178));
        b.due("161 bytes", x.calendar(161), -1);
        b.due("no byte", x.calendar(0), -1);
        b.due("160 bytes of more", x.calendar(160), 1);
        b.sentence(TERMS, "STAYS one behind the other, a , (44) between two");
        reads(b, "a1,b2", 2);
        reads(b, "a1+b2", -1002);
        reads(b, "a1-b2", -1002);
        reads(b, "a1b2", -1002);
        reads(b, "a1 b2", -1003);
        reads(b, ",a1", -1000);
        reads(b, "a1,", -1003);
        reads(b, "a1,,b2", -1003);
        b.sentence(TERMS, "a letter a to f (LAND 0 to 5) or - (nowhere)");
        lies(b, "a0,b2,c4,d6,e8,f10", "a0,b2,c4,d6,e8,f10");
        lies(b, "f0..9,-3", "f0..2,f4..9");
        for (char sign : new char[] {'`', 'g', 'A', 'F', ',', '.', '+', 0, 255, 'a' + 128}) {
            reads(b, sign + "7", -1000);
        }
        b.sentence(TERMS, ", a DAY, perhaps two points (.. , 46 46) and a DAY that is not ahead of it: on these "
            + "DAYS one is there");
        lies(b, "a0", "a0");
        lies(b, "a1079", "a1079");
        lies(b, "a0..1079", "a0..1079");
        lies(b, "a5..5", "a5");
        lies(b, "a5..6", "a5..6");
        reads(b, "a5..4", -2004);
        reads(b, "a5/.6", -1002);
        reads(b, "a5-.6", -1002);
        reads(b, "a5./6", -1003);
        reads(b, "a5.-6", -1003);
        reads(b, "a5...6", -1004);
        reads(b, "a5.6", -1003);
        reads(b, "a..6", -1001);
        reads(b, "a5..6..7", -1005);
        b.sentence(TERMS, "(a later STAY counts, where two speak of a DAY)");
        lies(b, "a0..9,b5..14", "a0..4,b5..14");
        lies(b, "b5..14,a0..9", "a0..9,b10..14");
        lies(b, "a3,b3", "b3");
        lies(b, "a3,-3", "");
        lies(b, "a3,b3,a3", "a3");
        b.sentence(TERMS, "Numbers: 1 to 4 digits.");
        lies(b, "a7", "a7");
        lies(b, "a0007", "a7");
        lies(b, "a1..0009", "a1..9");
        reads(b, "a", -1001);
        reads(b, "a,b1", -1001);
        reads(b, "a1..,b1", -1004);
        reads(b, "a00007", -1005);
        reads(b, "a1..00009", -1008);
        reads(b, "a/", -1001);
        reads(b, "a:", -1001);
        reads(b, "a1/", -1002);
        reads(b, "a1:", -1002);
    }

    private static void calendarBlanks(Boundaries b) {
        b.sentence(TERMS, "Blanks (32) are where one likes, not among digits, not between the two points.");
        lies(b, "  a  1  ..  2  ,  b  3  ", "a1..2,b3");
        lies(b, "a1 ..2,b3", "a1..2,b3");
        lies(b, "a1.. 2,b3", "a1..2,b3");
        reads(b, " a1", 1);
        reads(b, "a 1", 1);
        reads(b, "a1 ", 1);
        reads(b, "a1..2 ", 1);
        reads(b, "a1 0", -1003);
        reads(b, "a1.. 1 0", -1007);
        reads(b, "a1. .2", -1003);
        reads(b, "a1. ", -1003);
        for (char sign : new char[] {31, 33, 9, 10, 0, 160}) {
            reads(b, sign + "a1", -1000);
            reads(b, "a" + sign + "1", -1001);
            reads(b, "a1" + sign, -1002);
        }
    }

    private static void calendarFaults(Boundaries b) {
        b.sentence(TERMS, "FAULTS, the first byte from the left that is wrong (the end: at the length)");
        reads(b, "g1,h2", -1000);
        reads(b, "a1,h2,g", -1003);
        reads(b, "a1080,g1", -2001);
        reads(b, "a1;b1080", -1002);
        reads(b, "a5..4,b1080", -2004);
        reads(b, " ", -1001);
        reads(b, "   ", -1003);
        reads(b, "a", -1001);
        reads(b, "a  ", -1003);
        reads(b, "a1.", -1003);
        reads(b, "a1..", -1004);
        reads(b, "a1..  ", -1006);
        reads(b, "a1,", -1003);
        reads(b, " ".repeat(160), -1160);
        reads(b, " ".repeat(159) + "a", -1160);
        reads(b, " ".repeat(159) + "x", -1159);
        b.sentence(TERMS, "of one byte the least");
        reads(b, "a1 1080", -1003);
        reads(b, "1080", -1000);
        reads(b, "a5..6 4", -1006);
        b.sentence(TERMS, "1 it can't stand there (a fifth digit, too)");
        reads(b, "?", -1000);
        reads(b, "aa1", -1001);
        reads(b, "a1a", -1002);
        reads(b, "a00000", -1005);
        reads(b, "a00010", -1005);
        reads(b, "a1..00010", -1008);
        b.sentence(TERMS, "2 a number that is no DAY, or is ahead of the one it must not be ahead of, at its first "
            + "digit, told when its digits end");
        reads(b, "a1079", 1);
        reads(b, "a1080", -2001);
        reads(b, "a9999", -2001);
        reads(b, "a  1080  ", -2003);
        reads(b, "a5..1079", 1);
        reads(b, "a5..1080", -2004);
        reads(b, "a1079..1079", 1);
        reads(b, "a1079..1078", -2007);
        reads(b, "a5..  4", -2006);
        reads(b, "a0..0", 1);
        reads(b, "a1..0", -2004);
        reads(b, "a1080..5", -2001);
        reads(b, "a1080x", -2001);
        reads(b, "a5..4x", -2004);
        reads(b, "a10800", -1005);
        reads(b, "a5..10800", -1008);
        reads(b, "a99999", -1005);
        reads(b, "b1,a1080", -2004);
        reads(b, " ".repeat(155) + "a9999", -2156);
    }

    private static void window(Boundaries b) {
        LivingDays x = new LivingDays();
        b.sentence(TERMS, "==== 2. RULES of a LAND (none at first)");
        x.stay(0, 0, 1079);
        x.home(0, 0, 1079, true);
        b.due("no window", x.overstays(0, 0, 1079, 0), 0);
        b.due("no rule", x.claims(0), 0);
        for (int what = 0; what < 5; what++) {
            b.due("told " + what, x.told(0, what), 0);
        }
        b.sentence(TERMS, "WINDOW: of any w DAYS one behind the other (1 to 360) at most m (0 to w) may be there");
        b.due("w 1, m 1", x.window(0, 1, 1), 0);
        b.due("one day of one may be there", x.count(2), 0);
        b.due("w 1, m 0", x.window(0, 1, 0), 1);
        b.due("none may be there", x.count(2), 1080);
        b.due("w 360, m 360", x.window(0, 360, 360), 1);
        b.due("360 of 360 may be there", x.count(2), 0);
        b.due("w 360, m 359", x.window(0, 360, 359), 360);
        b.due("the 360th is one too many", x.overstays(0, 0, 1079, 1), 359);
        b.due("each from it on", x.count(2), 1080 - 359);
        b.due("w 361", x.window(0, 361, 0), -1);
        b.due("m -1", x.window(0, 1, -1), -1);
        b.due("m above w", x.window(0, 359, 360), -1);
        b.sentence(TERMS, "else on each DAY that is there, with which the w DAYS that end with it (fewer at the "
            + "beginning) have more than m, one OVERSTAYS");
        x = new LivingDays();
        Texts.lay(x, "a0..4,a10");
        x.window(0, 8, 5);
        b.due("m of them", x.count(2), 0);
        x.window(0, 8, 4);
        b.due("more, fewer days at the beginning", x.overstays(0, 0, 1079, 1), 4);
        b.due("not on days on which one is not there", x.count(2), 1);
        x.window(0, 10, 5);
        b.due("day 0 is no more of the ten", x.count(2), 0);
        x.window(0, 11, 5);
        b.due("day 0 is of the eleven", x.overstays(0, 0, 1079, 1), 10);
        x.window(0, 360, 0);
        b.due("day 0 by itself", x.overstays(0, 0, 0, 0), 1);
    }

    private static void byDays(Boundaries b) {
        b.sentence(TERMS, "BY DAYS: n or more DAYS of a YEAR (1 to 360)");
        LivingDays x = new LivingDays();
        b.due("n 1", x.rule(0, 0, 1), 0);
        b.due("n 0 is none", x.rule(1, 0, 0), 0);
        b.due("n 361", x.rule(0, 0, 361), -1);
        b.due("no day", x.claims(0), 0);
        x.stay(0, 360, 719);
        b.due("the first day of the year behind is not of it", x.claims(0), 0);
        x.stay(0, 359, 359);
        b.due("the last day of it", x.claims(0), 1);
        x.rule(0, 0, 360);
        b.due("all days", x.claims(1), 1);
        x.stay(-1, 719, 719);
        b.due("one is lacking", x.claims(1), 0);
        x.rule(0, 0, 359);
        b.due("n of them", x.claims(1), 1);
    }

    private static void byTheMean(Boundaries b) {
        b.sentence(TERMS, "BY THE MEAN: n (1 to 360): at least 31 DAYS of the YEAR");
        LivingDays x = new LivingDays();
        b.due("n 1", x.rule(0, 1, 1), 0);
        x.stay(0, 0, 29);
        b.due("30 days", x.holds(0, 0), 0);
        x.stay(0, 0, 30);
        b.due("31 days", x.holds(0, 0), 2);
        x.stay(0, 0, 389);
        b.due("30 days behind a whole year", x.holds(0, 1), 0);
        x.stay(0, 0, 390);
        b.due("31 days behind a whole year", x.holds(0, 1), 2);
        b.sentence(TERMS, ", and 6 times the DAYS of the YEAR, 2 times those of the YEAR ahead, those of the YEAR "
            + "ahead of that, together 6 n or more (there are none ahead of YEAR 0)");
        x = new LivingDays();
        x.rule(0, 1, 50);
        Texts.lay(x, "a0..1,a360..388,a720..759");
        b.due("240 and 58 and 2", x.holds(0, 2), 2);
        x.rule(0, 1, 51);
        b.due("300 are not 306", x.holds(0, 2), 0);
        x.rule(0, 1, 50);
        x.stay(-1, 0, 0);
        b.due("299", x.holds(0, 2), 0);
        x.stay(-1, 1, 1);
        x.stay(0, 389, 389);
        b.due("240 and 60", x.holds(0, 2), 2);
        Texts.lay(x, "-0..1079,a330..359,a360..399,a720..1079");
        b.due("year 1: 240 and 60, none of the year behind", x.holds(0, 1), 2);
        x.stay(-1, 330, 330);
        b.due("year 1: 298", x.holds(0, 1), 0);
        Texts.lay(x, "-0..1079,a0..49,a720..1079");
        b.due("year 0: 300", x.holds(0, 0), 2);
        Texts.lay(x, "-0,a360..1079");
        b.due("year 0: 294, years behind do not count", x.holds(0, 0), 0);
        x.stay(0, 0, 1079);
        x.rule(0, 1, 360);
        b.due("n 360 in year 0", x.holds(0, 0), 2);
        b.due("n 360 in year 2", x.holds(0, 2), 2);
        x.stay(-1, 0, 0);
        b.due("2154 are not 2160", x.holds(0, 0), 0);
        b.due("n 361", x.rule(0, 1, 361), -1);
    }

    private static void byHome(Boundaries b) {
        b.sentence(TERMS, "BY HOME: a HOME there on n DAYS or more of the YEAR (1 to 360), and one DAY at least "
            + "there in it");
        LivingDays x = new LivingDays();
        x.rule(0, 2, 10);
        x.stay(0, 359, 359);
        x.home(0, 350, 400, true);
        b.due("ten homes, one day", x.holds(0, 0), 4);
        b.due("no day there", x.holds(0, 1), 0);
        x.home(0, 350, 350, false);
        b.due("nine homes of the year", x.holds(0, 0), 0);
        x.home(0, 0, 719, true);
        x.stay(0, 360, 360);
        x.stay(-1, 359, 359);
        b.due("the day there is of the year behind", x.holds(0, 0), 0);
        x.rule(0, 2, 360);
        b.due("n 360", x.holds(0, 1), 4);
        x.home(0, 719, 719, false);
        b.due("359 homes", x.holds(0, 1), 0);
        x.rule(0, 2, 1);
        x.home(0, 361, 719, false);
        b.due("n 1", x.holds(0, 1), 4);
        x.home(0, 360, 360, false);
        b.due("no home", x.holds(0, 1), 0);
        b.due("n 361", x.rule(0, 2, 361), -1);
    }

    private static void claims(Boundaries b) {
        b.sentence(TERMS, "A LAND CLAIMS one in a YEAR, if one of BY DAYS, BY THE MEAN, BY HOME is told of it and "
            + "holds.");
        LivingDays x = new LivingDays();
        for (int land = 0; land < 4; land++) {
            x.stay(land, 40 * land, 40 * land + 39);
            x.home(land, 0, 99, true);
        }
        x.rule(0, 0, 40);
        x.rule(1, 1, 40);
        x.rule(2, 2, 100);
        b.due("one is enough, none told is none", x.claims(0), 7);
        for (int land = 0; land < 3; land++) {
            x.rule(land, (land + 1) % 3, 360);
        }
        b.due("another that does not hold is no hindrance", x.claims(0), 7);
        b.due("none holds in another year", x.claims(2), 0);
    }

    private static void order(Boundaries b) {
        b.sentence(TERMS, "ORDER of a LAND: a row of 0 to 4 unlike letters of h, c, d, n (hcdn at first).");
        LivingDays x = new LivingDays();
        b.due("four letters at first", x.told(5, 7), 4);
        for (int k = 0; k < 4; k++) {
            b.due("at first letter " + k, x.told(5, 8 + k), k);
        }
        b.due("no letter", Texts.setOrder(x, 5, ""), true);
        b.due("none is told", x.told(5, 7), 0);
        b.due("four letters", Texts.setOrder(x, 5, "ndch"), true);
        b.due("like letters", Texts.setOrder(x, 5, "hcdh"), false);
        for (char sign : new char[] {'g', 'i', 'b', 'e', 'm', 'o', 'H', 'N', 0, 255}) {
            b.due("the letter " + (int) sign, Texts.setOrder(x, 5, "" + sign), false);
        }
        b.due("a fifth", Texts.setOrder(x, 5, "hcdnh"), false);
        b.due("it is still told", x.told(5, 8), 3);
        b.sentence(TERMS, "A TREATY of two LANDS: a row of such letters by which both ANSWER against each other, "
            + "in place of their ORDERS.");
        x = new LivingDays();
        Texts.lay(x, "a0..9,b10..14,c20");
        x.home(1, 0, 0, true);
        Texts.setOrder(x, 0, "d");
        b.due("a by its own", x.answers(0, 1, 0), 0);
        b.due("b by its own", x.answers(1, 0, 0), 1);
        Texts.setTreaty(x, 0, 1, "d");
        b.due("both by the treaty", x.answers(1, 0, 0), 0);
        Texts.setTreaty(x, 0, 1, "h");
        b.due("both by the treaty that is told later", x.answers(0, 1, 0), 1);
        Texts.setTreaty(x, 0, 1, "");
        b.due("an empty one is one", x.answers(0, 1, 0), -2);
        b.due("an empty one is one", x.answers(1, 0, 0), -2);
        b.due("against a third by orders", x.answers(0, 2, 0), 0);
        b.due("against a third by orders", x.answers(1, 2, 0), 1);
    }

    private static void letters(Boundaries b) {
        b.sentence(TERMS, "How LAND a ANSWERS against LAND b in a YEAR: letter by letter of the ORDER of a (or of "
            + "their TREATY, if there is one)");
        LivingDays x = new LivingDays();
        x.home(0, 0, 0, true);
        x.centre(1, 0, 0);
        Texts.setOrder(x, 1, "ch");
        b.due("by a's", x.answers(0, 1, 0), 0);
        b.due("by b's", x.answers(1, 0, 0), 1);
        b.due("of the year alone", x.answers(0, 1, 1), -2);
        b.sentence(TERMS, "h: more DAYS with a HOME in the one than in the other");
        x = new LivingDays();
        x.home(0, 0, 9, true);
        x.home(1, 350, 360, true);
        b.due("like many", x.answers(0, 1, 0), -2);
        x.home(1, 349, 349, true);
        b.due("one more", x.answers(0, 1, 0), 1);
        b.due("in the year behind", x.answers(0, 1, 1), 1);
        b.sentence(TERMS, "c: more DAYS with THE CENTRE in the one");
        x = new LivingDays();
        x.centre(2, 700, 719);
        x.centre(3, 720, 739);
        x.centre(3, 360, 379);
        b.due("like many", x.answers(2, 3, 1), -2);
        x.centre(-1, 379, 379);
        b.due("one more", x.answers(3, 2, 1), 2);
        b.sentence(TERMS, "d: more DAYS in the one");
        x = new LivingDays();
        Texts.lay(x, "e710..729,f730..739");
        b.due("like many", x.answers(4, 5, 2), -2);
        x.stay(5, 740, 740);
        b.due("one more", x.answers(4, 5, 2), 5);
        b.sentence(TERMS, "n: only one of both is in NATION");
        b.due("none of both", x.answers(0, 1, 0), -2);
        x.nation(1, true);
        b.due("one", x.answers(0, 1, 0), 1);
        x.nation(0, true);
        b.due("both", x.answers(0, 1, 0), -2);
        b.sentence(TERMS, "the first that tells which; none does: nobody.");
        x = new LivingDays();
        x.home(0, 0, 0, true);
        x.centre(1, 0, 0);
        x.stay(0, 0, 0);
        x.nation(1, true);
        String[] rows = {"hcdn", "cdnh", "dnhc", "nhcd", ""};
        int[] answers = {0, 1, 0, 1, -2};
        for (int k = 0; k < rows.length; k++) {
            Texts.setOrder(x, 0, rows[k]);
            b.due("by <" + rows[k] + ">", x.answers(0, 1, 0), answers[k]);
        }
        Texts.setOrder(x, 3, "hcdn");
        b.due("no letter of four tells", x.answers(3, 4, 0), -2);
        b.sentence(TERMS, "TWO LANDS AGREE, if they ANSWER the same (both nobody, too).");
        x = new LivingDays();
        x.rule(0, 0, 1);
        x.rule(1, 0, 1);
        Texts.lay(x, "a0,b1");
        b.due("both nobody", x.pairs(0, 1), 0);
        x.nation(0, true);
        b.due("both the one", x.pairs(0, 1), 0);
        Texts.setOrder(x, 1, "");
        b.due("one of them nobody", x.pairs(0, 1), 1);
    }

    private static void lives(Boundaries b) {
        b.sentence(TERMS, "LIVES in a YEAR: of all that CLAIM one that LAND against which no other one that CLAIMS "
            + "has an ANSWER, of itself or of the other, but this LAND (that is: each other one and it ANSWER "
            + "both: this one)");
        LivingDays x = new LivingDays();
        Texts.lay(x, "a0..9,b10..14,c15..300");
        x.rule(0, 0, 1);
        x.rule(1, 0, 1);
        b.due("both answer a; c claims not", x.lives(0), 0);
        Texts.setOrder(x, 1, "");
        b.due("b answers nobody", x.lives(0), -2);
        Texts.setOrder(x, 1, "d");
        Texts.setOrder(x, 0, "");
        b.due("a answers nobody", x.lives(0), -2);
        Texts.setOrder(x, 0, "d");
        x.nation(1, true);
        Texts.setOrder(x, 1, "nd");
        b.due("b answers b", x.lives(0), -2);
        x.rule(2, 0, 1);
        x.nation(2, true);
        b.due("against c both answer c, how a and b answer is no matter", x.lives(0), 2);
        b.sentence(TERMS, "if just one CLAIMS, that one; none else.");
        x = new LivingDays();
        b.due("none claims", x.lives(0), -2);
        x.stay(5, 719, 719);
        x.rule(5, 0, 1);
        Texts.setOrder(x, 5, "");
        b.due("just one", x.lives(1), 5);
        b.due("not in the year behind", x.lives(2), -2);
        x.stay(4, 718, 718);
        x.rule(4, 0, 1);
        Texts.setOrder(x, 4, "");
        b.due("two that answer nobody", x.lives(1), -2);
    }

    private static void split(Boundaries b) {
        b.sentence(TERMS, "==== 3. SPLIT of a LAND that CLAIMS one in a YEAR: FROM: the first DAY of the YEAR, but "
            + "if it did not CLAIM one in the YEAR ahead (or there is none) the first DAY of the YEAR on which one "
            + "is there, or has a HOME there");
        LivingDays x = new LivingDays();
        Texts.lay(x, "a5..30,a365..380,b385..400,b725..740,a1079");
        x.rule(0, 0, 1);
        x.rule(1, 0, 1);
        b.due("there is no year ahead", x.split(0, 0, 0), 5);
        b.due("it claimed in the year ahead", x.split(0, 1, 0), 360);
        b.due("it did not", x.split(1, 1, 0), 385);
        x.home(1, 359, 359, true);
        b.due("a home of the year ahead", x.split(1, 1, 0), 385);
        x.home(2, 360, 360, true);
        b.due("a home in another land", x.split(1, 1, 0), 385);
        x.home(1, 384, 384, true);
        b.due("a home ahead of the first day there", x.split(1, 1, 0), 384);
        x.home(1, 360, 360, true);
        b.due("a home on the first day of the year", x.split(1, 1, 0), 360);
        x.stay(0, 0, 0);
        b.due("there on the first day", x.split(0, 0, 0), 0);
        x.rule(0, 0, 17);
        b.due("it does not claim", x.split(0, 1, 0), -2);
        x.rule(3, 0, 1);
        x.stay(3, 1079, 1079);
        b.due("there on the last day alone", x.split(3, 2, 0), 1079);
        b.sentence(TERMS, "TILL: the last DAY of the YEAR, but if it does not CLAIM one in the YEAR behind (or "
            + "there is none) the last DAY of the YEAR on which one is there, or has a HOME there");
        b.due("there is no year behind", x.split(1, 2, 1), 740);
        b.due("it claims in the year behind", x.split(1, 1, 1), 719);
        b.due("it does not", x.split(0, 0, 1), 30);
        x.home(0, 360, 360, true);
        b.due("a home of the year behind", x.split(0, 0, 1), 30);
        x.home(0, 31, 31, true);
        b.due("a home behind the last day there", x.split(0, 0, 1), 31);
        x.home(0, 359, 359, true);
        b.due("a home on the last day of the year", x.split(0, 0, 1), 359);
        x.stay(1, 1079, 1079);
        b.due("there on the last day", x.split(1, 2, 1), 1079);
        x.rule(4, 0, 1);
        x.stay(4, 720, 720);
        b.due("there on the first day alone", x.split(4, 2, 1), 720);
    }

    private static void free(Boundaries b) {
        b.sentence(TERMS, "FREE of a LAND in n DAYS from DAY d on (as many as there are)");
        LivingDays x = new LivingDays();
        b.due("360 are", x.free(0, 720, 360), 360);
        b.due("359 are", x.free(0, 721, 360), 359);
        b.due("one is", x.free(0, 1079, 360), 1);
        b.sentence(TERMS, "DAY by DAY, from d on, one on which one is not there is made one there, if by it one "
            + "OVERSTAYS there on no DAY (of all) on which one did not ahead of it, else it stays as it is");
        x.window(0, 10, 4);
        b.due("up to m", x.free(0, 0, 4), 4);
        b.due("no more than m", x.free(0, 0, 10), 4);
        b.due("again, when the first is out of the window", x.free(0, 0, 11), 5);
        b.due("and so on", x.free(0, 0, 12), 6);
        x = new LivingDays();
        x.window(0, 3, 1);
        x.stay(0, 12, 12);
        b.due("out of the window of a day behind", x.free(0, 9, 1), 1);
        b.due("in the window of a day behind, that is none of the n", x.free(0, 10, 1), 0);
        b.due("in the window of a day ahead of d", x.free(0, 14, 1), 0);
        b.due("out of it", x.free(0, 15, 1), 1);
        x.window(0, 5, 2);
        Texts.lay(x, "-0..1079,a10,a14");
        b.due("a day behind has both ends of its window", x.free(0, 12, 1), 0);
        Texts.lay(x, "-10,a9");
        b.due("a day behind has one end of its window", x.free(0, 12, 1), 1);
        Texts.lay(x, "-9,-14,a15");
        b.due("two more in the window of a day behind", x.free(0, 11, 2), 1);
        b.due("a third, when the first is out of it", x.free(0, 10, 3), 2);
        x.window(0, 3, 0);
        b.due("m 0", x.free(0, 100, 360), 0);
        x.window(0, 1, 1);
        b.due("w 1, m 1", x.free(0, 100, 360), 360);
        b.sentence(TERMS, "how many of these n DAYS are there then.");
        x.window(0, 3, 1);
        Texts.lay(x, "-0..1079,a12");
        b.due("a day there is one", x.free(0, 10, 5), 1);
        x.stay(0, 11, 13);
        b.due("days that overstay are there", x.free(0, 10, 5), 3);
        b.due("none but these n", x.free(0, 10, 3), 2);
    }

    private static void leaveAndCome(Boundaries b) {
        b.sentence(TERMS, "MUST LEAVE: were one in a LAND on each DAY from d on: the first DAY from d on on which "
            + "one OVERSTAYS there.");
        LivingDays x = new LivingDays();
        x.window(0, 10, 4);
        b.due("the fifth day", x.mustLeave(0, 0), 4);
        b.due("the last day of all", x.mustLeave(0, 1075), 1079);
        b.due("none is left", x.mustLeave(0, 1076), -2);
        x.stay(0, 0, 5);
        b.due("days ahead of d on which one overstays", x.mustLeave(0, 100), 104);
        b.due("on d itself", x.mustLeave(0, 11), 11);
        b.due("just not on d", x.mustLeave(0, 12), 16);
        b.sentence(TERMS, "MAY COME for n DAYS: the first DAY t from d on for which, were one there from t to (t "
            + "and n less 1; to 1079, if that is above), one would OVERSTAY there on none of these.");
        x = new LivingDays();
        x.window(0, 10, 4);
        Texts.lay(x, "a0..3,a20..23");
        b.due("for one", x.mayCome(0, 4, 1), 10);
        b.due("for four", x.mayCome(0, 4, 4), 10);
        b.due("from d itself", x.mayCome(0, 14, 4), 14);
        b.due("days behind may overstay then", x.mayCome(0, 16, 4), 16);
        b.due("for five: only to 1079", x.mayCome(0, 100, 5), 1076);
        b.due("from 1079 on", x.mayCome(0, 1079, 360), 1079);
        x.stay(0, 1070, 1073);
        b.due("on none", x.mayCome(0, 1074, 1), -2);
    }

    private static void need(Boundaries b) {
        b.sentence(TERMS, "NEED of a LAND in a YEAR: the fewest more DAYS of the YEAR there by which it would "
            + "CLAIM one (HOMES as they are).");
        LivingDays x = new LivingDays();
        x.rule(0, 0, 360);
        b.due("all", x.need(0, 0), 360);
        x.stay(0, 0, 358);
        b.due("one", x.need(0, 0), 1);
        x.stay(0, 0, 359);
        b.due("it claims", x.need(0, 0), 0);
        x.rule(1, 2, 5);
        x.home(1, 0, 3, true);
        b.due("four homes", x.need(1, 0), -2);
        x.home(1, 0, 4, true);
        b.due("five homes", x.need(1, 0), 1);
        x.rule(1, 0, 1);
        x.rule(1, 1, 1);
        b.due("of several the fewest", x.need(1, 1), 1);
    }

    private static void owed(Boundaries b) {
        b.sentence(TERMS, "TAX of a LAND: 0 to 60 hundredths (0 at first).");
        LivingDays x = new LivingDays();
        b.due("at first", x.told(3, 5), 0);
        b.due("60", x.tax(3, 60), 0);
        b.due("61", x.tax(3, 61), -1);
        b.due("-1", x.tax(3, -1), -1);
        b.due("0", x.tax(3, 0), 60);
        b.sentence(TERMS, "OWED in a YEAR: each DAY of it brings 100 pence; taxed at TAX of the LAND where one "
            + "LIVES in the YEAR, if there is one and the DAY is not ahead of FROM, not behind TILL of it; else at "
            + "TAX of the LAND where one is on that DAY (nowhere: 0).");
        x = new LivingDays();
        x.stay(5, 360, 719);
        x.tax(5, 60);
        b.due("a whole year", x.owed(1), 21600);
        b.due("nowhere", x.owed(0), 0);
        x.tax(5, 1);
        b.due("one hundredth", x.owed(1), 360);
        x = new LivingDays();
        Texts.lay(x, "b99,a100..109,b110..119,a120..129,b130,-131..135,b136");
        x.tax(0, 10);
        x.tax(1, 60);
        b.due("where one is", x.owed(0), 20 * 10 + 13 * 60);
        x.rule(0, 0, 20);
        b.due("from FROM to TILL, both too", x.owed(0), 30 * 10 + 3 * 60);
        x.home(0, 99, 99, true);
        x.home(0, 131, 131, true);
        b.due("nowhere is taxed in between", x.owed(0), 33 * 10 + 60);
        x.tax(0, 0);
        b.due("TAX 0 where one lives", x.owed(0), 60);
    }

    private static void memory(Boundaries b) {
        b.sentence(TERMS, "All memory is the calendar's own.");
        LivingDays x = new LivingDays();
        LivingDays y = new LivingDays();
        x.stay(0, 0, 1079);
        x.window(0, 5, 5);
        x.feed(1, 2, 3, 4, 5);
        x.keep();
        b.due("days", y.count(0), 0);
        b.due("tape", y.count(4), 0);
        b.due("window", y.told(0, 0), 0);
        b.due("states", y.undo(), -1);
        y.stay(1, 0, 0);
        b.due("its own days", x.at(0, 0), 0);
    }

    private static void refused(Boundaries b) {
        b.sentence(TERMS, "A call that is refused (NONE, -2 to -9, false) changes nothing but the tape, where it "
            + "is told.");
        b.leaves("NONE", -1, x -> x.stay(6, 0, 1079));
        b.leaves("-2", -2, x -> x.mustLeave(3, 0));
        b.leaves("-2", -2, x -> x.split(3, 0, 0));
        b.leaves("false", 0, x -> Boundaries.bit(x.nation(1, true)));
        b.leaves("false", 0, x -> Boundaries.bit(x.without(0, 1)));
        b.leavesAllButTheTape("false with the tape", 0, x -> Boundaries.bit(x.order(0, 1)));
        b.leavesAllButTheTape("a fault with the tape", -1001, x -> x.calendar(1));
    }

    private static void reasons(Boundaries b) {
        b.sentence(TERMS, "Of several reasons NONE comes first, then -2, and so on.");
        LivingDays x = new LivingDays();
        b.due("no land, not so many letters", x.told(6, 8), -1);
        b.due("no what, not so many stays", x.nth(0, 5, 3), -1);
        b.due("no what, none not there", x.away(0, 2), -1);
        b.due("no year, no partner", x.together(3, 0), -1);
        b.due("no what, no partner", x.together(0, 4), -1);
        b.due("no year, it claims not", x.wins(0, 3), -1);
        b.due("no what, it claims not", x.split(0, 0, 3), -1);
        b.due("no day, nobody lives", x.moved(1080, 0), -1);
        b.due("no year, no need", x.need(0, 3), -1);
        b.due("no day, none to leave on", x.mustLeave(0, 1080), -1);
        b.due("no n, none to come on", x.mayCome(0, 0, 361), -1);
        b.due("no year, no nearest", x.nearest(-1, 0), -1);
        b.due("a is b, nobody answers", x.answers(2, 2, 0), -1);
        b.due("a is b, nobody lives", x.instead(2, 2, 0, 0, 0), -1);
        b.due("greatest numbers", x.nth(MAX_VALUE, MAX_VALUE, MIN_VALUE), -1);
        Texts.feed(x, "x");
        b.due("no what, a fault", x.trip(1, 5), -1);
        b.due("the tape stays then", x.count(4), 20);
    }
}

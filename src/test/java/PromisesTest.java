/** Each promise by hand: ordinary inputs, the edges that the document names, wrong inputs. */
public final class PromisesTest {
    private static final int MIN = Integer.MIN_VALUE;
    private static final int MAX = Integer.MAX_VALUE;
    private static final Checks CHECKS = new Checks("PromisesTest");

    public static void main(String[] args) {
        newObject();
        feed();
        calendar();
        calendarFaults();
        stay();
        home();
        centre();
        nation();
        drawn();
        at();
        letter();
        window();
        rule();
        order();
        entries();
        entered();
        treaty();
        without();
        tax();
        told();
        days();
        month();
        within();
        overstays();
        nth();
        away();
        travels();
        most();
        tight();
        rank();
        slide();
        trade();
        erase();
        routes();
        latest();
        wins();
        partner();
        together();
        claims();
        holds();
        answers();
        by();
        lives();
        pairs();
        split();
        owed();
        free();
        mustLeave();
        mayCome();
        claimBy();
        freest();
        need();
        moved();
        loose();
        nearest();
        instead();
        trip();
        cheapest();
        count();
        keepAndUndo();
        CHECKS.end();
    }

    private static void due(String call, long got, long want) {
        CHECKS.due(call, got, want);
    }

    private static void due(String call, boolean got, boolean want) {
        CHECKS.due(call, got, want);
    }

    private static void dueText(String what, LivingDays x, String want) {
        String got = Texts.read(x);
        if (!got.equals(want)) {
            CHECKS.fault(what + ": the calendar is \"" + got + "\", due is \"" + want + "\"");
        }
    }

    private static void newObject() {
        LivingDays x = new LivingDays();
        due("NONE", LivingDays.NONE, -1);
        for (int day : new int[] {0, 500, 1079}) {
            due("at 0 of a new one", x.at(day, 0), -2);
            due("at 1 of a new one", x.at(day, 1), -2);
            due("at 2 of a new one", x.at(day, 2), 0);
        }
        int[] told = {0, 0, 0, 0, 0, 0, 0, 4, 0, 1, 2, 3};
        for (int land = 0; land < 6; land++) {
            for (int what = 0; what < told.length; what++) {
                due("told of a new one", x.told(land, what), told[what]);
            }
            due("entries of a new one", x.entries(land, 0), 0);
            due("without of a new one", x.without(land, (land + 1) % 6), false);
        }
        for (int what = 0; what < 6; what++) {
            due("count of a new one", x.count(what), 0);
        }
        due("together of a new one", x.together(0, 0), -2);
        due("undo of a new one", x.undo(), -1);
    }

    private static void feed() {
        LivingDays x = new LivingDays();
        due("feed", x.feed(0x61302e2e, 0x392c6231, 0x302c2d35, 0x2020ff80, 0x7fffffff), 20);
        due("count(4)", x.count(4), 20);
        due("the bytes, the highest first", x.calendar(12), 3);
        dueText("fed", x, "a0..4,a6..9,b10");
        due("tape is empty behind a calendar", x.count(4), 0);
        x = new LivingDays();
        for (int k = 1; k <= 16; k++) {
            due("feed to 320", x.feed(-1, -1, -1, -1, -1), 20 * k);
        }
        due("feed beyond 320", x.feed(0, 0, 0, 0, 0), -1);
        due("the tape stays", x.count(4), 320);
        due("a byte of 255 can't stand first", x.calendar(160), -1000);
        due("feed again", x.feed(0, 0, 0, 0, 0), 20);
    }

    private static void calendar() {
        LivingDays x = new LivingDays();
        due("no tape", x.calendar(1), -1);
        Texts.feed(x, "a0..9,b5");
        due("n 0", x.calendar(0), -1);
        due("n 161", x.calendar(161), -1);
        due("n above the tape", x.calendar(21), -1);
        due("n least", x.calendar(MIN), -1);
        due("n greatest", x.calendar(MAX), -1);
        due("the tape stays", x.count(4), 20);
        due("stays", x.calendar(8), 2);
        due("tape is empty", x.count(4), 0);
        dueText("a later stay counts", x, "a0..4,b5,a6..9");
        due("nowhere", Texts.lay(x, "-3..6"), 1);
        dueText("nowhere lies over", x, "a0..2,a7..9");
        due("first and last day", Texts.lay(x, "f1079,e0000"), 2);
        dueText("first and last", x, "e0,a1..2,a7..9,f1079");
        due("blanks", Texts.lay(x, "  b 20 .. 0030 ,c  40  "), 2);
        dueText("blanks are nothing", x, "e0,a1..2,a7..9,b20..30,c40,f1079");
        due("one day in two points", Texts.lay(x, "d50..50"), 1);
        due("at 50", x.at(50, 0), 3);
        StringBuilder most = new StringBuilder("a0");
        for (int k = 1; k < 53; k++) {
            most.append(k % 2 == 0 ? ",a" : ",b").append(k % 10);
        }
        most.append("  ");
        due("160 bytes, 53 stays", Texts.lay(x, most.substring(0, 160)), 53);
    }

    private static void calendarFaults() {
        String[] texts = {"", " ", "g1", "A1", "1", ",", "a", "a ", "a,", "a1,", "a1,,", "a1 2", "a1b2", "a12345",
            "a00001", "a1079", "a1080", "a9999", "a9999x", "a1080,g", "a5..4", "a5..4x", "a5..5", "a5..1080",
            "a5..10800", "a5.", "a5.6", "a5. .6", "a5...6", "a5..", "a5.. ", "a5..6..7", "a5..6 7", "a 5 .. 6 , b",
            "--5", "-5..6", "a-5", "a5;", "b2..1,g", "g2..1", "a1080..5", "a1,b2,c3,d1080", "a\t1", "a1\n"};
        int[] answers = {0, -1001, -1000, -1000, -1000, -1000, -1001, -1002, -1001, -1003, -1003, -1003, -1002,
            -1005, -1005, 1, -2001, -2001, -2001, -2001, -2004, -2004, 1, -2004, -1008, -1003, -1003, -1003,
            -1004, -1004, -1005, -1005, -1006, -1012, -1001, 1, -1001, -1002, -2004, -1000, -2001, -2010, -1001,
            -1002};
        for (int k = 1; k < texts.length; k++) {
            LivingDays x = new LivingDays();
            x.stay(2, 700, 800);
            due("the text \"" + texts[k] + "\"", Texts.lay(x, texts[k]), answers[k]);
            due("tape is empty behind it", x.count(4), 0);
            if (answers[k] < 0) {
                dueText("all stays behind \"" + texts[k] + "\"", x, "c700..800");
            }
            due("a trip of \"" + texts[k] + "\"", Texts.plan(x, texts[k], 4), answers[k] < 0 ? answers[k] : 0);
        }
    }

    private static void stay() {
        LivingDays x = new LivingDays();
        due("stay", x.stay(0, 10, 19), 10);
        due("stay over it", x.stay(1, 15, 24), 10);
        due("the same again", x.stay(1, 14, 24), 1);
        due("nowhere", x.stay(-1, 0, 1079), 15);
        due("all", x.stay(5, 0, 1079), 1080);
        for (int[] bad : new int[][] {{6, 0, 0}, {-2, 0, 0}, {0, -1, 0}, {0, 0, 1080}, {0, 5, 4}, {MIN, 0, 0},
            {0, MIN, 0}, {0, 0, MAX}, {0, 1080, 1080}}) {
            due("a bad stay", x.stay(bad[0], bad[1], bad[2]), -1);
        }
        dueText("refused calls change nothing", x, "f0..1079");
    }

    private static void home() {
        LivingDays x = new LivingDays();
        due("home", x.home(0, 0, 9, true), 10);
        due("home again", x.home(0, 5, 14, true), 5);
        due("home in another", x.home(3, 9, 9, true), 1);
        due("homes", x.at(9, 2), 9);
        due("no home", x.home(0, 9, 100, false), 6);
        due("homes left", x.at(9, 2), 8);
        due("none told", x.home(5, 0, 1079, false), 0);
        due("home of nowhere", x.home(-1, 0, 1, true), -1);
        due("land 6", x.home(6, 0, 1, true), -1);
        due("days turned", x.home(0, 2, 1, true), -1);
        due("day 1080", x.home(0, 0, 1080, true), -1);
        due("day -1", x.home(0, -1, 0, true), -1);
        due("one is nowhere", x.count(0), 0);
    }

    private static void centre() {
        LivingDays x = new LivingDays();
        due("centre", x.centre(2, 0, 99), 100);
        due("centre moves", x.centre(4, 90, 109), 20);
        due("at", x.at(95, 1), 4);
        due("none", x.centre(-1, 0, 1079), 110);
        due("at none", x.at(95, 1), -2);
        due("none again", x.centre(-1, 0, 1079), 0);
        due("land 6", x.centre(6, 0, 1), -1);
        due("land -2", x.centre(-2, 0, 1), -1);
        due("turned", x.centre(0, 1, 0), -1);
        due("1080", x.centre(0, 0, 1080), -1);
    }

    private static void nation() {
        LivingDays x = new LivingDays();
        due("not in it", x.nation(1, false), false);
        due("in", x.nation(1, true), true);
        due("in already", x.nation(1, true), false);
        due("another", x.nation(5, true), true);
        due("bits", x.count(1), 34);
        due("out", x.nation(1, false), true);
        due("bits", x.count(1), 32);
        due("land 6", x.nation(6, true), false);
        due("land -1", x.nation(-1, true), false);
        due("land -1 out", x.nation(-1, false), false);
        due("bits stay", x.count(1), 32);
    }

    private static void drawn() {
        LivingDays x = new LivingDays();
        // X = 39022: 9755 modulo 7 is 4, land 3; then X = 61087: 15271 modulo 10 is 1, two days
        x.stay(0, 500, 600);
        x.home(1, 0, 3, true);
        x.centre(1, 0, 3);
        due("drawn", x.drawn(1, 1, 10), 2);
        dueText("one stay", x, "d0..1");
        due("homes stay", x.at(3, 2), 2);
        due("the centre stays", x.at(3, 1), 1);
        due("seed by 16 bits", x.drawn(1 + 65536 * 7, 1, 10), 2);
        dueText("the same", x, "d0..1");
        due("most 1", x.drawn(-1, 100, 1), 100);
        due("none is behind", x.at(100, 0), -2);
        due("to the end", x.drawn(12345, 100, 360), 1080);
        due("n 0", x.drawn(1, 0, 5), -1);
        due("n 101", x.drawn(1, 101, 5), -1);
        due("most 0", x.drawn(1, 1, 0), -1);
        due("most 361", x.drawn(1, 1, 361), -1);
        due("last", x.count(0) > 0, true);
    }

    private static void at() {
        LivingDays x = new LivingDays();
        x.stay(3, 7, 7);
        x.centre(5, 7, 7);
        x.home(0, 7, 7, true);
        x.home(5, 7, 7, true);
        due("where", x.at(7, 0), 3);
        due("centre", x.at(7, 1), 5);
        due("homes", x.at(7, 2), 33);
        due("the day behind", x.at(8, 0), -2);
        due("what 3", x.at(7, 3), -1);
        due("what -1", x.at(7, -1), -1);
        due("day -1", x.at(-1, 0), -1);
        due("day 1080", x.at(1080, 2), -1);
    }

    private static void letter() {
        LivingDays x = new LivingDays();
        due("how many of none", x.letter(-1), 0);
        due("none", x.letter(0), -2);
        due("below", x.letter(-2), -1);
        due("least", x.letter(MIN), -1);
        due("greatest", x.letter(MAX), -2);
        x.stay(0, 0, 0);
        x.stay(1, 1, 2);
        x.stay(1, 3, 9);
        x.stay(2, 99, 100);
        x.stay(5, 999, 1079);
        dueText("text", x, "a0,b1..9,c99..100,f999..1079");
        due("how many", x.letter(-1), 28);
        due("behind the last", x.letter(28), -2);
        Texts.alternate(x);
        due("the longest text", x.letter(-1), 10 * 3 + 90 * 4 + 900 * 5 + 80 * 6 - 1);
        due("its last byte", x.letter(5368), '9');
    }

    private static void window() {
        LivingDays x = new LivingDays();
        due("first", x.window(2, 180, 90), 0);
        due("was", x.window(2, 1, 1), 180);
        due("m 0", x.window(2, 360, 0), 1);
        due("told w", x.told(2, 0), 360);
        due("told m", x.told(2, 1), 0);
        for (int[] bad : new int[][] {{6, 1, 1}, {-1, 1, 1}, {0, 361, 1}, {0, -1, 0}, {0, 10, 11}, {0, 10, -1},
            {0, 0, 1}, {0, MIN, MIN}}) {
            due("a bad window", x.window(bad[0], bad[1], bad[2]), -1);
        }
        due("none", x.window(2, 0, 0), 360);
        due("told none", x.told(2, 0), 0);
        due("was none", x.window(2, 5, 5), 0);
    }

    private static void rule() {
        LivingDays x = new LivingDays();
        for (int sort = 0; sort < 3; sort++) {
            due("first", x.rule(4, sort, 100 + sort), 0);
        }
        for (int sort = 0; sort < 3; sort++) {
            due("was", x.rule(4, sort, 360), 100 + sort);
        }
        due("none", x.rule(4, 1, 0), 360);
        due("was none", x.rule(4, 1, 1), 0);
        due("n 361", x.rule(4, 1, 361), -1);
        due("n -1", x.rule(4, 1, -1), -1);
        due("sort 3", x.rule(4, 3, 1), -1);
        due("sort -1", x.rule(4, -1, 1), -1);
        due("land 6", x.rule(6, 0, 1), -1);
        due("land -1", x.rule(-1, 0, 1), -1);
        due("it stays", x.told(4, 3), 1);
    }

    private static void order() {
        LivingDays x = new LivingDays();
        due("no tape", x.order(0, 1), false);
        due("none of none", x.order(0, 0), true);
        due("empty order", x.told(0, 7), 0);
        due("no letter", x.told(0, 8), -2);
        due("order", Texts.setOrder(x, 0, "ndch"), true);
        for (int k = 0; k < 4; k++) {
            due("letter", x.told(0, 8 + k), 3 - k);
        }
        due("tape is empty", x.count(4), 0);
        due("others", Texts.setOrder(x, 0, "hx"), false);
        due("tape is empty", x.count(4), 0);
        due("great letter", Texts.setOrder(x, 0, "H"), false);
        due("twice one", Texts.setOrder(x, 0, "hch"), false);
        due("order stays", x.told(0, 7), 4);
        Texts.feed(x, "hc");
        due("n 5", x.order(0, 5), false);
        due("n -1", x.order(0, -1), false);
        due("land 6", x.order(6, 2), false);
        due("land -1", x.order(-1, 2), false);
        due("tape stays", x.count(4), 20);
        due("n 0 empties", x.order(1, 0), true);
        due("tape is empty", x.count(4), 0);
        Texts.feed(x, "cxh");
        due("the first alone", x.order(2, 1), true);
        due("its letter", x.told(2, 8), 1);
        due("how many", x.told(2, 7), 1);
        due("another land's", x.told(3, 7), 4);
    }

    private static void entries() {
        LivingDays x = new LivingDays();
        due("first", x.entries(1, 100), 0);
        due("was", x.entries(1, 0), 100);
        due("101", x.entries(1, 101), -1);
        due("-1", x.entries(1, -1), -1);
        due("land 6", x.entries(6, 1), -1);
        due("land -1", x.entries(-1, 1), -1);
        due("it stays", x.entries(1, 7), 0);
    }

    private static void entered() {
        LivingDays x = new LivingDays();
        Texts.lay(x, "a0..9,a20..29,b30..39,a40..41,a350..370,a380");
        due("how many", x.entered(0, 0, 0), 4);
        due("not over the turn of the year", x.entered(0, 1, 0), 1);
        due("any number", x.entered(0, 0, 1), 0);
        due("none beyond", x.entered(0, 0, 2), -2);
        x.entries(0, 2);
        due("beyond", x.entered(0, 0, 1), 2);
        due("the first beyond", x.entered(0, 0, 2), 40);
        due("next year none beyond", x.entered(0, 1, 1), 0);
        due("next year", x.entered(0, 1, 2), -2);
        x.entries(0, 4);
        due("as many as it lets", x.entered(0, 0, 1), 0);
        due("as many as it lets", x.entered(0, 0, 2), -2);
        due("another", x.entered(1, 0, 0), 1);
        Texts.lay(x, "c359,c719,c721");
        due("on the last day of the year", x.entered(2, 0, 0), 1);
        due("on the last day of the year", x.entered(2, 1, 0), 1);
        due("behind it", x.entered(2, 2, 0), 1);
        due("none", x.entered(1, 2, 0), 0);
        due("what 3", x.entered(0, 0, 3), -1);
        due("what -1", x.entered(0, 0, -1), -1);
        due("year 3", x.entered(0, 3, 0), -1);
        due("land 6", x.entered(6, 0, 0), -1);
        due("land -1", x.entered(-1, 0, 0), -1);
    }

    private static void treaty() {
        LivingDays x = new LivingDays();
        Texts.lay(x, "a0..9,b20..49");
        x.home(0, 0, 5, true);
        due("by orders", x.answers(0, 1, 0), 0);
        due("treaty", Texts.setTreaty(x, 1, 0, "d"), true);
        due("both by it", x.answers(0, 1, 0), 1);
        due("both by it", x.answers(1, 0, 0), 1);
        due("in its place", Texts.setTreaty(x, 0, 1, "h"), true);
        due("by the new", x.answers(1, 0, 0), 0);
        due("twice one", Texts.setTreaty(x, 0, 1, "dd"), false);
        due("tape is empty", x.count(4), 0);
        due("it stays", x.answers(1, 0, 0), 0);
        due("none of none", x.treaty(0, 1, 0), true);
        due("nobody", x.answers(0, 1, 0), -2);
        Texts.feed(x, "d");
        due("a is b", x.treaty(1, 1, 1), false);
        due("land 6", x.treaty(1, 6, 1), false);
        due("land -1", x.treaty(-1, 1, 1), false);
        due("n 5", x.treaty(0, 1, 5), false);
        due("n -1", x.treaty(0, 1, -1), false);
        due("tape stays", x.count(4), 20);
        due("others are not of it", x.answers(0, 2, 0), 0);
    }

    private static void without() {
        LivingDays x = new LivingDays();
        Texts.lay(x, "a0..9,b20..49");
        x.home(0, 0, 5, true);
        due("there is none", x.without(0, 1), false);
        Texts.setTreaty(x, 0, 1, "");
        due("nobody", x.answers(0, 1, 0), -2);
        due("others", x.without(0, 2), false);
        due("gone", x.without(1, 0), true);
        due("by orders", x.answers(0, 1, 0), 0);
        due("gone already", x.without(0, 1), false);
        due("a is b", x.without(1, 1), false);
        due("land 6", x.without(6, 1), false);
        due("land -1", x.without(0, -1), false);
    }

    private static void tax() {
        LivingDays x = new LivingDays();
        due("first", x.tax(3, 60), 0);
        due("was", x.tax(3, 0), 60);
        due("61", x.tax(3, 61), -1);
        due("-1", x.tax(3, -1), -1);
        due("land 6", x.tax(6, 1), -1);
        due("land -1", x.tax(-1, 1), -1);
        due("it stays", x.told(3, 5), 0);
    }

    private static void told() {
        LivingDays x = new LivingDays();
        x.window(1, 30, 20);
        x.rule(1, 0, 11);
        x.rule(1, 1, 12);
        x.rule(1, 2, 13);
        x.tax(1, 14);
        x.nation(1, true);
        Texts.setOrder(x, 1, "nd");
        int[] answers = {30, 20, 11, 12, 13, 14, 1, 2, 3, 2, -2, -2, -1};
        for (int what = 0; what < answers.length; what++) {
            due("told " + what, x.told(1, what), answers[what]);
        }
        due("what -1", x.told(1, -1), -1);
        due("land 6", x.told(6, 0), -1);
        due("land -1", x.told(-1, 0), -1);
    }

    private static void days() {
        LivingDays x = new LivingDays();
        Texts.lay(x, "a10..19,a30..34,b35,a350..400,a719..720");
        x.home(0, 0, 99, true);
        x.home(0, 360, 360, true);
        x.centre(0, 355, 364);
        int[][] answers = {{25, 100, 5, 3, 10}, {42, 1, 5, 2, 41}, {1, 0, 0, 1, 1}};
        for (int year = 0; year < 3; year++) {
            for (int what = 0; what < 5; what++) {
                due("days of year " + year + " what " + what, x.days(0, year, what), answers[year][what]);
            }
        }
        due("none there", x.days(2, 0, 0), 0);
        due("none there", x.days(2, 0, 4), 0);
        x.stay(3, 350, 359);
        x.home(3, 350, 359, true);
        x.centre(3, 350, 359);
        for (int what = 0; what < 5; what++) {
            due("to the last day of the year", x.days(3, 0, what), what == 3 ? 1 : 10);
        }
        due("what 5", x.days(0, 0, 5), -1);
        due("what -1", x.days(0, 0, -1), -1);
        due("year 3", x.days(0, 3, 0), -1);
        due("year -1", x.days(0, -1, 0), -1);
        due("land 6", x.days(6, 0, 0), -1);
        due("land -1", x.days(-1, 0, 0), -1);
    }

    private static void month() {
        LivingDays x = new LivingDays();
        Texts.lay(x, "a29..60,a1050..1078");
        due("the last day of it", x.month(0, 0), 1);
        due("all of it", x.month(0, 1), 30);
        due("the first day of it", x.month(0, 2), 1);
        due("none of it", x.month(0, 3), 0);
        due("the last", x.month(0, 35), 29);
        due("month 36", x.month(0, 36), -1);
        due("month -1", x.month(0, -1), -1);
        due("land 6", x.month(6, 0), -1);
        due("land -1", x.month(-1, 0), -1);
    }

    private static void within() {
        LivingDays x = new LivingDays();
        Texts.lay(x, "a0..9,a20..29");
        due("one day", x.within(0, 9, 1), 1);
        due("the day is not there", x.within(0, 10, 1), 0);
        due("ten that end with it", x.within(0, 24, 10), 5);
        due("over both", x.within(0, 24, 16), 6);
        due("fewer at the beginning", x.within(0, 5, 1080), 6);
        due("all", x.within(0, 1079, 1080), 20);
        due("all but the first", x.within(0, 1079, 1079), 19);
        due("w 0", x.within(0, 5, 0), -1);
        due("w 1081", x.within(0, 5, 1081), -1);
        due("w greatest", x.within(0, 5, MAX), -1);
        due("day 1080", x.within(0, 1080, 1), -1);
        due("land 6", x.within(6, 0, 1), -1);
        due("land -1", x.within(-1, 0, 1), -1);
    }

    private static void overstays() {
        LivingDays x = new LivingDays();
        Texts.lay(x, "a0..9,a12..14,b30..40");
        due("no window", x.overstays(0, 0, 1079, 0), 0);
        x.window(0, 10, 8);
        // days 8 (9), 9 (10), 12 (8: 3..9 and 12), 13 (8), 14 (8)
        due("how many", x.overstays(0, 0, 1079, 0), 2);
        due("the first", x.overstays(0, 0, 1079, 1), 8);
        due("most beyond", x.overstays(0, 0, 1079, 2), 2);
        due("from", x.overstays(0, 9, 1079, 0), 1);
        due("the first from", x.overstays(0, 9, 9, 1), 9);
        due("till", x.overstays(0, 0, 8, 2), 1);
        due("ahead of it", x.overstays(0, 0, 7, 1), -2);
        due("behind it", x.overstays(0, 10, 1079, 2), 0);
        x.window(0, 10, 0);
        due("m 0: each day there", x.overstays(0, 0, 1079, 0), 13);
        x.window(0, 10, 10);
        due("m w: none", x.overstays(0, 0, 1079, 0), 0);
        due("another land", x.overstays(1, 0, 1079, 0), 0);
        due("turned", x.overstays(0, 1, 0, 0), -1);
        due("what 3", x.overstays(0, 0, 1, 3), -1);
        due("what -1", x.overstays(0, 0, 1, -1), -1);
        due("day 1080", x.overstays(0, 0, 1080, 0), -1);
        due("day -1", x.overstays(0, -1, 5, 0), -1);
        due("land 6", x.overstays(6, 0, 1, 0), -1);
        due("land -1", x.overstays(-1, 0, 1, 0), -1);
    }

    private static void nth() {
        LivingDays x = new LivingDays();
        Texts.lay(x, "b0,a1..2,b3..4,a350..370,a1079");
        int[][] answers = {{1, 2, 2}, {350, 370, 21}, {1079, 1079, 1}, {-2, -2, -2}};
        for (int k = 0; k < 4; k++) {
            for (int what = 0; what < 3; what++) {
                due("nth " + k + ", " + what, x.nth(0, k, what), answers[k][what]);
            }
        }
        due("at day 0", x.nth(1, 0, 1), 0);
        due("k -1", x.nth(0, -1, 0), -1);
        due("what 3", x.nth(0, 0, 3), -1);
        due("what 3 comes ahead of not so many", x.nth(0, 99, 3), -1);
        due("greatest", x.nth(0, MAX, 0), -2);
        due("land 6", x.nth(6, 0, 0), -1);
        due("land -1", x.nth(-1, 0, 0), -1);
    }

    private static void away() {
        LivingDays x = new LivingDays();
        due("all", x.away(3, 0), 1080);
        due("from the first", x.away(3, 1), 0);
        x.stay(0, 0, 1079);
        due("none", x.away(0, 0), 0);
        due("none", x.away(0, 1), -2);
        Texts.lay(x, "b100..109,-110..119,a120..129,c130..149,b1060..1079");
        due("the longest", x.away(0, 0), 20);
        due("the first such", x.away(0, 1), 100);
        due("what 2", x.away(0, 2), -1);
        due("what -1", x.away(0, -1), -1);
        due("land 6", x.away(6, 0), -1);
        due("land -1", x.away(-1, 0), -1);
    }

    private static void travels() {
        LivingDays x = new LivingDays();
        Texts.lay(x, "a0..9,a20,a30..31,a359..360,a1070..1079");
        due("both ends, a lone one once", x.travels(0, 0), 1 + 1 + 2 + 1);
        due("over the turn", x.travels(0, 1), 1);
        due("to the last day", x.travels(0, 2), 1);
        due("another", x.travels(1, 0), 0);
        x.stay(0, 0, 1079);
        due("always there", x.travels(0, 0) + x.travels(0, 1) + x.travels(0, 2), 0);
        due("year 3", x.travels(0, 3), -1);
        due("year -1", x.travels(0, -1), -1);
        due("land 6", x.travels(6, 0), -1);
        due("land -1", x.travels(-1, 0), -1);
    }

    private static void most() {
        LivingDays x = new LivingDays();
        Texts.lay(x, "a0..99,a360..389,a720..750");
        x.home(0, 0, 9, true);
        x.home(1, 0, 9, true);
        x.home(0, 400, 420, true);
        due("by days", x.most(0, 0, 0), 100);
        due("by the mean", x.most(0, 1, 0), 100);
        due("by home", x.most(0, 2, 0), 10);
        due("30 days are too few", x.most(0, 1, 1), 0);
        due("31 days, 2 times 30, 100", x.most(0, 1, 2), (31 * 6 + 60 + 100) / 6);
        due("homes of the year", x.most(0, 2, 1), 21);
        due("homes, none there", x.most(1, 2, 0), 0);
        x.stay(2, 0, 1079);
        due("360 at most", x.most(2, 1, 2), 360);
        due("all days", x.most(2, 0, 2), 360);
        due("sort 3", x.most(0, 3, 0), -1);
        due("sort -1", x.most(0, -1, 0), -1);
        due("year 3", x.most(0, 0, 3), -1);
        due("land 6", x.most(6, 0, 0), -1);
        due("land -1", x.most(-1, 0, 0), -1);
    }

    private static void tight() {
        LivingDays x = new LivingDays();
        Texts.lay(x, "a5..9,a20..24");
        due("most", x.tight(0, 3, 0), 3);
        due("the first such", x.tight(0, 3, 1), 7);
        due("over both", x.tight(0, 16, 0), 6);
        due("over both", x.tight(0, 16, 1), 20);
        due("all", x.tight(0, 1080, 0), 10);
        due("all", x.tight(0, 1080, 1), 24);
        due("none there", x.tight(1, 5, 0), 0);
        due("none there", x.tight(1, 5, 1), -2);
        due("w 0", x.tight(0, 0, 0), -1);
        due("w 1081", x.tight(0, 1081, 0), -1);
        due("what 2", x.tight(0, 1, 2), -1);
        due("what -1", x.tight(0, 1, -1), -1);
        due("land 6", x.tight(6, 1, 0), -1);
        due("land -1", x.tight(-1, 1, 0), -1);
    }

    private static void rank() {
        LivingDays x = new LivingDays();
        Texts.lay(x, "c0..9,f20..29,b50..54,e400");
        int[] first = {2, 5, 1, 0, 3, 4};
        int[] second = {4, 0, 1, 2, 3, 5};
        for (int k = 0; k < 6; k++) {
            due("rank " + k, x.rank(0, k), first[k]);
            due("rank " + k + " of year 1", x.rank(1, k), second[k]);
        }
        due("k 6", x.rank(0, 6), -1);
        due("k -1", x.rank(0, -1), -1);
        due("year 3", x.rank(3, 0), -1);
        due("year -1", x.rank(-1, 0), -1);
    }

    private static void slide() {
        LivingDays x = new LivingDays();
        Texts.lay(x, "a10..14,b15,c20..21");
        due("later", x.slide(10, 15, 3), 7);
        dueText("later", x, "a13..17,b18,c20..21");
        due("sooner", x.slide(13, 18, -3), 7);
        dueText("sooner", x, "a10..14,b15,c20..21");
        due("nowhere comes along", x.slide(16, 19, 4), 2);
        dueText("nowhere comes along", x, "a10..14,b15");
        due("by 0", x.slide(10, 15, 0), 0);
        due("one day, far", x.slide(15, 15, 1064), 2);
        dueText("one day, far", x, "a10..14,b1079");
        due("beyond the end", x.slide(10, 14, 1066), -1);
        due("ahead of the beginning", x.slide(10, 14, -11), -1);
        due("to the beginning", x.slide(10, 14, -10), 10);
        due("least", x.slide(10, 14, MIN), -1);
        due("greatest", x.slide(10, 14, MAX), -1);
        due("turned", x.slide(5, 4, 0), -1);
        due("day -1", x.slide(-1, 4, 1), -1);
        due("day 1080", x.slide(0, 1080, 0), -1);
        dueText("refused calls change nothing", x, "a0..4,b1079");
    }

    private static void trade() {
        LivingDays x = new LivingDays();
        Texts.lay(x, "a0..9,b10..19,c20..29");
        due("trade", x.trade(0, 1, 5, 24), 15);
        dueText("trade", x, "a0..4,b5..9,a10..19,c20..29");
        due("none of both", x.trade(3, 4, 0, 1079), 0);
        due("the last day, too", x.trade(2, 5, 29, 29), 1);
        due("and back", x.trade(2, 5, 0, 29), 10);
        due("and back", x.trade(2, 5, 20, 28), 9);
        dueText("the last day, too", x, "a0..4,b5..9,a10..19,c20..29");
        due("a is b", x.trade(1, 1, 0, 1), -1);
        due("nowhere", x.trade(-1, 1, 0, 1), -1);
        due("nowhere", x.trade(1, -1, 0, 1), -1);
        due("land 6", x.trade(1, 6, 0, 1), -1);
        due("turned", x.trade(0, 1, 1, 0), -1);
        due("day 1080", x.trade(0, 1, 1, 1080), -1);
        dueText("refused calls change nothing", x, "a0..4,b5..9,a10..19,c20..29");
    }

    private static void erase() {
        LivingDays x = new LivingDays();
        Texts.lay(x, "a0..1,b2..3,a4,a6..8,a358..361,a1079");
        due("two or fewer", x.erase(0, 2), 3);
        dueText("two or fewer", x, "b2..3,a6..8,a358..361");
        due("over the turn of the year", x.erase(0, 3), 1);
        dueText("over the turn of the year", x, "b2..3,a358..361");
        due("none", x.erase(5, 360), 0);
        due("n 0", x.erase(0, 0), -1);
        due("n 361", x.erase(0, 361), -1);
        due("land 6", x.erase(6, 1), -1);
        due("land -1", x.erase(-1, 1), -1);
        due("the rest", x.erase(0, 360), 1);
        dueText("the rest", x, "b2..3");
    }

    private static void routes() {
        LivingDays x = new LivingDays();
        Texts.lay(x, "a0..9,b10..19,a20..29,b30,a350..359,b360..369");
        due("a to b", x.routes(0, 1, 0), 2);
        due("b to a", x.routes(1, 0, 0), 1);
        due("over the turn", x.routes(0, 1, 1), 1);
        Texts.lay(x, "c718,d719");
        due("on the last day of the year", x.routes(2, 3, 1), 1);
        due("to nowhere", x.routes(1, -1, 0), 1);
        due("from nowhere", x.routes(-1, 0, 0), 1);
        due("day 0 has none ahead", x.routes(-1, 0, 0), 1);
        due("nowhere both", x.routes(-1, -1, 0), -1);
        due("a is b", x.routes(0, 0, 0), -1);
        due("land 6", x.routes(0, 6, 0), -1);
        due("land -2", x.routes(-2, 0, 0), -1);
        due("year 3", x.routes(0, 1, 3), -1);
        due("year -1", x.routes(0, 1, -1), -1);
    }

    private static void latest() {
        LivingDays x = new LivingDays();
        due("no rule", x.latest(0, 0), -2);
        x.rule(0, 0, 100);
        due("by days", x.latest(0, 0), 260);
        Texts.lay(x, "a0..49,a350..359");
        due("days are there", x.latest(0, 0), 310);
        x.stay(0, 0, 99);
        due("it claims as it is", x.latest(0, 0), 359);
        due("another year", x.latest(0, 1), 620);
        x.stay(-1, 0, 359);
        Texts.lay(x, "a0..49,a300..309");
        x.rule(0, 0, 111);
        due("a day that is there already is one", x.latest(0, 0), 299);
        x.rule(0, 0, 360);
        due("from the first day on which one is not there", x.latest(0, 0), 50);
        due("the first day of year 2", x.latest(0, 2), 720);
        x.rule(0, 0, 360);
        x.rule(1, 2, 10);
        x.home(1, 0, 9, true);
        due("by home: one day", x.latest(1, 0), 359);
        due("homes are too few", x.latest(1, 1), -2);
        x.rule(2, 1, 20);
        due("by the mean: at least 31", x.latest(2, 0), 329);
        due("land 6", x.latest(6, 0), -1);
        due("land -1", x.latest(-1, 0), -1);
        due("year 3", x.latest(0, 3), -1);
    }

    /** Lands 0, 1, 2 claim by a day each in year 0, with 30, 20, 10 days. */
    private static LivingDays three() {
        LivingDays x = new LivingDays();
        Texts.lay(x, "a0..29,b30..49,c50..59");
        for (int land = 0; land < 3; land++) {
            x.rule(land, 0, 1);
        }
        return x;
    }

    private static void wins() {
        LivingDays x = three();
        due("the most days", x.wins(0, 0), 2);
        due("fewer", x.wins(1, 0), 1);
        due("the fewest", x.wins(2, 0), 0);
        due("does not claim", x.wins(3, 0), -2);
        due("does not claim in it", x.wins(0, 1), -2);
        Texts.setOrder(x, 2, "n");
        x.nation(2, true);
        due("one of both is not enough", x.wins(0, 0), 1);
        due("one of both is not enough", x.wins(2, 0), 0);
        due("year 3 ahead of not claiming", x.wins(3, 3), -1);
        due("land 6", x.wins(6, 0), -1);
        due("land -1", x.wins(-1, 0), -1);
    }

    private static void partner() {
        LivingDays x = new LivingDays();
        due("nowhere", x.partner(), 0);
        Texts.lay(x, "a0..9,b10..19,a30");
        due("stays", x.partner(), 3);
        due("both", x.together(0, 0), 21);
        x.stay(2, 0, 1079);
        due("it stays where it was", x.together(0, 0), 0);
        due("stays anew", x.partner(), 1);
        due("together all", x.together(2, 0), 360);
    }

    private static void together() {
        LivingDays x = new LivingDays();
        due("no partner", x.together(0, 0), -2);
        due("no such year comes first", x.together(3, 0), -1);
        Texts.lay(x, "a0..9,b10..19,c355..364");
        x.partner();
        Texts.lay(x, "d5,a15..17,f400");
        due("how many", x.together(0, 0), 9 + 7 + 5);
        due("the longest row, over lands", x.together(0, 1), 9);
        due("lands", x.together(0, 2), 7);
        due("others", x.together(0, 3), 360 - 21);
        due("in the year alone", x.together(1, 1), 5);
        due("lands of year 1", x.together(1, 2), 4);
        due("none", x.together(2, 0), 0);
        due("none", x.together(2, 1), 0);
        due("what 4", x.together(0, 4), -1);
        due("what -1", x.together(0, -1), -1);
        due("year -1", x.together(-1, 0), -1);
    }

    private static void claims() {
        LivingDays x = new LivingDays();
        Texts.lay(x, "a0..29,b30..60,f360..390");
        due("no rule", x.claims(0), 0);
        x.rule(0, 0, 30);
        x.rule(1, 1, 31);
        x.rule(2, 2, 1);
        x.home(2, 0, 359, true);
        x.rule(5, 2, 360);
        x.home(5, 360, 719, true);
        due("days, mean", x.claims(0), 3);
        due("home", x.claims(1), 32);
        due("none", x.claims(2), 0);
        x.rule(0, 0, 31);
        due("one day is lacking", x.claims(0), 2);
        due("year 3", x.claims(3), -1);
        due("year -1", x.claims(-1), -1);
    }

    private static void holds() {
        LivingDays x = new LivingDays();
        Texts.lay(x, "a0..99,a360..419,a720..749,b720..750");
        due("no rule", x.holds(0, 0), 0);
        x.rule(0, 0, 60);
        x.rule(0, 1, 93);
        x.rule(0, 2, 5);
        x.home(0, 0, 4, true);
        x.home(0, 360, 363, true);
        due("all", x.holds(0, 0), 7);
        due("60 and 2 times 100 of 6", x.holds(0, 1), 3);
        x.rule(0, 1, 94);
        due("one more is too many", x.holds(0, 1), 1);
        due("30 days are too few", x.holds(0, 2), 0);
        x.rule(1, 1, 31);
        due("31 days", x.holds(1, 2), 2);
        x.rule(1, 1, 32);
        due("31 days of 32", x.holds(1, 2), 0);
        x.home(2, 0, 359, true);
        x.rule(2, 2, 1);
        due("a home without a day", x.holds(2, 0), 0);
        x.stay(2, 359, 359);
        due("a home with a day", x.holds(2, 0), 4);
        due("land 6", x.holds(6, 0), -1);
        due("land -1", x.holds(-1, 0), -1);
        due("year 3", x.holds(0, 3), -1);
    }

    private static void answers() {
        LivingDays x = new LivingDays();
        due("nobody", x.answers(0, 1, 0), -2);
        x.nation(1, true);
        due("by nation", x.answers(0, 1, 0), 1);
        x.nation(0, true);
        due("both are in it", x.answers(0, 1, 0), -2);
        x.stay(0, 0, 1);
        due("by days", x.answers(1, 0, 0), 0);
        x.centre(1, 0, 0);
        due("by the centre", x.answers(0, 1, 0), 1);
        x.home(0, 0, 0, true);
        due("by home", x.answers(1, 0, 0), 0);
        Texts.setOrder(x, 1, "nc");
        due("in its own order", x.answers(1, 0, 0), 1);
        due("the other by its own", x.answers(0, 1, 0), 0);
        Texts.setOrder(x, 1, "n");
        due("its order tells nobody", x.answers(1, 0, 0), -2);
        due("another year", x.answers(0, 1, 1), -2);
        x.home(4, 720, 729, true);
        x.centre(5, 720, 729);
        x.stay(3, 720, 729);
        due("by homes of the year", x.answers(3, 4, 2), 4);
        due("by homes of the year", x.answers(4, 3, 2), 4);
        due("by centres of the year", x.answers(3, 5, 2), 5);
        due("by centres of the year", x.answers(5, 3, 2), 5);
        due("by days of the year", x.answers(2, 3, 2), 3);
        due("a is b", x.answers(1, 1, 0), -1);
        due("land 6", x.answers(6, 0, 0), -1);
        due("land -1", x.answers(0, -1, 0), -1);
        due("year 3", x.answers(0, 1, 3), -1);
    }

    private static void by() {
        LivingDays x = new LivingDays();
        due("by none", x.by(0, 1, 0), -2);
        x.nation(1, true);
        due("nation", x.by(0, 1, 0), 3);
        x.stay(0, 0, 1);
        due("days", x.by(0, 1, 0), 2);
        x.centre(1, 0, 0);
        due("centre", x.by(0, 1, 0), 1);
        x.home(0, 0, 0, true);
        due("home", x.by(0, 1, 0), 0);
        Texts.setOrder(x, 1, "ch");
        due("its own order", x.by(1, 0, 0), 0);
        Texts.setTreaty(x, 0, 1, "nd");
        due("by the treaty", x.by(1, 0, 0), 0);
        x.nation(1, false);
        due("by the treaty", x.by(0, 1, 0), 1);
        due("a is b", x.by(1, 1, 0), -1);
        due("land 6", x.by(6, 0, 0), -1);
        due("land -1", x.by(0, -1, 0), -1);
        due("year 3", x.by(0, 1, 3), -1);
    }

    private static void lives() {
        LivingDays x = three();
        due("the most days", x.lives(0), 0);
        due("none claims", x.lives(1), -2);
        x.stay(5, 400, 400);
        x.rule(5, 0, 1);
        due("just one", x.lives(1), 5);
        Texts.setOrder(x, 2, "n");
        due("one answers nobody", x.lives(0), -2);
        x.rule(2, 0, 0);
        due("it claims no more", x.lives(0), 0);
        // a beats b by homes, b beats c by days, c beats a by nation: a ring
        x = three();
        x.nation(2, true);
        Texts.setTreaty(x, 0, 2, "n");
        due("a ring has none", x.lives(0), -2);
        due("year 3", x.lives(3), -1);
        due("year -1", x.lives(-1), -1);
    }

    private static void pairs() {
        LivingDays x = three();
        due("all", x.pairs(0, 0), 3);
        due("all agree", x.pairs(0, 1), 0);
        due("none nobody", x.pairs(0, 2), 0);
        Texts.setOrder(x, 2, "n");
        due("of c two do not agree", x.pairs(0, 1), 2);
        due("only one says nobody", x.pairs(0, 2), 0);
        Texts.setTreaty(x, 0, 2, "");
        due("both say nobody: they agree", x.pairs(0, 1), 1);
        due("nobody", x.pairs(0, 2), 1);
        due("none claims", x.pairs(1, 0), 0);
        due("what 3", x.pairs(0, 3), -1);
        due("what -1", x.pairs(0, -1), -1);
        due("year 3", x.pairs(3, 0), -1);
    }

    private static void split() {
        LivingDays x = new LivingDays();
        Texts.lay(x, "a100..199,a400..500,b720..740");
        x.rule(0, 0, 50);
        due("does not claim", x.split(0, 2, 0), -2);
        due("from", x.split(0, 0, 0), 100);
        due("till: it claims in the year behind", x.split(0, 0, 1), 359);
        due("days", x.split(0, 0, 2), 100);
        due("from: it claimed in the year ahead", x.split(0, 1, 0), 360);
        due("till", x.split(0, 1, 1), 500);
        due("days", x.split(0, 1, 2), 101);
        x.home(0, 90, 90, true);
        x.home(0, 510, 510, true);
        due("from a home", x.split(0, 0, 0), 90);
        due("till a home", x.split(0, 1, 1), 510);
        x.home(1, 1079, 1079, true);
        x.rule(1, 0, 1);
        due("from a day", x.split(1, 2, 0), 720);
        LivingDays y = new LivingDays();
        Texts.lay(y, "a100..199,a360..369,a800..899");
        y.rule(0, 0, 50);
        due("it claims in no year behind", y.split(0, 0, 1), 199);
        due("it claimed in no year ahead", y.split(0, 2, 0), 800);
        due("there is no year behind", y.split(0, 2, 1), 899);
        y.rule(0, 0, 10);
        due("it claims in all", y.split(0, 1, 0), 360);
        due("it claims in all", y.split(0, 1, 1), 719);
        due("the days of it", y.split(0, 1, 2), 10);
        due("till the last day", x.split(1, 2, 1), 1079);
        due("what 3 comes first", x.split(0, 2, 3), -1);
        due("what -1", x.split(0, 0, -1), -1);
        due("year 3", x.split(0, 3, 0), -1);
        due("land 6", x.split(6, 0, 0), -1);
        due("land -1", x.split(-1, 0, 0), -1);
    }

    private static void owed() {
        LivingDays x = new LivingDays();
        Texts.lay(x, "a100..199,b200..209,a210..220,b300..309");
        x.tax(0, 10);
        x.tax(1, 60);
        due("where one is", x.owed(0), 111 * 10 + 20 * 60);
        x.rule(0, 0, 50);
        due("from to till where one lives", x.owed(0), 121 * 10 + 10 * 60);
        x.home(0, 330, 330, true);
        due("till a home: nowhere is taxed, too", x.owed(0), 231 * 10);
        due("none", x.owed(1), 0);
        due("year 3", x.owed(3), -1);
        due("year -1", x.owed(-1), -1);
    }

    private static void free() {
        LivingDays x = new LivingDays();
        due("no window", x.free(0, 0, 360), 360);
        due("as many as there are", x.free(0, 1079, 360), 1);
        x.window(0, 10, 4);
        due("four of each ten", x.free(0, 0, 10), 4);
        due("four of each ten", x.free(0, 0, 24), 12);
        x.stay(0, 5, 6);
        due("later days hold it back", x.free(0, 0, 5), 2);
        due("days that are there count", x.free(0, 0, 10), 4);
        x.stay(0, 0, 9);
        // one overstays on 4 to 9; on 3 there is no more room, but no day ahead of 0 is there
        due("all there", x.free(0, 0, 10), 10);
        due("overstays hold back only what is new", x.free(0, 10, 10), 4);
        x.window(0, 10, 0);
        due("m 0", x.free(0, 10, 10), 0);
        x.stay(-1, 0, 1079);
        Texts.lay(x, "a3..5,a12..14");
        x.window(0, 4, 3);
        // 0 goes (0, 3, .), 1 and 2: 1 makes 0 to 3 three, 2 would make 2 to 5 four
        due("a window of four", x.free(0, 0, 6), 5);
        due("n 0", x.free(0, 0, 0), -1);
        due("n 361", x.free(0, 0, 361), -1);
        due("day 1080", x.free(0, 1080, 1), -1);
        due("day -1", x.free(0, -1, 1), -1);
        due("land 6", x.free(6, 0, 1), -1);
        due("land -1", x.free(-1, 0, 1), -1);
        dueText("nothing is changed", x, "a3..5,a12..14");
    }

    private static void mustLeave() {
        LivingDays x = new LivingDays();
        due("no window", x.mustLeave(0, 0), -2);
        x.window(0, 180, 90);
        due("from 0", x.mustLeave(0, 0), 90);
        x.stay(0, 0, 29);
        due("days ahead count", x.mustLeave(0, 100), 160);
        due("days ahead leave the window", x.mustLeave(0, 200), 290);
        due("days fall out by and by", x.mustLeave(0, 135), 225);
        due("too late to overstay", x.mustLeave(0, 1000), -2);
        due("just too late to overstay", x.mustLeave(0, 990), -2);
        due("on the last day", x.mustLeave(0, 989), 1079);
        x.window(0, 5, 0);
        due("at once", x.mustLeave(0, 1079), 1079);
        x.window(0, 5, 5);
        due("never", x.mustLeave(0, 0), -2);
        due("day 1080", x.mustLeave(0, 1080), -1);
        due("day -1", x.mustLeave(0, -1), -1);
        due("land 6", x.mustLeave(6, 0), -1);
        due("land -1", x.mustLeave(-1, 0), -1);
    }

    private static void mayCome() {
        LivingDays x = new LivingDays();
        due("no window", x.mayCome(0, 7, 360), 7);
        x.window(0, 180, 90);
        x.stay(0, 0, 89);
        due("the first leaves the window", x.mayCome(0, 90, 1), 180);
        due("for ten", x.mayCome(0, 90, 10), 180);
        due("91 are too many, but at the end fewer are left", x.mayCome(0, 90, 91), 990);
        due("on days that are there", x.mayCome(0, 50, 40), 50);
        x.window(0, 10, 0);
        due("on none", x.mayCome(0, 0, 1), -2);
        due("n 0", x.mayCome(0, 0, 0), -1);
        due("n 361", x.mayCome(0, 0, 361), -1);
        due("day 1080", x.mayCome(0, 1080, 1), -1);
        due("day -1", x.mayCome(0, -1, 1), -1);
        due("land 6", x.mayCome(6, 0, 1), -1);
        due("land -1", x.mayCome(-1, 0, 1), -1);
    }

    private static void claimBy() {
        LivingDays x = new LivingDays();
        due("no rule", x.claimBy(0, 0), -2);
        x.rule(0, 0, 100);
        due("by days", x.claimBy(0, 0), 99);
        due("over the turn of the year", x.claimBy(0, 300), 459);
        due("too late", x.claimBy(0, 981), -2);
        due("just in time", x.claimBy(0, 980), 1079);
        x.rule(5, 0, 100);
        due("too late, of the last land", x.claimBy(5, 981), -2);
        x.stay(0, 340, 359);
        due("days behind stay as they are", x.claimBy(0, 0), 79);
        x.stay(0, 0, 99);
        due("it claims already", x.claimBy(0, 50), 50);
        x.stay(-1, 0, 1079);
        x.rule(0, 0, 0);
        x.rule(0, 1, 40);
        due("by the mean, with the year ahead", x.claimBy(0, 330), 360 + 30);
        due("land 6", x.claimBy(6, 0), -1);
        due("land -1", x.claimBy(-1, 0), -1);
        due("day 1080", x.claimBy(0, 1080), -1);
        due("day -1", x.claimBy(0, -1), -1);
    }

    private static void freest() {
        LivingDays x = new LivingDays();
        due("like ones: the lowest", x.freest(5, 10, 0), 0);
        x.window(0, 10, 4);
        x.window(1, 10, 3);
        x.window(2, 10, 6);
        x.window(3, 10, 6);
        x.window(4, 10, 0);
        x.window(5, 10, 5);
        due("the most", x.freest(0, 20, 0), 2);
        due("how many", x.freest(0, 20, 1), 12);
        x.stay(4, 0, 19);
        due("days there count", x.freest(0, 20, 0), 4);
        due("days there count", x.freest(0, 20, 1), 20);
        due("at the end", x.freest(1079, 360, 1), 1);
        due("n 0", x.freest(0, 0, 0), -1);
        due("n 361", x.freest(0, 361, 0), -1);
        due("what 2", x.freest(0, 1, 2), -1);
        due("what -1", x.freest(0, 1, -1), -1);
        due("day 1080", x.freest(1080, 1, 0), -1);
        due("day -1", x.freest(-1, 1, 0), -1);
    }

    private static void need() {
        LivingDays x = new LivingDays();
        due("no rule", x.need(0, 0), -2);
        x.rule(0, 0, 183);
        due("all of them", x.need(0, 0), 183);
        x.stay(0, 0, 99);
        due("the rest", x.need(0, 0), 83);
        x.rule(0, 1, 40);
        due("by the mean it claims", x.need(0, 0), 0);
        due("31 at least, 2 times 100 ahead", x.need(0, 1), 31);
        due("two years ahead", x.need(0, 2), 31);
        x.rule(0, 1, 50);
        due("100 of two years ahead", x.need(0, 2), 34);
        x.rule(1, 2, 5);
        due("homes are too few", x.need(1, 0), -2);
        x.home(1, 0, 4, true);
        due("one day with the homes", x.need(1, 0), 1);
        x.rule(2, 0, 360);
        due("the whole year", x.need(2, 2), 360);
        due("land 6", x.need(6, 0), -1);
        due("land -1", x.need(-1, 0), -1);
        due("year 3", x.need(0, 3), -1);
    }

    private static void moved() {
        LivingDays x = new LivingDays();
        Texts.lay(x, "a0..9,b10..20");
        x.rule(0, 0, 10);
        x.rule(1, 0, 10);
        due("now", x.lives(0), 1);
        due("to a: b has 10, a 11", x.moved(15, 0), 0);
        due("to nowhere: like days", x.moved(15, -1), -2);
        due("from a: it claims no more", x.moved(5, 1), 1);
        due("from nowhere to a: like days", x.moved(100, 0), -2);
        due("where one is", x.moved(15, 1), 1);
        due("another year", x.moved(360, 0), -2);
        due("land 6", x.moved(0, 6), -1);
        due("land -2", x.moved(0, -2), -1);
        due("day 1080", x.moved(1080, 0), -1);
        due("day -1", x.moved(-1, 0), -1);
        dueText("nothing is changed", x, "a0..9,b10..20");
    }

    private static void loose() {
        LivingDays x = new LivingDays();
        due("nothing claims", x.loose(0, 0), 0);
        due("none", x.loose(0, 1), -2);
        Texts.lay(x, "a0..9,b20..29");
        x.rule(0, 0, 10);
        // days of a alone: one fewer, and none claims
        due("the days of a", x.loose(0, 0), 10);
        due("the first", x.loose(0, 1), 0);
        x.rule(0, 0, 9);
        due("one is too much", x.loose(0, 0), 0);
        x.rule(0, 0, 11);
        due("any other day makes it claim", x.loose(0, 0), 350);
        due("the first", x.loose(0, 1), 10);
        due("another year", x.loose(2, 0), 0);
        due("what 2", x.loose(0, 2), -1);
        due("what -1", x.loose(0, -1), -1);
        due("year 3", x.loose(3, 0), -1);
        due("year -1", x.loose(-1, 0), -1);
    }

    private static void nearest() {
        LivingDays x = new LivingDays();
        due("none", x.nearest(0, 0), -2);
        due("none", x.nearest(0, 1), -2);
        x.rule(4, 0, 20);
        x.rule(2, 0, 20);
        x.rule(5, 0, 30);
        due("like ones: the lowest", x.nearest(0, 0), 2);
        due("its need", x.nearest(0, 1), 20);
        x.stay(2, 0, 19);
        due("one that claims is not meant", x.nearest(0, 0), 4);
        x.stay(5, 100, 119);
        due("the least", x.nearest(0, 0), 5);
        due("its need", x.nearest(0, 1), 10);
        due("another year", x.nearest(1, 0), 2);
        due("what 2", x.nearest(0, 2), -1);
        due("what -1", x.nearest(0, -1), -1);
        due("year 3", x.nearest(3, 0), -1);
    }

    private static void instead() {
        LivingDays x = new LivingDays();
        Texts.lay(x, "a0..49,b50..79,a360..379");
        x.rule(0, 0, 20);
        x.rule(1, 0, 20);
        x.tax(0, 10);
        x.tax(1, 20);
        x.window(1, 60, 40);
        due("all of a in b", x.instead(0, 1, 0, 1079, 0), 1);
        due("year 1", x.instead(0, 1, 0, 1079, 1), 1);
        due("year 2", x.instead(0, 1, 0, 1079, 2), -2);
        due("a few", x.instead(0, 1, 40, 45, 0), 0);
        due("nowhere", x.instead(0, -1, 0, 40, 0), 1);
        // it claims in both years: TILL is the last day of the first, FROM the first of the second
        due("owed: all in b", x.instead(0, 1, 0, 1079, 3), 360 * 20 + 20 * 20);
        due("owed: b's in c, that has no tax", x.instead(1, 2, 0, 1079, 3), 360 * 10 + 20 * 10);
        due("overstays", x.instead(0, 1, 0, 1079, 4), 40);
        due("overstays as it is", x.instead(3, 4, 0, 1079, 4), 0);
        due("the last day, too", x.instead(0, 1, 0, 39, 4), 30);
        due("one fewer", x.instead(0, 1, 0, 38, 4), 29);
        due("a nowhere", x.instead(-1, 0, 0, 1, 0), -1);
        due("a is b", x.instead(1, 1, 0, 1, 0), -1);
        due("land 6", x.instead(0, 6, 0, 1, 0), -1);
        due("land -2", x.instead(0, -2, 0, 1, 0), -1);
        due("turned", x.instead(0, 1, 1, 0, 0), -1);
        due("day 1080", x.instead(0, 1, 0, 1080, 0), -1);
        due("what 5", x.instead(0, 1, 0, 1, 5), -1);
        due("what -1", x.instead(0, 1, 0, 1, -1), -1);
        dueText("nothing is changed", x, "a0..49,b50..79,a360..379");
    }

    private static void trip() {
        LivingDays x = new LivingDays();
        Texts.lay(x, "a0..49,b50..79,a360..379");
        x.rule(0, 0, 20);
        x.rule(1, 0, 20);
        x.tax(0, 10);
        x.tax(1, 20);
        x.window(1, 60, 40);
        due("lives", Texts.plan(x, "b0..20", 0), 1);
        due("tape is empty", x.count(4), 0);
        due("lives in year 1", Texts.plan(x, "b0..20", 1), 0);
        due("lives in year 2", Texts.plan(x, "b0..20", 2), -2);
        // b has 51 of year 0, FROM 0 TILL 79 (a claims, too: 29 days)
        due("owed", Texts.plan(x, "b0..20", 3), 80 * 20 + 20 * 10);
        due("overstays", Texts.plan(x, "b 0 .. 49", 4), 40);
        due("a fault", Texts.plan(x, "b0..x", 0), -1004);
        due("tape is empty behind a fault", x.count(4), 0);
        Texts.feed(x, "b0..20");
        due("n 0", x.trip(0, 0), -1);
        due("n 161", x.trip(161, 0), -1);
        due("n above the tape", x.trip(21, 0), -1);
        due("what 5", x.trip(6, 5), -1);
        due("what -1", x.trip(6, -1), -1);
        due("the tape stays", x.count(4), 20);
        dueText("nothing is changed", x, "a0..49,b50..79,a360..379");
    }

    private static void cheapest() {
        LivingDays x = new LivingDays();
        due("like ones: the lowest", x.cheapest(0, 9, 0), 0);
        for (int land = 0; land < 6; land++) {
            x.tax(land, 50 - land % 4);
        }
        Texts.lay(x, "a0..99");
        due("the least", x.cheapest(200, 209, 0), 3);
        due("how much", x.cheapest(200, 209, 1), 100 * 50 + 10 * 47);
        due("over a", x.cheapest(0, 99, 1), 100 * 47);
        // by being there it would claim, and tax the days ahead: d from 0 to 209 by a home
        x.rule(3, 0, 10);
        x.home(3, 0, 0, true);
        due("a land that would claim is dearer", x.cheapest(200, 209, 0), 2);
        due("how much", x.cheapest(200, 209, 1), 100 * 50 + 10 * 48);
        due("turned", x.cheapest(1, 0, 0), -1);
        due("day 1080", x.cheapest(0, 1080, 0), -1);
        due("what 2", x.cheapest(0, 1, 2), -1);
        due("what -1", x.cheapest(0, 1, -1), -1);
        dueText("nothing is changed", x, "a0..99");
    }

    private static void count() {
        LivingDays x = new LivingDays();
        Texts.lay(x, "a0..9,b10..19,a30");
        x.nation(0, true);
        x.nation(3, true);
        x.window(0, 5, 3);
        x.window(1, 5, 4);
        x.feed(0, 0, 0, 0, 0);
        x.keep();
        x.keep();
        int[] answers = {21, 9, 7 + 6, 3, 20, 2};
        for (int what = 0; what < 6; what++) {
            due("count " + what, x.count(what), answers[what]);
        }
        due("what 6", x.count(6), -1);
        due("what -1", x.count(-1), -1);
        due("least", x.count(MIN), -1);
    }

    private static void keepAndUndo() {
        LivingDays x = new LivingDays();
        due("none is kept", x.undo(), -1);
        Texts.lay(x, "a0..9");
        x.home(1, 0, 9, true);
        x.centre(2, 0, 9);
        x.nation(3, true);
        x.window(4, 30, 20);
        x.rule(4, 1, 50);
        Texts.setOrder(x, 4, "dn");
        Texts.setTreaty(x, 4, 5, "");
        x.tax(4, 7);
        x.entries(4, 8);
        due("keep", x.keep(), 1);
        x.partner();
        due("keep again", x.keep(), 2);
        x.stay(5, 0, 1079);
        x.home(1, 0, 1079, false);
        x.centre(-1, 0, 1079);
        x.nation(3, false);
        x.window(4, 0, 0);
        x.rule(4, 1, 0);
        Texts.setOrder(x, 4, "h");
        x.without(4, 5);
        x.tax(4, 0);
        x.entries(4, 0);
        x.partner();
        x.feed(1, 2, 3, 4, 5);
        due("undo", x.undo(), 1);
        due("the tape is not kept", x.count(4), 20);
        dueText("where one was", x, "a0..9");
        due("homes", x.at(9, 2), 2);
        due("the centre", x.at(9, 1), 2);
        due("nation", x.count(1), 8);
        int[] told = {30, 20, 0, 50, 0, 7, 0, 2, 2, 3, -2, -2};
        for (int what = 0; what < told.length; what++) {
            due("told " + what, x.told(4, what), told[what]);
        }
        due("entries", x.entries(4, 9), 8);
        due("the treaty is there", x.without(4, 5), true);
        due("the partner", x.together(0, 0), 10);
        due("undo", x.undo(), 0);
        due("no partner then", x.together(0, 0), -2);
        due("entries as at the first keep", x.entries(4, 0), 8);
        due("none is left", x.undo(), -1);
        for (int k = 1; k <= 8; k++) {
            x.stay(0, 100 * k, 100 * k);
            due("keep", x.keep(), k);
        }
        due("8 are", x.keep(), -1);
        for (int k = 8; k >= 1; k--) {
            x.stay(-1, 0, 1079);
            due("undo", x.undo(), k - 1);
            due("as it was", x.at(100 * k, 0), 0);
            due("as it was", x.at(Math.min(100 * k + 100, 1079), 0), -2);
        }
        due("keep again", x.keep(), 1);
    }
}

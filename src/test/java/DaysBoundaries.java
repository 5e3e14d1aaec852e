import static java.lang.Integer.MAX_VALUE;
import static java.lang.Integer.MIN_VALUE;

/** The boundary cases of promises 1 to 10: the new object, and days as they are told. */
final class DaysBoundaries {
    private DaysBoundaries() {
    }

    static void run(Boundaries b) {
        newObject(b);
        feed(b);
        calendar(b);
        stay(b);
        home(b);
        centre(b);
        nation(b);
        drawn(b);
        at(b);
        letter(b);
    }

    private static void newObject(Boundaries b) {
        b.sentence(1, "All is as at first.");
        LivingDays x = new LivingDays();
        for (int day : new int[] {0, 359, 360, 719, 720, 1079}) {
            b.due("where on day " + day, x.at(day, 0), -2);
            b.due("the centre on day " + day, x.at(day, 1), -2);
            b.due("homes on day " + day, x.at(day, 2), 0);
        }
        for (int land = 0; land < 6; land++) {
            for (int what = 0; what < 12; what++) {
                b.due("told " + what, x.told(land, what), new int[] {0, 0, 0, 0, 0, 0, 0, 4, 0, 1, 2, 3}[what]);
            }
            for (int other = 0; other < 6; other++) {
                b.due("no treaty", x.without(land, other), false);
            }
            b.due("any number of entries", x.entries(land, 0), 0);
        }
        for (int what = 0; what < 6; what++) {
            b.due("count " + what, x.count(what), 0);
        }
        b.due("no partner", x.together(0, 0), -2);
        b.due("no text", x.letter(-1), 0);
        b.due("no state", x.undo(), -1);
    }

    private static void feed(Boundaries b) {
        b.sentence(2, "Twenty bytes come behind the tape, the highest of each int first");
        LivingDays x = new LivingDays();
        x.feed(0x61302c62, 0x322c6334, 0x2c64362c, 0x65382c66, 0x31302c61);
        x.feed(0x31312e2e, 0x31322020, 0x20202020, 0x20202020, 0x20202020);
        b.due("over both", x.calendar(40), 7);
        b.text("in their row", x, "a0,b2,c4,d6,e8,f10,a11..12");
        x.feed(0x20202020, 0x20202020, 0x20202020, 0x20202020, 0x202020ff);
        b.due("a byte of 255 as the last", x.calendar(20), -1019);
        x.feed(0x20202080, 0, 0, 0, 0);
        b.due("a byte of 128 is none of 0", x.calendar(4), -1003);
        x.feed(MIN_VALUE, 0, 0, 0, 0);
        b.due("a byte of 128 as the first", x.calendar(1), -1000);
        b.sentence(2, "how many it has");
        x = new LivingDays();
        for (int k = 1; k <= 16; k++) {
            b.due("feed " + k, k == 1 ? x.feed(0x61312c62, 0x32202020, 0x20202020, 0x20202020, 0x20202020)
                : x.feed(0x20202020, 0x20202020, 0x20202020, 0x20202020, 0x20202020), 20 * k);
        }
        b.sentence(2, "NONE if that would be more than 320");
        b.due("beyond 320", x.feed(-1, -1, -1, -1, -1), -1);
        b.due("beyond 320 again", x.feed(0, 0, 0, 0, 0), -1);
        b.due("it has 320 still", x.count(4), 320);
        b.due("the bytes are those fed ahead of it", x.calendar(160), 2);
        b.due("it is empty then", x.feed(0, 0, 0, 0, 0), 20);
    }

    private static void calendar(Boundaries b) {
        b.sentence(3, "A CALENDAR by the tape's first n bytes (1 to 160; empty then)");
        LivingDays x = new LivingDays();
        Texts.feed(x, "a12,b3");
        b.due("two of them", x.calendar(2), 1);
        b.text("no others", x, "a1");
        b.due("empty then", x.count(4), 0);
        b.due("no byte is left", x.calendar(1), -1);
        Texts.feed(x, "a1");
        b.due("n 1", x.calendar(1), -1001);
        b.due("empty behind a fault", x.count(4), 0);
        Texts.feed(x, "a1" + " ".repeat(157) + "2" + " ".repeat(160));
        b.due("320 bytes", x.count(4), 320);
        b.due("n 160", x.calendar(160), -1159);
        b.due("all 320 are gone", x.count(4), 0);
        Texts.feed(x, "a1" + " ".repeat(157) + "2");
        b.due("n 159", x.calendar(159), 1);
        b.sentence(3, "laid over what is told");
        x = new LivingDays();
        x.stay(5, 0, 1079);
        x.home(1, 3, 3, true);
        x.centre(2, 3, 3);
        Texts.lay(x, "a3,-1079,b0");
        b.text("what it does not speak of stays", x, "b0,f1..2,a3,f4..1078");
        b.due("homes stay", x.at(3, 2), 2);
        b.due("the centre stays", x.at(3, 1), 2);
        b.sentence(3, "how many STAYS");
        b.due("one", Texts.lay(x, "-0..1079"), 1);
        b.due("like ones, and nowhere", Texts.lay(x, "a1,a1,-1"), 3);
        b.due("the most that 160 bytes have", Texts.lay(x, "a0,".repeat(52) + "b100"), 53);
        b.text("the last of them, too", x, "a0,b100");
        b.sentence(3, "a FAULT: -1000 times its number, less its place (all stays)");
        b.due("fault 1 at place 0", Texts.lay(x, "x"), -1000);
        b.due("fault 1 at place 160", Texts.lay(x, "a1" + " ".repeat(157) + ","), -1160);
        b.due("fault 2 at place 1", Texts.lay(x, "a1080"), -2001);
        b.due("fault 2 at place 159", Texts.lay(x, "a1.." + " ".repeat(155) + "0"), -2159);
        b.text("all stays", x, "a0,b100");
        b.leavesAllButTheTape("a fault behind good stays", -1012, x2 -> x2.calendar(12));
        b.sentence(3, "NONE: no such n, it has not so many (the tape stays)");
        b.bounds("calendar", -1, (y, n) -> y.calendar(n[0]), Boundaries.n(17), Boundaries.n(0, 1, 20));
        b.leaves("n 160 of 20", -1, y -> y.calendar(160));
        x = new LivingDays();
        b.due("an empty tape", x.calendar(1), -1);
        Texts.feed(x, "a1" + " ".repeat(318));
        b.due("n 161 of 320", x.calendar(161), -1);
        b.due("n 320 of 320", x.calendar(320), -1);
        b.due("the tape stays", x.count(4), 320);
        b.due("n 160 of 320", x.calendar(160), 1);
    }

    private static void stay(Boundaries b) {
        b.sentence(4, "A STAY in a LAND (NONE: nowhere) from a DAY to a DAY");
        LivingDays x = new LivingDays();
        x.stay(0, 0, 0);
        x.stay(5, 1079, 1079);
        x.stay(3, 500, 502);
        b.text("the first and the last day, the first and the last land", x, "a0,d500..502,f1079");
        x.stay(-1, 501, 501);
        b.text("nowhere", x, "a0,d500,d502,f1079");
        b.sentence(4, "how many DAYS are otherwise then");
        x = new LivingDays();
        b.due("nowhere where one is nowhere", x.stay(-1, 0, 1079), 0);
        b.due("all", x.stay(2, 0, 1079), 1080);
        b.due("the same", x.stay(2, 0, 1079), 0);
        b.due("one", x.stay(3, 1079, 1079), 1);
        b.due("all but one", x.stay(3, 0, 1079), 1079);
        b.due("nowhere", x.stay(-1, 1, 1079), 1079);
        b.sentence(4, "NONE: no such ones (from at most to)");
        b.bounds("stay", -1, (y, n) -> y.stay(n[0], n[1], n[2]), Boundaries.n(3, 100, 200), Boundaries.n(0, -1, 5),
            Boundaries.n(1, 0, 200), Boundaries.n(2, 100, 1079));
        b.leaves("both days behind the last", -1, y -> y.stay(3, 1080, 1080));
        b.leaves("both days ahead of the first", -1, y -> y.stay(3, -1, -1));
    }

    private static void home(Boundaries b) {
        b.sentence(5, "HOMES in a LAND on these DAYS, or none (is)");
        LivingDays x = new LivingDays();
        x.home(0, 0, 0, true);
        x.home(5, 0, 1079, true);
        b.due("the first day", x.at(0, 2), 33);
        b.due("the last day", x.at(1079, 2), 32);
        x.home(5, 1, 1078, false);
        b.due("no more on day 1", x.at(1, 2), 0);
        b.due("no more on day 1078", x.at(1078, 2), 0);
        b.due("on day 0 still", x.at(0, 2), 33);
        b.due("on day 1079 still", x.at(1079, 2), 32);
        b.due("one is nowhere by it", x.count(0), 0);
        b.sentence(5, "how many DAYS are otherwise then");
        b.due("none where there is none", x.home(1, 0, 1079, false), 0);
        b.due("all", x.home(1, 0, 1079, true), 1080);
        b.due("the same", x.home(1, 0, 1079, true), 0);
        b.due("the last day no more", x.home(1, 1079, 1079, false), 1);
        b.due("one of all", x.home(1, 0, 1079, true), 1);
        b.due("all no more", x.home(1, 0, 1079, false), 1080);
        b.sentence(5, "NONE: no such ones");
        for (boolean is : new boolean[] {true, false}) {
            b.bounds("home " + is, -1, (y, n) -> y.home(n[0], n[1], n[2], is), Boundaries.n(3, 100, 200),
                Boundaries.n(0, 0, 5), Boundaries.n(1, 0, 200), Boundaries.n(2, 100, 1079));
        }
    }

    private static void centre(Boundaries b) {
        b.sentence(6, "THE CENTRE is in a LAND (NONE: in none) on these DAYS");
        LivingDays x = new LivingDays();
        x.centre(0, 0, 0);
        x.centre(5, 1078, 1079);
        b.due("the first day", x.at(0, 1), 0);
        b.due("the day behind", x.at(1, 1), -2);
        b.due("the last day", x.at(1079, 1), 5);
        x.centre(-1, 1079, 1079);
        b.due("in none", x.at(1079, 1), -2);
        b.due("the day ahead of it", x.at(1078, 1), 5);
        b.due("one is nowhere by it", x.count(0), 0);
        b.sentence(6, "how many are otherwise then");
        b.due("all but one", x.centre(0, 0, 1079), 1079);
        b.due("the same", x.centre(0, 0, 1079), 0);
        b.due("all", x.centre(-1, 0, 1079), 1080);
        b.due("none again", x.centre(-1, 0, 1079), 0);
        b.sentence(6, "NONE: no such ones");
        b.bounds("centre", -1, (y, n) -> y.centre(n[0], n[1], n[2]), Boundaries.n(3, 100, 200),
            Boundaries.n(0, -1, 5), Boundaries.n(1, 0, 200), Boundaries.n(2, 100, 1079));
    }

    private static void nation(Boundaries b) {
        b.sentence(7, "A LAND is in NATION, or no more: true");
        LivingDays x = new LivingDays();
        b.due("land 0", x.nation(0, true), true);
        b.due("land 5", x.nation(5, true), true);
        b.due("both", x.count(1), 33);
        b.due("land 0 no more", x.nation(0, false), true);
        b.due("the other", x.count(1), 32);
        b.sentence(7, "false: it is so, no such one");
        b.leaves("it is in", 0, y -> Boundaries.bit(y.nation(1, true)));
        b.leaves("it is not in", 0, y -> Boundaries.bit(y.nation(0, false)));
        b.bounds("nation", 0, (y, n) -> Boundaries.bit(y.nation(n[0], !hasBit(y, n[0]))), Boundaries.n(2),
            Boundaries.n(0, 0, 5));
        b.leaves("land -1, no more", 0, y -> Boundaries.bit(y.nation(-1, false)));
        b.leaves("land 6, no more", 0, y -> Boundaries.bit(y.nation(6, false)));
    }

    private static boolean hasBit(LivingDays x, int land) {
        return x.told(land, 6) == 1;
    }

    /** The document's draws once more: {first day that is not told, land of the last stay}. */
    private static int[] draw(int seed, int n, int most) {
        long state = seed & 65535L;
        int day = 0;
        int land = -1;
        for (int k = 0; k < n; k++) {
            state = (25173 * state + 13849) % 65536;
            int next = (int) (state / 4 % 7) - 1;
            state = (25173 * state + 13849) % 65536;
            land = day < 1080 ? next : land;
            day += (int) (state / 4 % most) + 1;
        }
        return new int[] {day, land};
    }

    /** The least seed for which n draws come to just so many days. */
    private static int seedFor(int days, int n, int most) {
        int seed = 0;
        while (seed < 65535 && draw(seed, n, most)[0] != days) {
            seed++;
        }
        return seed;
    }

    private static void drawn(Boundaries b) {
        b.sentence(8, "All DAYS anew by a seed: one is nowhere, then n STAYS (1 to 100) by DRAWS, one behind the "
            + "other from DAY 0 on");
        LivingDays x = new LivingDays();
        x.stay(0, 0, 1079);
        x.home(4, 0, 1079, true);
        x.centre(4, 0, 1079);
        // X = 39022: 9755 modulo 7 is 4, land 3; then X = 61087: 15271 modulo 10 is 1, two days
        b.due("n 1", x.drawn(1, 1, 10), 2);
        b.text("nowhere behind it", x, "d0..1");
        b.due("homes stay", x.days(4, 2, 1), 360);
        b.due("the centre stays", x.days(4, 2, 2), 360);
        b.due("n 100", x.drawn(77, 100, 10), draw(77, 100, 10)[0]);
        b.sentence(8, "a LAND (a DRAW of 7 less 1: NONE nowhere)");
        boolean[] seen = new boolean[7];
        for (int seed = 0; seed < 40000; seed += 997) {
            int land = draw(seed, 1, 1)[1];
            seen[land + 1] = true;
            x.drawn(seed, 1, 1);
            b.due("the land of seed " + seed, x.at(0, 0), land == -1 ? -2 : land);
        }
        for (int land = -1; land < 6; land++) {
            b.due("land " + land + " has been drawn", seen[land + 1], true);
        }
        b.sentence(8, "as many DAYS as a DRAW of most (1 to 360) and 1, till DAY 1079");
        b.due("most 1: a day each", x.drawn(5, 100, 1), 100);
        b.due("most 360", x.drawn(9, 1, 360), draw(9, 1, 360)[0]);
        int whole = seedFor(360, 1, 360);
        b.due("360 days at the most", x.drawn(whole, 1, 360), 360);
        b.due("one at the least", x.drawn(seedFor(1, 1, 360), 1, 360), 1);
        int beyond = seedFor(1100, 6, 360);
        b.due("cut at the end", x.drawn(beyond, 6, 360), 1080);
        int last = draw(beyond, 6, 360)[1];
        b.due("to the last day", x.at(1079, 0), last == -1 ? -2 : last);
        b.sentence(8, "the first DAY on which none is told (1080: none)");
        b.due("1079", x.drawn(seedFor(1079, 6, 360), 6, 360), 1079);
        b.due("nowhere on 1079", x.at(1079, 0), -2);
        b.due("just 1080", x.drawn(seedFor(1080, 6, 360), 6, 360), 1080);
        b.due("more, with stays that are left", x.drawn(3, 100, 360), 1080);
        b.sentence(8, "A DRAW of m: X = (25173 X + 13849) modulo 65536 (X is the lowest 16 bits of the seed at "
            + "first): X through 4, cut, modulo m.");
        int[][] alike = {{0, 65536}, {0, MIN_VALUE}, {65535, -1}, {65535, MAX_VALUE}, {1, 65537}, {32768, -32768}};
        for (int[] seeds : alike) {
            x.drawn(seeds[0], 20, 30);
            String first = Texts.read(x);
            x = new LivingDays();
            x.drawn(seeds[1], 20, 30);
            b.text("seed " + seeds[1] + " is as " + seeds[0], x, first);
            b.due("as by hand", x.drawn(seeds[1], 20, 30), draw(seeds[0], 20, 30)[0]);
        }
        b.sentence(8, "NONE: no such ones");
        b.bounds("drawn", -1, (y, n) -> y.drawn(n[0], n[1], n[2]), Boundaries.n(1, 5, 5), Boundaries.n(1, 1, 100),
            Boundaries.n(2, 1, 360));
    }

    private static void at(Boundaries b) {
        LivingDays x = new LivingDays();
        b.sentence(9, "On a DAY, what 0 the LAND where one is, 1 THE CENTRE (-2: nowhere, none)");
        b.due("nowhere", x.at(1079, 0), -2);
        b.due("none", x.at(1079, 1), -2);
        x.stay(0, 1079, 1079);
        x.centre(5, 1079, 1079);
        x.stay(5, 0, 0);
        x.centre(0, 0, 0);
        b.due("land 0", x.at(1079, 0), 0);
        b.due("the centre in 5", x.at(1079, 1), 5);
        b.due("land 5", x.at(0, 0), 5);
        b.due("the centre in 0", x.at(0, 1), 0);
        b.sentence(9, "2 LANDS with a HOME (bits)");
        b.due("none", x.at(0, 2), 0);
        x.home(0, 0, 0, true);
        b.due("land 0", x.at(0, 2), 1);
        x.home(5, 0, 0, true);
        b.due("land 5, too", x.at(0, 2), 33);
        b.sentence(9, "NONE: no such ones");
        b.bounds("at", -1, (y, n) -> y.at(n[0], n[1]), Boundaries.n(5, 1), Boundaries.n(0, 0, 1079),
            Boundaries.n(1, 0, 2));
    }

    private static void letter(Boundaries b) {
        b.sentence(10, "The CALENDAR as a TEXT without blanks: STAYS that are as long as can be, by DAYS, nowhere "
            + "left out");
        LivingDays x = new LivingDays();
        Texts.lay(x, "b7..9 , b5..6 , a2 , c360 , c359 , a4");
        b.text("joined, in their row", x, "a2,a4,b5..9,c359..360");
        x.stay(-1, 0, 1079);
        b.text("nowhere is no text", x, "");
        x.stay(5, 0, 1079);
        b.text("all in one", x, "f0..1079");
        b.sentence(10, "a letter and a DAY, .. and a DAY if it is longer");
        x = new LivingDays();
        x.stay(0, 8, 9);
        x.stay(1, 10, 10);
        x.stay(2, 99, 100);
        x.stay(3, 998, 999);
        x.stay(4, 1000, 1000);
        x.stay(5, 1078, 1079);
        b.text("one to four digits", x, "a8..9,b10,c99..100,d998..999,e1000,f1078..1079");
        b.sentence(10, "its byte k");
        b.due("the first", x.letter(0), 'a');
        b.due("the last", x.letter(45), '9');
        b.due("points", x.letter(2) * 1000 + x.letter(3), 46046);
        b.due("a comma", x.letter(5), 44);
        b.sentence(10, "k NONE: how many");
        b.due("some", x.letter(-1), 46);
        b.due("none", new LivingDays().letter(-1), 0);
        LivingDays most = new LivingDays();
        Texts.alternate(most);
        b.due("the most", most.letter(-1), 10 * 3 + 90 * 4 + 900 * 5 + 80 * 6 - 1);
        b.due("the last byte of the most", most.letter(5368), '9');
        b.due("none behind it", most.letter(5369), -2);
        b.sentence(10, "-2: not so many");
        b.leaves("far behind", -2, y -> y.letter(MAX_VALUE));
        b.due("behind the last", x.letter(46), -2);
        b.due("of no text", new LivingDays().letter(0), -2);
        b.sentence(10, "NONE: k is below that");
        b.leaves("k -2", -1, y -> y.letter(-2));
        b.leaves("k least", -1, y -> y.letter(MIN_VALUE));
    }
}

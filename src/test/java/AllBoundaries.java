import static java.lang.Integer.MAX_VALUE;
import static java.lang.Integer.MIN_VALUE;

/** The boundary cases of promises 58 to 60: counts, states kept and undone. */
final class AllBoundaries {
    private AllBoundaries() {
    }

    static void run(Boundaries b) {
        count(b);
        keep(b);
        undo(b);
    }

    private static void count(Boundaries b) {
        LivingDays x = new LivingDays();
        b.sentence(58, "0 DAYS somewhere");
        b.due("none", x.count(0), 0);
        x.stay(0, 0, 0);
        x.stay(5, 1079, 1079);
        b.due("two", x.count(0), 2);
        x.stay(5, 0, 1079);
        b.due("all", x.count(0), 1080);
        b.sentence(58, "1 NATION (bits)");
        b.due("none", x.count(1), 0);
        x.nation(0, true);
        b.due("land 0", x.count(1), 1);
        x.nation(5, true);
        b.due("land 5, too", x.count(1), 33);
        b.sentence(58, "2 OVERSTAYS in all LANDS");
        b.due("none", x.count(2), 0);
        x.window(5, 1, 0);
        b.due("on all days", x.count(2), 1080);
        x.stay(0, 0, 9);
        x.window(0, 10, 9);
        b.due("in two lands", x.count(2), 1071);
        b.sentence(58, "3 STAYS (as letter() tells)");
        b.due("two", x.count(3), 2);
        x.stay(-1, 0, 1079);
        b.due("none", x.count(3), 0);
        x.stay(5, 1079, 1079);
        x.stay(5, 0, 0);
        b.due("the first day and the last", x.count(3), 2);
        x.stay(5, 0, 1079);
        b.due("one", x.count(3), 1);
        LivingDays most = new LivingDays();
        Texts.alternate(most);
        b.due("the most", most.count(3), 1080);
        b.sentence(58, "4 bytes of the tape");
        b.due("none", x.count(4), 0);
        for (int k = 1; k <= 16; k++) {
            x.feed(0, 0, 0, 0, 0);
            b.due("feed " + k, x.count(4), 20 * k);
        }
        x.feed(0, 0, 0, 0, 0);
        b.due("full", x.count(4), 320);
        x.order(0, 0);
        b.due("none again", x.count(4), 0);
        b.sentence(58, "5 states that are kept");
        b.due("none", x.count(5), 0);
        for (int k = 1; k <= 8; k++) {
            x.keep();
            b.due("keep " + k, x.count(5), k);
        }
        x.keep();
        b.due("8 at the most", x.count(5), 8);
        x.undo();
        b.due("7 are left", x.count(5), 7);
        b.sentence(58, "NONE for others");
        for (int what : new int[] {-1, 6, MIN_VALUE, MAX_VALUE}) {
            b.leaves("what " + what, -1, y -> y.count(what));
        }
    }

    /** States that differ by one stay each, as many as can be. */
    private static LivingDays full(Boundaries b) {
        LivingDays x = new LivingDays();
        for (int k = 1; k <= 8; k++) {
            x.stay(k % 6, k, k);
            b.due("keep " + k, x.keep(), k);
        }
        return x;
    }

    private static void keep(Boundaries b) {
        b.sentence(59, "All but the tape is kept");
        LivingDays x = Rich.made(true);
        x.keep();
        x.drawn(1, 100, 3);
        for (int land = 0; land < 6; land++) {
            x.home(land, 0, 1079, land % 2 == 0);
            x.nation(land, land % 2 == 0);
            x.window(land, 5, 4);
            x.entries(land, 9);
            x.tax(land, 33);
            x.order(land, 0);
            for (int sort = 0; sort < 3; sort++) {
                x.rule(land, sort, 77);
            }
        }
        x.centre(3, 0, 1079);
        x.treaty(0, 1, 0);
        x.without(0, 2);
        x.without(4, 5);
        x.treaty(2, 3, 0);
        x.partner();
        b.due("the tape was emptied in between", x.count(4), 0);
        x.feed(0, 0, 0, 0, 0);
        b.due("undo", x.undo(), 1);
        b.due("the tape is as it is now", x.count(4), 20);
        x.order(2, 0);
        String want = Rich.read(Rich.made(false));
        String got = Rich.read(x);
        b.due("all is as it was: <" + got + ">, due is <" + want + ">", got.equals(want), true);
        b.sentence(59, "how many states are");
        x = full(b);
        b.sentence(59, "NONE: 8 are");
        x.stay(5, 1000, 1000);
        b.due("a ninth", x.keep(), -1);
        b.due("8 are still", x.count(5), 8);
        b.due("the days stay", x.at(1000, 0), 5);
        b.due("undo goes to the eighth", x.undo(), 7);
        b.due("which has the day not", x.at(1000, 0), -2);
        b.due("one more may be kept", x.keep(), 8);
        b.due("and no other", x.keep(), -1);
    }

    private static void undo(Boundaries b) {
        b.sentence(60, "All is as it was kept last (that state is gone)");
        LivingDays x = full(b);
        x.stay(-1, 0, 1079);
        for (int k = 8; k >= 1; k--) {
            x.undo();
            b.due("state " + k + " has its last day", x.at(k, 0), k % 6);
            b.due("state " + k + " has no day behind it", x.at(k + 1, 0), -2);
            b.due("so many days", x.count(0), k);
            x.stay(0, 0, 1079);
        }
        x = new LivingDays();
        x.stay(1, 0, 0);
        x.keep();
        x.stay(2, 0, 0);
        x.undo();
        x.stay(3, 0, 0);
        b.due("that state is gone", x.undo(), -1);
        b.due("all stays then", x.at(0, 0), 3);
        x = new LivingDays();
        x.keep();
        x.partner();
        x.keep();
        x.undo();
        b.due("the partner is as it was", x.together(0, 0), 0);
        x.undo();
        b.due("no partner is as it was", x.together(0, 0), -2);
        b.sentence(60, "how many are left");
        x = full(b);
        for (int k = 7; k >= 0; k--) {
            b.due("undo", x.undo(), k);
        }
        b.sentence(60, "NONE: there is none");
        b.due("no more", x.undo(), -1);
        b.due("at first", new LivingDays().undo(), -1);
        LivingDays rich = Rich.made(true);
        rich.undo();
        LivingDays like = Rich.made(true);
        like.undo();
        b.due("none is left", rich.undo(), -1);
        String got = Rich.read(rich);
        b.due("it changes nothing", got.equals(Rich.read(like)), true);
        b.due("keep again", x.keep(), 1);
    }
}

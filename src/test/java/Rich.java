/**
 * A calendar in which something of each kind is told, and all of it read back as one text. Some 45 calls
 * make it and some 370 read it: that is below the 512 of which the document speaks.
 */
final class Rich {
    static final String TAPE = "e1000..1010,-0..4   ";
    private static final int[] DAYS = {0, 1, 49, 50, 99, 100, 349, 350, 370, 371, 1000, 1078, 1079};

    private Rich() {
    }

    /** With or without bytes on the tape. */
    static LivingDays made(boolean withTape) {
        LivingDays x = new LivingDays();
        Texts.lay(x, "a0..9,b10..29,a100..149,c360..459,b719..720,f1079");
        x.home(0, 0, 49, true);
        x.home(2, 350, 370, true);
        x.home(5, 1079, 1079, true);
        x.centre(1, 0, 99);
        x.centre(0, 1079, 1079);
        x.nation(1, true);
        x.nation(5, true);
        x.window(0, 60, 30);
        x.window(1, 10, 10);
        x.window(5, 1, 0);
        x.rule(0, 0, 50);
        x.rule(1, 1, 31);
        x.rule(2, 2, 5);
        x.rule(5, 0, 1);
        x.entries(0, 1);
        x.entries(3, 100);
        x.tax(0, 10);
        x.tax(1, 20);
        x.tax(5, 60);
        Texts.setOrder(x, 1, "dn");
        Texts.setOrder(x, 2, "");
        Texts.setTreaty(x, 0, 2, "cd");
        Texts.setTreaty(x, 4, 5, "");
        x.partner();
        x.keep();
        x.stay(3, 500, 510);
        x.tax(1, 21);
        if (withTape) {
            Texts.feed(x, TAPE);
        }
        return x;
    }

    /** All that can be asked for; the object is used up by it (a kept state and the tape are read, too). */
    static String read(LivingDays x) {
        StringBuilder all = new StringBuilder();
        all.append(Texts.read(x));
        for (int day : DAYS) {
            all.append(' ').append(x.at(day, 1)).append(' ').append(x.at(day, 2));
        }
        for (int land = 0; land < 6; land++) {
            readLand(x, land, all);
        }
        for (int what = 0; what < 6; what++) {
            all.append(" count ").append(x.count(what));
        }
        for (int year = 0; year < 3; year++) {
            all.append(" together ").append(x.together(year, 0)).append(' ').append(x.together(year, 2));
        }
        for (int a = 0; a < 6; a++) {
            for (int b = a + 1; b < 6; b++) {
                all.append(" treaty ").append(x.by(a, b, 0)).append(x.without(a, b));
            }
        }
        all.append(" tape ").append(x.calendar(20)).append(' ').append(Texts.read(x));
        all.append(" undo ").append(x.undo()).append(' ').append(Texts.read(x)).append(' ').append(x.told(1, 5));
        return all.toString();
    }

    private static void readLand(LivingDays x, int land, StringBuilder all) {
        all.append(" land");
        for (int what = 0; what < 12; what++) {
            all.append(' ').append(x.told(land, what));
        }
        for (int year = 0; year < 3; year++) {
            all.append(' ').append(x.days(land, year, 1)).append(' ').append(x.days(land, year, 2));
        }
        all.append(" entries ").append(x.entries(land, 0));
    }
}

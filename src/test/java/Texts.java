/** Texts for the tape, and the calendar's text read back. */
final class Texts {
    private Texts() {
    }

    /** Feeds a text, filled up to full twenties with a sign that no text may have. */
    static void feed(LivingDays x, String text) {
        for (int k = 0; k < text.length(); k += 20) {
            int[] w = new int[5];
            for (int j = 0; j < 20; j++) {
                w[j / 4] = w[j / 4] << 8 | (k + j < text.length() ? text.charAt(k + j) : '~');
            }
            x.feed(w[0], w[1], w[2], w[3], w[4]);
        }
    }

    static int lay(LivingDays x, String text) {
        feed(x, text);
        return x.calendar(text.length());
    }

    /** A new object with one text laid over it. */
    static LivingDays told(String text) {
        LivingDays x = new LivingDays();
        lay(x, text);
        return x;
    }

    static int plan(LivingDays x, String text, int what) {
        feed(x, text);
        return x.trip(text.length(), what);
    }

    static boolean setOrder(LivingDays x, int land, String row) {
        feed(x, row);
        return x.order(land, row.length());
    }

    static boolean setTreaty(LivingDays x, int a, int b, String row) {
        feed(x, row);
        return x.treaty(a, b, row.length());
    }

    /** From DAY 0 on a day in a, a day in b, by texts: day by day would be more calls than there are. */
    static void alternate(LivingDays x) {
        x.stay(0, 0, 1079);
        StringBuilder text = new StringBuilder();
        for (int day = 1; day < 1080; day += 2) {
            text.append(text.length() > 0 ? "," : "").append('b').append(day);
            if (text.length() > 154 || day == 1079) {
                lay(x, text.toString());
                text.setLength(0);
            }
        }
    }

    /** The calendar's text, by one call for each byte and one for how many. */
    static String read(LivingDays x) {
        int length = x.letter(-1);
        StringBuilder text = new StringBuilder();
        for (int k = 0; k < length; k++) {
            text.append((char) x.letter(k));
        }
        return text.toString();
    }
}

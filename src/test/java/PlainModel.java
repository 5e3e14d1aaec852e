import java.util.ArrayList;
import java.util.List;

/**
 * The document once more, word by word and as slowly as its words: counts are made anew at each
 * question, what would be is laid over a copy of all days. RandomRunsTest sets LivingDays against it.
 */
final class PlainModel {
    private static final int DAYS = 1080;

    private static final class All {
        int[] where = filled();
        int[] centre = filled();
        boolean[][] home = new boolean[6][DAYS];
        boolean[] nation = new boolean[6];
        int[] w = new int[6];
        int[] m = new int[6];
        int[][] rule = new int[6][3];
        String[] order = {"hcdn", "hcdn", "hcdn", "hcdn", "hcdn", "hcdn"};
        String[][] treaty = new String[6][6];
        int[] tax = new int[6];
        int[] entries = new int[6];
        int[] partner = null;

        All copy() {
            All c = new All();
            c.where = where.clone();
            c.centre = centre.clone();
            for (int land = 0; land < 6; land++) {
                c.home[land] = home[land].clone();
                c.rule[land] = rule[land].clone();
                c.treaty[land] = treaty[land].clone();
            }
            c.nation = nation.clone();
            c.w = w.clone();
            c.m = m.clone();
            c.order = order.clone();
            c.tax = tax.clone();
            c.entries = entries.clone();
            c.partner = partner == null ? null : partner.clone();
            return c;
        }

        private static int[] filled() {
            int[] row = new int[DAYS];
            java.util.Arrays.fill(row, -1);
            return row;
        }
    }

    private All all = new All();
    private final List<All> kept = new ArrayList<>();
    private final StringBuilder tape = new StringBuilder();

    // ---- what calls may be given

    private static boolean land(int x) {
        return x >= 0 && x <= 5;
    }

    private static boolean place(int x) {
        return x >= -1 && x <= 5;
    }

    private static boolean day(int x) {
        return x >= 0 && x < DAYS;
    }

    private static boolean span(int from, int to) {
        return day(from) && day(to) && from <= to;
    }

    private static boolean year(int x) {
        return x >= 0 && x <= 2;
    }

    // ---- days

    int feed(int... words) {
        if (tape.length() + 20 > 320) {
            return -1;
        }
        for (int word : words) {
            for (int k = 3; k >= 0; k--) {
                tape.append((char) (word >>> 8 * k & 255));
            }
        }
        return tape.length();
    }

    private String take(int n) {
        String text = tape.substring(0, n);
        tape.setLength(0);
        return text;
    }

    /** Lays a calendar's text over days; its answer. Days are changed only if there is no fault. */
    private static int lay(String text, int[] where) {
        int[] result = where.clone();
        int stays = 0;
        // 0 letter, 1 first number, 2 behind it, 3 second point, 4 second number, 5 behind it
        int state = 0;
        int land = -1;
        int first = 0;
        int digits = 0;
        int value = 0;
        for (int k = 0; k <= text.length(); k++) {
            int c = k < text.length() ? text.charAt(k) : -1;
            if (digits > 0 && !(c >= '0' && c <= '9')) {
                if (value > 1079 || state == 4 && value < first) {
                    return -2000 - (k - digits);
                }
                if (state == 1) {
                    first = value;
                    state = 2;
                } else {
                    state = 5;
                }
                digits = 0;
            }
            if (c == ' ' && state != 3) {
                continue;
            }
            if (state == 0 && (c >= 'a' && c <= 'f' || c == '-')) {
                land = c == '-' ? -1 : c - 'a';
                state = 1;
                value = 0;
            } else if ((state == 1 || state == 4) && c >= '0' && c <= '9' && digits < 4) {
                value = 10 * value + c - '0';
                digits++;
            } else if (state == 2 && c == '.') {
                state = 3;
            } else if (state == 3 && c == '.') {
                state = 4;
                value = 0;
            } else if ((state == 2 || state == 5) && (c == ',' || c == -1)) {
                int last = state == 2 ? first : value;
                for (int d = first; d <= last; d++) {
                    result[d] = land;
                }
                stays++;
                state = 0;
            } else {
                return -1000 - k;
            }
        }
        System.arraycopy(result, 0, where, 0, DAYS);
        return stays;
    }

    int calendar(int n) {
        if (n < 1 || n > 160 || n > tape.length()) {
            return -1;
        }
        return lay(take(n), all.where);
    }

    private static int changed(int[] a, int[] b) {
        int number = 0;
        for (int d = 0; d < DAYS; d++) {
            number += a[d] != b[d] ? 1 : 0;
        }
        return number;
    }

    private static int[] with(int[] row, int land, int from, int to) {
        int[] result = row.clone();
        for (int d = from; d <= to; d++) {
            result[d] = land;
        }
        return result;
    }

    int stay(int land, int from, int to) {
        if (!place(land) || !span(from, to)) {
            return -1;
        }
        int[] before = all.where;
        all.where = with(before, land, from, to);
        return changed(before, all.where);
    }

    int home(int land, int from, int to, boolean is) {
        if (!land(land) || !span(from, to)) {
            return -1;
        }
        int number = 0;
        for (int d = from; d <= to; d++) {
            number += all.home[land][d] != is ? 1 : 0;
            all.home[land][d] = is;
        }
        return number;
    }

    int centre(int land, int from, int to) {
        if (!place(land) || !span(from, to)) {
            return -1;
        }
        int[] before = all.centre;
        all.centre = with(before, land, from, to);
        return changed(before, all.centre);
    }

    boolean nation(int land, boolean is) {
        if (!land(land) || all.nation[land] == is) {
            return false;
        }
        all.nation[land] = is;
        return true;
    }

    int drawn(int seed, int n, int most) {
        if (n < 1 || n > 100 || most < 1 || most > 360) {
            return -1;
        }
        int[] result = with(all.where, -1, 0, DAYS - 1);
        long x = Math.floorMod((long) seed, 65536L);
        int d = 0;
        for (int k = 0; k < n; k++) {
            x = (25173L * x + 13849L) % 65536L;
            int land = (int) (x / 4 % 7) - 1;
            x = (25173L * x + 13849L) % 65536L;
            int length = (int) (x / 4 % most) + 1;
            for (int j = 0; j < length && d < DAYS; j++) {
                result[d++] = land;
            }
        }
        all.where = result;
        return d;
    }

    int at(int day, int what) {
        if (!day(day) || what < 0 || what > 2) {
            return -1;
        }
        if (what == 2) {
            int bits = 0;
            for (int land = 0; land < 6; land++) {
                bits += all.home[land][day] ? 1 << land : 0;
            }
            return bits;
        }
        int land = what == 0 ? all.where[day] : all.centre[day];
        return land < 0 ? -2 : land;
    }

    /** Rows of days on end in one place, each {place, first, last}. */
    private static List<int[]> rows(int[] row, int from, int to) {
        List<int[]> rows = new ArrayList<>();
        for (int d = from; d <= to; d++) {
            if (d > from && row[d] == row[d - 1]) {
                rows.get(rows.size() - 1)[2] = d;
            } else {
                rows.add(new int[] {row[d], d, d});
            }
        }
        return rows;
    }

    private static List<int[]> rowsIn(int[] row, int land, int from, int to) {
        List<int[]> rows = rows(row, from, to);
        rows.removeIf(r -> r[0] != land);
        return rows;
    }

    private String text() {
        List<String> stays = new ArrayList<>();
        for (int[] row : rows(all.where, 0, DAYS - 1)) {
            if (row[0] >= 0) {
                stays.add((char) ('a' + row[0]) + "" + row[1] + (row[2] > row[1] ? ".." + row[2] : ""));
            }
        }
        return String.join(",", stays);
    }

    private int stayCount() {
        return text().isEmpty() ? 0 : text().split(",").length;
    }

    int letter(int k) {
        if (k < -1) {
            return -1;
        }
        String text = text();
        return k == -1 ? text.length() : k < text.length() ? text.charAt(k) : -2;
    }

    // ---- rules

    int window(int land, int w, int m) {
        if (!land(land) || w < 0 || w > 360 || m < 0 || m > w) {
            return -1;
        }
        int was = all.w[land];
        all.w[land] = w;
        all.m[land] = m;
        return was;
    }

    int rule(int land, int sort, int n) {
        if (!land(land) || sort < 0 || sort > 2 || n < 0 || n > 360) {
            return -1;
        }
        int was = all.rule[land][sort];
        all.rule[land][sort] = n;
        return was;
    }

    private static boolean letters(String row) {
        for (int k = 0; k < row.length(); k++) {
            if ("hcdn".indexOf(row.charAt(k)) < 0 || row.indexOf(row.charAt(k)) != k) {
                return false;
            }
        }
        return true;
    }

    boolean order(int land, int n) {
        if (!land(land) || n < 0 || n > 4 || n > tape.length()) {
            return false;
        }
        String row = take(n);
        if (!letters(row)) {
            return false;
        }
        all.order[land] = row;
        return true;
    }

    int entries(int land, int n) {
        if (!land(land) || n < 0 || n > 100) {
            return -1;
        }
        int was = all.entries[land];
        all.entries[land] = n;
        return was;
    }

    int entered(int land, int year, int what) {
        if (!land(land) || !year(year) || what < 0 || what > 2) {
            return -1;
        }
        List<Integer> found = new ArrayList<>();
        for (int d = 360 * year; d < 360 * year + 360; d++) {
            if (all.where[d] == land && (d == 0 || all.where[d - 1] != land)) {
                found.add(d);
            }
        }
        int let = all.entries[land] == 0 ? 1000 : all.entries[land];
        if (what == 0) {
            return found.size();
        }
        if (found.size() <= let) {
            return what == 1 ? 0 : -2;
        }
        return what == 1 ? found.size() - let : found.get(let);
    }

    boolean treaty(int a, int b, int n) {
        if (!land(a) || !land(b) || a == b || n < 0 || n > 4 || n > tape.length()) {
            return false;
        }
        String row = take(n);
        if (!letters(row)) {
            return false;
        }
        all.treaty[Math.min(a, b)][Math.max(a, b)] = row;
        return true;
    }

    boolean without(int a, int b) {
        if (!land(a) || !land(b) || a == b || all.treaty[Math.min(a, b)][Math.max(a, b)] == null) {
            return false;
        }
        all.treaty[Math.min(a, b)][Math.max(a, b)] = null;
        return true;
    }

    int tax(int land, int r) {
        if (!land(land) || r < 0 || r > 60) {
            return -1;
        }
        int was = all.tax[land];
        all.tax[land] = r;
        return was;
    }

    int told(int land, int what) {
        if (!land(land) || what < 0 || what > 11) {
            return -1;
        }
        String order = all.order[land];
        if (what >= 8) {
            return what - 8 < order.length() ? "hcdn".indexOf(order.charAt(what - 8)) : -2;
        }
        int[] answers = {all.w[land], all.m[land], all.rule[land][0], all.rule[land][1], all.rule[land][2],
            all.tax[land], all.nation[land] ? 1 : 0, order.length()};
        return answers[what];
    }

    // ---- counted

    private static int number(int[] row, int land, int from, int to) {
        int number = 0;
        for (int d = Math.max(from, 0); d <= Math.min(to, DAYS - 1); d++) {
            number += row[d] == land ? 1 : 0;
        }
        return number;
    }

    private static int ofYear(int[] row, int land, int year) {
        return year < 0 ? 0 : number(row, land, 360 * year, 360 * year + 359);
    }

    private int homes(int land, int year) {
        int number = 0;
        for (int d = 360 * year; d < 360 * year + 360; d++) {
            number += all.home[land][d] ? 1 : 0;
        }
        return number;
    }

    int days(int land, int year, int what) {
        if (!land(land) || !year(year) || what < 0 || what > 4) {
            return -1;
        }
        List<int[]> rows = rowsIn(all.where, land, 360 * year, 360 * year + 359);
        int longest = 0;
        for (int[] row : rows) {
            longest = Math.max(longest, row[2] - row[1] + 1);
        }
        int[] answers = {ofYear(all.where, land, year), homes(land, year), ofYear(all.centre, land, year),
            rows.size(), longest};
        return answers[what];
    }

    int month(int land, int month) {
        if (!land(land) || month < 0 || month > 35) {
            return -1;
        }
        return number(all.where, land, 30 * month, 30 * month + 29);
    }

    int within(int land, int day, int w) {
        if (!land(land) || !day(day) || w < 1 || w > 1080) {
            return -1;
        }
        return number(all.where, land, day - w + 1, day);
    }

    /** On each day by how many one is beyond m there; 0 where one does not overstay. */
    private int[] beyond(int[] row, int land) {
        int[] result = new int[DAYS];
        int held = 0;
        for (int d = 0; d < DAYS && all.w[land] > 0; d++) {
            held += row[d] == land ? 1 : 0;
            held -= d >= all.w[land] && row[d - all.w[land]] == land ? 1 : 0;
            result[d] = row[d] == land && held > all.m[land] ? held - all.m[land] : 0;
        }
        return result;
    }

    int overstays(int land, int from, int to, int what) {
        if (!land(land) || !span(from, to) || what < 0 || what > 2) {
            return -1;
        }
        int[] beyond = beyond(all.where, land);
        int[] answers = {0, -2, 0};
        for (int d = to; d >= from; d--) {
            if (beyond[d] > 0) {
                answers[0]++;
                answers[1] = d;
                answers[2] = Math.max(answers[2], beyond[d]);
            }
        }
        return answers[what];
    }

    int nth(int land, int k, int what) {
        if (!land(land) || k < 0 || what < 0 || what > 2) {
            return -1;
        }
        List<int[]> rows = rowsIn(all.where, land, 0, DAYS - 1);
        if (k >= rows.size()) {
            return -2;
        }
        int[] row = rows.get(k);
        return what == 0 ? row[1] : what == 1 ? row[2] : row[2] - row[1] + 1;
    }

    int away(int land, int what) {
        if (!land(land) || what < 0 || what > 1) {
            return -1;
        }
        int[] not = new int[DAYS];
        for (int d = 0; d < DAYS; d++) {
            not[d] = all.where[d] != land ? 1 : 0;
        }
        int[] best = {0, -2};
        for (int[] row : rowsIn(not, 1, 0, DAYS - 1)) {
            if (row[2] - row[1] + 1 > best[0]) {
                best = new int[] {row[2] - row[1] + 1, row[1]};
            }
        }
        return best[what];
    }

    int travels(int land, int year) {
        if (!land(land) || !year(year)) {
            return -1;
        }
        int number = 0;
        for (int d = 360 * year; d < 360 * year + 360; d++) {
            if (all.where[d] == land) {
                boolean came = d != 0 && all.where[d - 1] != land;
                boolean goes = d != 1079 && all.where[d + 1] != land;
                number += came || goes ? 1 : 0;
            }
        }
        return number;
    }

    private boolean holdsWith(int[] row, int land, int sort, int year, int n) {
        int there = ofYear(row, land, year);
        if (sort == 0) {
            return there >= n;
        }
        if (sort == 2) {
            return homes(land, year) >= n && there >= 1;
        }
        int sum = 6 * there + 2 * ofYear(row, land, year - 1) + ofYear(row, land, year - 2);
        return there >= 31 && sum >= 6 * n;
    }

    int most(int land, int sort, int year) {
        if (!land(land) || sort < 0 || sort > 2 || !year(year)) {
            return -1;
        }
        int n = 360;
        while (n > 0 && !holdsWith(all.where, land, sort, year, n)) {
            n--;
        }
        return n;
    }

    int tight(int land, int w, int what) {
        if (!land(land) || w < 1 || w > 1080 || what < 0 || what > 1) {
            return -1;
        }
        int[] best = {0, -2};
        for (int d = 0; d < DAYS; d++) {
            int there = number(all.where, land, d - w + 1, d);
            if (there > best[0]) {
                best = new int[] {there, d};
            }
        }
        return best[what];
    }

    int rank(int year, int k) {
        if (!year(year) || k < 0 || k > 5) {
            return -1;
        }
        List<Integer> lands = new ArrayList<>(List.of(0, 1, 2, 3, 4, 5));
        lands.sort((a, b) -> ofYear(all.where, b, year) - ofYear(all.where, a, year));
        return lands.get(k);
    }

    int slide(int from, int to, int by) {
        if (!span(from, to) || (long) from + by < 0 || (long) to + by > 1079) {
            return -1;
        }
        int[] before = all.where;
        all.where = with(before, -1, from, to);
        for (int d = from; d <= to; d++) {
            all.where[d + by] = before[d];
        }
        return changed(before, all.where);
    }

    int trade(int a, int b, int from, int to) {
        if (!land(a) || !land(b) || a == b || !span(from, to)) {
            return -1;
        }
        int[] before = all.where;
        all.where = before.clone();
        for (int d = from; d <= to; d++) {
            all.where[d] = before[d] == a ? b : before[d] == b ? a : before[d];
        }
        return changed(before, all.where);
    }

    int erase(int land, int n) {
        if (!land(land) || n < 1 || n > 360) {
            return -1;
        }
        int number = 0;
        for (int[] row : rowsIn(all.where, land, 0, DAYS - 1)) {
            if (row[2] - row[1] < n) {
                all.where = with(all.where, -1, row[1], row[2]);
                number++;
            }
        }
        return number;
    }

    int routes(int a, int b, int year) {
        if (!place(a) || !place(b) || a == b || !year(year)) {
            return -1;
        }
        int number = 0;
        for (int d = 360 * year; d < 360 * year + 360; d++) {
            number += d > 0 && all.where[d] == b && all.where[d - 1] == a ? 1 : 0;
        }
        return number;
    }

    int latest(int land, int year) {
        if (!land(land) || !year(year)) {
            return -1;
        }
        for (int d = 360 * year + 359; d >= 360 * year; d--) {
            if (claims(with(all.where, land, d, 360 * year + 359), land, year)) {
                return d;
            }
        }
        return -2;
    }

    int wins(int land, int year) {
        if (!land(land) || !year(year)) {
            return -1;
        }
        if (!claims(all.where, land, year)) {
            return -2;
        }
        int number = 0;
        for (int other = 0; other < 6; other++) {
            if (other != land && claims(all.where, other, year)) {
                number += answer(all.where, land, other, year)[0] == land
                    && answer(all.where, other, land, year)[0] == land ? 1 : 0;
            }
        }
        return number;
    }

    // ---- two together

    int partner() {
        all.partner = all.where.clone();
        return stayCount();
    }

    int together(int year, int what) {
        if (!year(year) || what < 0 || what > 3) {
            return -1;
        }
        if (all.partner == null) {
            return -2;
        }
        int[] both = new int[DAYS];
        int lands = 0;
        for (int d = 360 * year; d < 360 * year + 360; d++) {
            if (all.where[d] >= 0 && all.where[d] == all.partner[d]) {
                both[d] = 1;
                lands |= 1 << all.where[d];
            }
        }
        int longest = 0;
        for (int[] row : rowsIn(both, 1, 0, DAYS - 1)) {
            longest = Math.max(longest, row[2] - row[1] + 1);
        }
        int number = number(both, 1, 0, DAYS - 1);
        int[] answers = {number, longest, lands, 360 - number};
        return answers[what];
    }

    // ---- where one lives

    private int holding(int[] row, int land, int year) {
        int bits = 0;
        for (int sort = 0; sort < 3; sort++) {
            int n = all.rule[land][sort];
            bits |= n > 0 && holdsWith(row, land, sort, year, n) ? 1 << sort : 0;
        }
        return bits;
    }

    private boolean claims(int[] row, int land, int year) {
        return holding(row, land, year) != 0;
    }

    private List<Integer> claiming(int[] row, int year) {
        List<Integer> lands = new ArrayList<>();
        for (int land = 0; land < 6; land++) {
            if (claims(row, land, year)) {
                lands.add(land);
            }
        }
        return lands;
    }

    int claims(int year) {
        if (!year(year)) {
            return -1;
        }
        int bits = 0;
        for (int land : claiming(all.where, year)) {
            bits |= 1 << land;
        }
        return bits;
    }

    int holds(int land, int year) {
        return land(land) && year(year) ? holding(all.where, land, year) : -1;
    }

    /** What a answers against b, and by which letter. */
    private int[] answer(int[] row, int a, int b, int year) {
        String treaty = all.treaty[Math.min(a, b)][Math.max(a, b)];
        String letters = treaty == null ? all.order[a] : treaty;
        for (int k = 0; k < letters.length(); k++) {
            int ofA = 0;
            int ofB = 0;
            switch (letters.charAt(k)) {
                case 'h' -> {
                    ofA = homes(a, year);
                    ofB = homes(b, year);
                }
                case 'c' -> {
                    ofA = ofYear(all.centre, a, year);
                    ofB = ofYear(all.centre, b, year);
                }
                case 'd' -> {
                    ofA = ofYear(row, a, year);
                    ofB = ofYear(row, b, year);
                }
                default -> {
                    ofA = all.nation[a] ? 1 : 0;
                    ofB = all.nation[b] ? 1 : 0;
                }
            }
            if (ofA != ofB) {
                return new int[] {ofA > ofB ? a : b, k};
            }
        }
        return new int[] {-2, -2};
    }

    int answers(int a, int b, int year) {
        return land(a) && land(b) && a != b && year(year) ? answer(all.where, a, b, year)[0] : -1;
    }

    int by(int a, int b, int year) {
        return land(a) && land(b) && a != b && year(year) ? answer(all.where, a, b, year)[1] : -1;
    }

    private int livesWith(int[] row, int year) {
        List<Integer> lands = claiming(row, year);
        for (int land : lands) {
            boolean stands = true;
            for (int other : lands) {
                if (other != land) {
                    stands &= answer(row, land, other, year)[0] == land;
                    stands &= answer(row, other, land, year)[0] == land;
                }
            }
            if (stands) {
                return land;
            }
        }
        return -2;
    }

    int lives(int year) {
        return year(year) ? livesWith(all.where, year) : -1;
    }

    int pairs(int year, int what) {
        if (!year(year) || what < 0 || what > 2) {
            return -1;
        }
        int[] answers = new int[3];
        List<Integer> lands = claiming(all.where, year);
        for (int a : lands) {
            for (int b : lands) {
                if (a < b) {
                    int one = answer(all.where, a, b, year)[0];
                    int other = answer(all.where, b, a, year)[0];
                    answers[0]++;
                    answers[1] += one != other ? 1 : 0;
                    answers[2] += one == -2 && other == -2 ? 1 : 0;
                }
            }
        }
        return answers[what];
    }

    /** FROM, TILL of a land that claims. */
    private int[] splitWith(int[] row, int land, int year) {
        int from = -1;
        int till = -1;
        for (int d = 360 * year; d < 360 * year + 360; d++) {
            if (row[d] == land || all.home[land][d]) {
                from = from < 0 ? d : from;
                till = d;
            }
        }
        if (year > 0 && claims(row, land, year - 1)) {
            from = 360 * year;
        }
        if (year < 2 && claims(row, land, year + 1)) {
            till = 360 * year + 359;
        }
        return new int[] {from, till};
    }

    int split(int land, int year, int what) {
        if (!land(land) || !year(year) || what < 0 || what > 2) {
            return -1;
        }
        if (!claims(all.where, land, year)) {
            return -2;
        }
        int[] split = splitWith(all.where, land, year);
        return what == 2 ? number(all.where, land, split[0], split[1]) : split[what];
    }

    private int owedWith(int[] row, int year) {
        int lives = livesWith(row, year);
        int[] split = lives < 0 ? null : splitWith(row, lives, year);
        int sum = 0;
        for (int d = 360 * year; d < 360 * year + 360; d++) {
            int land = split != null && d >= split[0] && d <= split[1] ? lives : row[d];
            sum += land < 0 ? 0 : 100 * all.tax[land] / 100;
        }
        return sum;
    }

    int owed(int year) {
        return year(year) ? owedWith(all.where, year) : -1;
    }

    // ---- what would be

    private int freeOf(int land, int d, int n) {
        int[] row = all.where.clone();
        int end = Math.min(d + n, DAYS) - 1;
        for (int x = d; x <= end; x++) {
            if (row[x] != land) {
                int was = row[x];
                int[] before = beyond(row, land);
                row[x] = land;
                int[] after = beyond(row, land);
                for (int e = 0; e < DAYS; e++) {
                    if (after[e] > 0 && before[e] == 0) {
                        row[x] = was;
                    }
                }
            }
        }
        return number(row, land, d, end);
    }

    int free(int land, int d, int n) {
        return land(land) && day(d) && n >= 1 && n <= 360 ? freeOf(land, d, n) : -1;
    }

    int mustLeave(int land, int d) {
        if (!land(land) || !day(d)) {
            return -1;
        }
        int[] beyond = beyond(with(all.where, land, d, DAYS - 1), land);
        for (int e = d; e < DAYS; e++) {
            if (beyond[e] > 0) {
                return e;
            }
        }
        return -2;
    }

    int mayCome(int land, int d, int n) {
        if (!land(land) || !day(d) || n < 1 || n > 360) {
            return -1;
        }
        for (int t = d; t < DAYS; t++) {
            int last = Math.min(t + n - 1, 1079);
            int[] beyond = beyond(with(all.where, land, t, last), land);
            boolean well = true;
            for (int e = t; e <= last; e++) {
                well &= beyond[e] == 0;
            }
            if (well) {
                return t;
            }
        }
        return -2;
    }

    int claimBy(int land, int d) {
        if (!land(land) || !day(d)) {
            return -1;
        }
        int[] row = all.where.clone();
        for (int e = d; e < DAYS; e++) {
            row[e] = land;
            if (claims(row, land, e / 360)) {
                return e;
            }
        }
        return -2;
    }

    int freest(int d, int n, int what) {
        if (!day(d) || n < 1 || n > 360 || what < 0 || what > 1) {
            return -1;
        }
        int[] best = {0, freeOf(0, d, n)};
        for (int land = 1; land < 6; land++) {
            int number = freeOf(land, d, n);
            if (number > best[1]) {
                best = new int[] {land, number};
            }
        }
        return best[what];
    }

    private int needOf(int land, int year) {
        int[] row = all.where.clone();
        if (claims(row, land, year)) {
            return 0;
        }
        int more = 0;
        for (int d = 360 * year; d < 360 * year + 360; d++) {
            if (row[d] != land) {
                row[d] = land;
                more++;
                if (claims(row, land, year)) {
                    return more;
                }
            }
        }
        return -2;
    }

    int need(int land, int year) {
        return land(land) && year(year) ? needOf(land, year) : -1;
    }

    int moved(int day, int land) {
        return day(day) && place(land) ? livesWith(with(all.where, land, day, day), day / 360) : -1;
    }

    int loose(int year, int what) {
        if (!year(year) || what < 0 || what > 1) {
            return -1;
        }
        int lives = livesWith(all.where, year);
        int[] answers = {0, -2};
        for (int d = 360 * year + 359; d >= 360 * year; d--) {
            boolean changes = false;
            for (int land = -1; land < 6 && !changes; land++) {
                changes = livesWith(with(all.where, land, d, d), year) != lives;
            }
            if (changes) {
                answers[0]++;
                answers[1] = d;
            }
        }
        return answers[what];
    }

    int nearest(int year, int what) {
        if (!year(year) || what < 0 || what > 1) {
            return -1;
        }
        int[] best = {-2, -2};
        for (int land = 5; land >= 0; land--) {
            if (!claims(all.where, land, year)) {
                int need = needOf(land, year);
                if (need != -2 && (best[0] == -2 || need <= best[1])) {
                    best = new int[] {land, need};
                }
            }
        }
        return best[what];
    }

    private int outcome(int[] row, int what) {
        if (what < 3) {
            return livesWith(row, what);
        }
        if (what == 3) {
            return owedWith(row, 0) + owedWith(row, 1) + owedWith(row, 2);
        }
        return overstaysOf(row);
    }

    private int overstaysOf(int[] row) {
        int number = 0;
        for (int land = 0; land < 6; land++) {
            for (int beyond : beyond(row, land)) {
                number += beyond > 0 ? 1 : 0;
            }
        }
        return number;
    }

    int instead(int a, int b, int from, int to, int what) {
        if (!land(a) || !place(b) || a == b || !span(from, to) || what < 0 || what > 4) {
            return -1;
        }
        int[] row = all.where.clone();
        for (int d = from; d <= to; d++) {
            row[d] = row[d] == a ? b : row[d];
        }
        return outcome(row, what);
    }

    int trip(int n, int what) {
        if (n < 1 || n > 160 || what < 0 || what > 4 || n > tape.length()) {
            return -1;
        }
        int[] row = all.where.clone();
        int answer = lay(take(n), row);
        return answer < 0 ? answer : outcome(row, what);
    }

    int cheapest(int from, int to, int what) {
        if (!span(from, to) || what < 0 || what > 1) {
            return -1;
        }
        int[] best = null;
        for (int land = 5; land >= 0; land--) {
            int sum = outcome(with(all.where, land, from, to), 3);
            if (best == null || sum <= best[1]) {
                best = new int[] {land, sum};
            }
        }
        return best[what];
    }

    // ---- all

    int count(int what) {
        int nations = 0;
        for (int land = 0; land < 6; land++) {
            nations |= all.nation[land] ? 1 << land : 0;
        }
        int[] answers = {DAYS - number(all.where, -1, 0, DAYS - 1), nations, overstaysOf(all.where), stayCount(),
            tape.length(), kept.size()};
        return what < 0 || what > 5 ? -1 : answers[what];
    }

    int keep() {
        if (kept.size() == 8) {
            return -1;
        }
        kept.add(all.copy());
        return kept.size();
    }

    int undo() {
        if (kept.isEmpty()) {
            return -1;
        }
        all = kept.remove(kept.size() - 1);
        return kept.size();
    }
}

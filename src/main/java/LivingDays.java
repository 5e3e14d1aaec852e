import java.util.Arrays;

/** Where one lives: days in lands, the rules of lands, and what would be (see shared/DOC.md). */
public final class LivingDays {
    public static final int NONE = -1;

    /** What a good question answers, when there is nothing that it asks for. */
    private static final int NOTHING = -2;
    private static final int DAYS = 1080;
    private static final int YEARS = 3;
    private static final int YEAR_DAYS = 360;
    private static final int MONTHS = 36;
    private static final int MONTH_DAYS = 30;
    private static final int LANDS = 6;
    private static final int SORTS = 3;
    private static final int BY_DAYS = 0;
    private static final int BY_MEAN = 1;
    private static final int MEAN_DAYS = 31;
    private static final int MOST_TAX = 60;
    private static final int MOST_ENTRIES = 100;
    private static final int MOST_DRAWN = 100;
    private static final int MOST_KEPT = 8;
    private static final int TAPE_BYTES = 320;
    private static final int TEXT_BYTES = 160;
    private static final int ROW_LETTERS = 4;
    private static final int HOMES = 0;
    private static final int CENTRE = 1;
    private static final int DAYS_THERE = 2;

    private final State now = new State();
    private final State[] kept = new State[MOST_KEPT];
    private int keptCount = 0;
    private final Tape tape = new Tape();
    private final Reader reader = new Reader(tape.bytes);
    private final Speller speller = new Speller();
    private final Judge judge = new Judge(now);
    private final Rolling rolling = new Rolling(now.rules);
    private final Places asIf = new Places();

    public LivingDays() {
    }

    // ---- days

    public int feed(int a, int b, int c, int d, int e) {
        if (tape.length + 20 > TAPE_BYTES) {
            return NONE;
        }
        tape.putWord(a);
        tape.putWord(b);
        tape.putWord(c);
        tape.putWord(d);
        tape.putWord(e);
        return tape.length;
    }

    public int calendar(int n) {
        if (!isText(n)) {
            return NONE;
        }
        int answer = reader.readText(n);
        tape.length = 0;
        if (answer > 0) {
            reader.layOver(now.places);
        }
        return answer;
    }

    public int stay(int land, int from, int to) {
        if (!isPlace(land) || !isSpan(from, to)) {
            return NONE;
        }
        return now.places.put(land, from, to);
    }

    public int home(int land, int from, int to, boolean is) {
        if (!isLand(land) || !isSpan(from, to)) {
            return NONE;
        }
        int changed = 0;
        for (int day = from; day <= to; day++) {
            if (now.hasHome(land, day) != is) {
                now.homes[day] ^= 1 << land;
                changed++;
            }
        }
        return changed;
    }

    public int centre(int land, int from, int to) {
        if (!isPlace(land) || !isSpan(from, to)) {
            return NONE;
        }
        return now.centres.put(land, from, to);
    }

    public boolean nation(int land, boolean is) {
        if (!isLand(land) || now.rules.isNation(land) == is) {
            return false;
        }
        now.rules.nations ^= 1 << land;
        return true;
    }

    public int drawn(int seed, int n, int most) {
        if (!isAmong(n, 1, MOST_DRAWN) || !isAmong(most, 1, YEAR_DAYS)) {
            return NONE;
        }
        now.places.put(NONE, 0, DAYS - 1);
        int x = seed & 65535;
        int first = 0;
        for (int k = 0; k < n && first < DAYS; k++) {
            x = nextDraw(x);
            int land = (x / 4) % 7 - 1;
            x = nextDraw(x);
            int behind = Math.min(first + (x / 4) % most + 1, DAYS);
            now.places.put(land, first, behind - 1);
            first = behind;
        }
        return first;
    }

    public int at(int day, int what) {
        if (!isDay(day) || !isAmong(what, 0, 2)) {
            return NONE;
        }
        if (what == 2) {
            return now.homes[day];
        }
        int land = what == 0 ? now.places.landOn(day) : now.centres.landOn(day);
        return land == NONE ? NOTHING : land;
    }

    public int letter(int k) {
        if (k < NONE) {
            return NONE;
        }
        speller.spell(now.places, k);
        if (k == NONE) {
            return speller.place;
        }
        return k < speller.place ? speller.found : NOTHING;
    }

    // ---- rules

    public int window(int land, int w, int m) {
        if (!isLand(land) || !isAmong(w, 0, YEAR_DAYS) || !isAmong(m, 0, w)) {
            return NONE;
        }
        int was = now.rules.spans[land];
        now.rules.spans[land] = w;
        now.rules.limits[land] = m;
        return was;
    }

    public int rule(int land, int sort, int n) {
        if (!isLand(land) || !isSort(sort) || !isAmong(n, 0, YEAR_DAYS)) {
            return NONE;
        }
        int was = now.rules.needed(land, sort);
        now.rules.claimRules[land * SORTS + sort] = n;
        return was;
    }

    public boolean order(int land, int n) {
        if (!isLand(land) || !isRow(n)) {
            return false;
        }
        int row = tape.takeRow(n);
        if (row == NONE) {
            return false;
        }
        now.rules.orders[land] = row;
        return true;
    }

    public int entries(int land, int n) {
        if (!isLand(land) || !isAmong(n, 0, MOST_ENTRIES)) {
            return NONE;
        }
        int was = now.rules.entriesLet[land];
        now.rules.entriesLet[land] = n;
        return was;
    }

    public int entered(int land, int year, int what) {
        if (!isLand(land) || !isYear(year) || !isAmong(what, 0, 2)) {
            return NONE;
        }
        int let = now.rules.entriesLet[land];
        int entries = 0;
        int firstBeyond = NOTHING;
        for (int day = firstOf(year); day <= lastOf(year); day++) {
            if (now.places.landOn(day) == land && now.places.startsStay(day)) {
                entries++;
                if (let > 0 && entries == let + 1) {
                    firstBeyond = day;
                }
            }
        }
        if (what == 0) {
            return entries;
        }
        if (what == 1) {
            return let > 0 ? Math.max(entries - let, 0) : 0;
        }
        return firstBeyond;
    }

    public boolean treaty(int a, int b, int n) {
        if (!isPair(a, b) || !isRow(n)) {
            return false;
        }
        int row = tape.takeRow(n);
        if (row == NONE) {
            return false;
        }
        now.rules.setTreaty(a, b, row);
        return true;
    }

    public boolean without(int a, int b) {
        if (!isPair(a, b) || now.rules.treatyRow(a, b) == NONE) {
            return false;
        }
        now.rules.setTreaty(a, b, NONE);
        return true;
    }

    public int tax(int land, int r) {
        if (!isLand(land) || !isAmong(r, 0, MOST_TAX)) {
            return NONE;
        }
        int was = now.rules.taxes[land];
        now.rules.taxes[land] = r;
        return was;
    }

    public int told(int land, int what) {
        if (!isLand(land) || !isAmong(what, 0, 7 + ROW_LETTERS)) {
            return NONE;
        }
        Rules rules = now.rules;
        switch (what) {
            case 0:
                return rules.spans[land];
            case 1:
                return rules.limits[land];
            case 2:
            case 3:
            case 4:
                return rules.needed(land, what - 2);
            case 5:
                return rules.taxes[land];
            case 6:
                return rules.isNation(land) ? 1 : 0;
            case 7:
                return rowLength(rules.orders[land]);
            default:
                int k = what - 8;
                return k < rowLength(rules.orders[land]) ? rowLetter(rules.orders[land], k) : NOTHING;
        }
    }

    // ---- counted

    public int days(int land, int year, int what) {
        if (!isLand(land) || !isYear(year) || !isAmong(what, 0, 4)) {
            return NONE;
        }
        switch (what) {
            case 0:
                return now.places.countOf(land, firstOf(year), lastOf(year));
            case 1:
                return now.homeDays(land, firstOf(year), lastOf(year));
            case 2:
                return now.centres.countOf(land, firstOf(year), lastOf(year));
            case 3:
                return now.places.rowsOf(land, firstOf(year), lastOf(year));
            default:
                return now.places.longestRow(land, firstOf(year), lastOf(year));
        }
    }

    public int month(int land, int month) {
        if (!isLand(land) || !isAmong(month, 0, MONTHS - 1)) {
            return NONE;
        }
        int first = month * MONTH_DAYS;
        return now.places.countOf(land, first, first + MONTH_DAYS - 1);
    }

    public int within(int land, int day, int w) {
        if (!isLand(land) || !isDay(day) || !isAmong(w, 1, DAYS)) {
            return NONE;
        }
        return now.places.countOf(land, Math.max(day - w + 1, 0), day);
    }

    public int overstays(int land, int from, int to, int what) {
        if (!isLand(land) || !isSpan(from, to) || !isAmong(what, 0, 2)) {
            return NONE;
        }
        rolling.read(now.places, land);
        int number = 0;
        int first = NOTHING;
        int worst = 0;
        for (int day = from; day <= to; day++) {
            int beyond = rolling.beyond(day);
            if (beyond > 0) {
                number++;
                first = first == NOTHING ? day : first;
                worst = Math.max(worst, beyond);
            }
        }
        if (what == 0) {
            return number;
        }
        return what == 1 ? first : worst;
    }

    public int nth(int land, int k, int what) {
        if (!isLand(land) || k < 0 || !isAmong(what, 0, 2)) {
            return NONE;
        }
        int seen = 0;
        for (int day = 0; day < DAYS; day++) {
            if (now.places.landOn(day) == land && now.places.startsStay(day)) {
                if (seen == k) {
                    int last = now.places.lastOfStay(day);
                    return what == 0 ? day : what == 1 ? last : last - day + 1;
                }
                seen++;
            }
        }
        return NOTHING;
    }

    public int away(int land, int what) {
        if (!isLand(land) || !isAmong(what, 0, 1)) {
            return NONE;
        }
        int longest = 0;
        int first = NOTHING;
        int row = 0;
        for (int day = 0; day < DAYS; day++) {
            row = now.places.landOn(day) == land ? 0 : row + 1;
            if (row > longest) {
                longest = row;
                first = day - row + 1;
            }
        }
        return what == 0 ? longest : first;
    }

    public int travels(int land, int year) {
        if (!isLand(land) || !isYear(year)) {
            return NONE;
        }
        int number = 0;
        for (int day = firstOf(year); day <= lastOf(year); day++) {
            boolean came = day > 0 && now.places.landOn(day - 1) != land;
            boolean goes = day < DAYS - 1 && now.places.landOn(day + 1) != land;
            if (now.places.landOn(day) == land && (came || goes)) {
                number++;
            }
        }
        return number;
    }

    public int most(int land, int sort, int year) {
        if (!isLand(land) || !isSort(sort) || !isYear(year)) {
            return NONE;
        }
        judge.weigh(now.places);
        return judge.greatest(land, sort, year);
    }

    public int tight(int land, int w, int what) {
        if (!isLand(land) || !isAmong(w, 1, DAYS) || !isAmong(what, 0, 1)) {
            return NONE;
        }
        rolling.read(now.places, land);
        int tightest = 0;
        int end = NOTHING;
        for (int day = 0; day < DAYS; day++) {
            int there = rolling.between(day - w + 1, day);
            if (there > tightest) {
                tightest = there;
                end = day;
            }
        }
        return what == 0 ? tightest : end;
    }

    public int rank(int year, int k) {
        if (!isYear(year) || !isAmong(k, 0, LANDS - 1)) {
            return NONE;
        }
        judge.weigh(now.places);
        for (int land = 0; land < LANDS; land++) {
            if (judge.landsAbove(land, year) == k) {
                return land;
            }
        }
        return NONE;
    }

    public int slide(int from, int to, int by) {
        if (!isSpan(from, to) || !isAmong(by, -from, DAYS - 1 - to)) {
            return NONE;
        }
        asIf.copyFrom(now.places);
        asIf.put(NONE, from, to);
        System.arraycopy(now.places.lands, from, asIf.lands, from + by, to - from + 1);
        return now.places.becomeLike(asIf);
    }

    public int trade(int a, int b, int from, int to) {
        if (!isPair(a, b) || !isSpan(from, to)) {
            return NONE;
        }
        int changed = 0;
        for (int day = from; day <= to; day++) {
            int land = now.places.landOn(day);
            if (land == a || land == b) {
                now.places.lands[day] = land == a ? b : a;
                changed++;
            }
        }
        return changed;
    }

    public int erase(int land, int n) {
        if (!isLand(land) || !isAmong(n, 1, YEAR_DAYS)) {
            return NONE;
        }
        int erased = 0;
        for (int day = 0; day < DAYS; day++) {
            if (now.places.landOn(day) == land && now.places.startsStay(day)) {
                int last = now.places.lastOfStay(day);
                if (last - day + 1 <= n) {
                    now.places.put(NONE, day, last);
                    erased++;
                }
            }
        }
        return erased;
    }

    public int routes(int a, int b, int year) {
        if (!isPlace(a) || !isPlace(b) || a == b || !isYear(year)) {
            return NONE;
        }
        int number = 0;
        for (int day = Math.max(firstOf(year), 1); day <= lastOf(year); day++) {
            if (now.places.landOn(day) == b && now.places.landOn(day - 1) == a) {
                number++;
            }
        }
        return number;
    }

    public int latest(int land, int year) {
        if (!isLand(land) || !isYear(year)) {
            return NONE;
        }
        judge.weigh(now.places);
        rolling.read(now.places, land);
        for (int day = lastOf(year); day >= firstOf(year); day--) {
            int there = rolling.between(firstOf(year), day - 1) + lastOf(year) - day + 1;
            judge.dayCounts[spot(land, year)] = there;
            if (judge.isClaiming(land, year)) {
                return day;
            }
        }
        return NOTHING;
    }

    public int wins(int land, int year) {
        if (!isLand(land) || !isYear(year)) {
            return NONE;
        }
        judge.weigh(now.places);
        int claiming = judge.claimBits(year);
        if (!hasBit(claiming, land)) {
            return NOTHING;
        }
        return judge.beaten(land, claiming, year);
    }

    // ---- two together

    public int partner() {
        now.partner.copyFrom(now.places);
        now.paired = true;
        return now.places.stayCount();
    }

    public int together(int year, int what) {
        if (!isYear(year) || !isAmong(what, 0, 3)) {
            return NONE;
        }
        if (!now.paired) {
            return NOTHING;
        }
        int number = 0;
        int row = 0;
        int longest = 0;
        int met = 0;
        for (int day = firstOf(year); day <= lastOf(year); day++) {
            int land = now.places.landOn(day);
            boolean both = land != NONE && land == now.partner.landOn(day);
            row = both ? row + 1 : 0;
            longest = Math.max(longest, row);
            if (both) {
                number++;
                met |= 1 << land;
            }
        }
        switch (what) {
            case 0:
                return number;
            case 1:
                return longest;
            case 2:
                return met;
            default:
                return YEAR_DAYS - number;
        }
    }

    // ---- where one lives

    public int claims(int year) {
        if (!isYear(year)) {
            return NONE;
        }
        judge.weigh(now.places);
        return judge.claimBits(year);
    }

    public int holds(int land, int year) {
        if (!isLand(land) || !isYear(year)) {
            return NONE;
        }
        judge.weigh(now.places);
        return judge.holdingBits(land, year);
    }

    public int answers(int a, int b, int year) {
        if (!isPair(a, b) || !isYear(year)) {
            return NONE;
        }
        judge.weigh(now.places);
        return judge.answerOf(a, b, year);
    }

    public int by(int a, int b, int year) {
        if (!isPair(a, b) || !isYear(year)) {
            return NONE;
        }
        judge.weigh(now.places);
        return judge.tellingPlace(a, b, year);
    }

    public int lives(int year) {
        if (!isYear(year)) {
            return NONE;
        }
        judge.weigh(now.places);
        return judge.livesIn(year);
    }

    public int pairs(int year, int what) {
        if (!isYear(year) || !isAmong(what, 0, 2)) {
            return NONE;
        }
        judge.weigh(now.places);
        int claiming = judge.claimBits(year);
        int number = 0;
        for (int a = 0; a < LANDS; a++) {
            for (int b = a + 1; b < LANDS; b++) {
                if (hasBit(claiming, a) && hasBit(claiming, b) && judge.isPairOf(a, b, year, what)) {
                    number++;
                }
            }
        }
        return number;
    }

    public int split(int land, int year, int what) {
        if (!isLand(land) || !isYear(year) || !isAmong(what, 0, 2)) {
            return NONE;
        }
        judge.weigh(now.places);
        if (!judge.isClaiming(land, year)) {
            return NOTHING;
        }
        int from = judge.splitFrom(land, year, now.places);
        int till = judge.splitTill(land, year, now.places);
        if (what == 2) {
            return now.places.countOf(land, from, till);
        }
        return what == 0 ? from : till;
    }

    public int owed(int year) {
        if (!isYear(year)) {
            return NONE;
        }
        judge.weigh(now.places);
        return judge.owedIn(year, now.places);
    }

    // ---- what would be

    public int free(int land, int d, int n) {
        if (!isLand(land) || !isDay(d) || !isAmong(n, 1, YEAR_DAYS)) {
            return NONE;
        }
        rolling.read(now.places, land);
        return rolling.fillUp(d, Math.min(d + n, DAYS));
    }

    public int mustLeave(int land, int d) {
        if (!isLand(land) || !isDay(d)) {
            return NONE;
        }
        rolling.read(now.places, land);
        for (int day = d; day < DAYS; day++) {
            if (rolling.isTooLong(d, day)) {
                return day;
            }
        }
        return NOTHING;
    }

    public int mayCome(int land, int d, int n) {
        if (!isLand(land) || !isDay(d) || !isAmong(n, 1, YEAR_DAYS)) {
            return NONE;
        }
        rolling.read(now.places, land);
        for (int first = d; first < DAYS; first++) {
            // each further day of a stay brings one and takes at most one: its last day has the most
            if (!rolling.isTooLong(first, Math.min(first + n, DAYS) - 1)) {
                return first;
            }
        }
        return NOTHING;
    }

    public int claimBy(int land, int d) {
        if (!isLand(land) || !isDay(d)) {
            return NONE;
        }
        judge.weigh(now.places);
        for (int day = d; day < DAYS; day++) {
            int year = yearOf(day);
            if (now.places.landOn(day) != land) {
                judge.dayCounts[spot(land, year)]++;
            }
            if (judge.isClaiming(land, year)) {
                return day;
            }
        }
        return NOTHING;
    }

    public int freest(int d, int n, int what) {
        if (!isDay(d) || !isAmong(n, 1, YEAR_DAYS) || !isAmong(what, 0, 1)) {
            return NONE;
        }
        int best = 0;
        int bestFree = NONE;
        for (int land = 0; land < LANDS; land++) {
            rolling.read(now.places, land);
            int number = rolling.fillUp(d, Math.min(d + n, DAYS));
            if (number > bestFree) {
                best = land;
                bestFree = number;
            }
        }
        return what == 0 ? best : bestFree;
    }

    public int need(int land, int year) {
        if (!isLand(land) || !isYear(year)) {
            return NONE;
        }
        judge.weigh(now.places);
        return judge.needOf(land, year);
    }

    public int moved(int day, int land) {
        if (!isDay(day) || !isPlace(land)) {
            return NONE;
        }
        judge.weigh(now.places);
        return judge.livesIfMoved(now.places.landOn(day), land, yearOf(day));
    }

    public int loose(int year, int what) {
        if (!isYear(year) || !isAmong(what, 0, 1)) {
            return NONE;
        }
        judge.weigh(now.places);
        int loosePlaces = judge.loosePlaces(year);
        int number = 0;
        int first = NOTHING;
        for (int day = firstOf(year); day <= lastOf(year); day++) {
            if (hasBit(loosePlaces, now.places.landOn(day) + 1)) {
                number++;
                first = first == NOTHING ? day : first;
            }
        }
        return what == 0 ? number : first;
    }

    public int nearest(int year, int what) {
        if (!isYear(year) || !isAmong(what, 0, 1)) {
            return NONE;
        }
        judge.weigh(now.places);
        int best = NOTHING;
        int leastNeed = NOTHING;
        for (int land = 0; land < LANDS; land++) {
            int needed = judge.needOf(land, year);
            // a need of 0 is that of a land that claims already
            if (needed > 0 && (best == NOTHING || needed < leastNeed)) {
                best = land;
                leastNeed = needed;
            }
        }
        return what == 0 ? best : leastNeed;
    }

    public int instead(int a, int b, int from, int to, int what) {
        if (!isLand(a) || !isPlace(b) || a == b || !isSpan(from, to) || !isOutcome(what)) {
            return NONE;
        }
        asIf.copyFrom(now.places);
        for (int day = from; day <= to; day++) {
            if (asIf.lands[day] == a) {
                asIf.lands[day] = b;
            }
        }
        return outcome(what);
    }

    public int trip(int n, int what) {
        if (!isText(n) || !isOutcome(what)) {
            return NONE;
        }
        int answer = reader.readText(n);
        tape.length = 0;
        if (answer < 0) {
            return answer;
        }
        asIf.copyFrom(now.places);
        reader.layOver(asIf);
        return outcome(what);
    }

    public int cheapest(int from, int to, int what) {
        if (!isSpan(from, to) || !isAmong(what, 0, 1)) {
            return NONE;
        }
        asIf.copyFrom(now.places);
        judge.weighHomes();
        int best = 0;
        int leastOwed = NONE;
        for (int land = 0; land < LANDS; land++) {
            asIf.put(land, from, to);
            judge.weighPlaces(asIf);
            int sum = owedAsIf();
            if (leastOwed == NONE || sum < leastOwed) {
                best = land;
                leastOwed = sum;
            }
        }
        return what == 0 ? best : leastOwed;
    }

    // ---- all

    public int count(int what) {
        switch (what) {
            case 0:
                return DAYS - now.places.countOf(NONE, 0, DAYS - 1);
            case 1:
                return now.rules.nations;
            case 2:
                return overstaysInAll(now.places);
            case 3:
                return now.places.stayCount();
            case 4:
                return tape.length;
            case 5:
                return keptCount;
            default:
                return NONE;
        }
    }

    public int keep() {
        if (keptCount >= MOST_KEPT) {
            return NONE;
        }
        // a row that was left by an undo is used again: the room is counted
        if (kept[keptCount] == null) {
            kept[keptCount] = new State();
        }
        kept[keptCount].copyFrom(now);
        keptCount++;
        return keptCount;
    }

    public int undo() {
        if (keptCount <= 0 || kept[keptCount - 1] == null) {
            return NONE;
        }
        keptCount--;
        now.copyFrom(kept[keptCount]);
        return keptCount;
    }

    // ---- helpers

    private int outcome(int what) {
        if (what == 4) {
            return overstaysInAll(asIf);
        }
        judge.weigh(asIf);
        return what == 3 ? owedAsIf() : judge.livesIn(what);
    }

    private int owedAsIf() {
        int sum = 0;
        for (int year = 0; year < YEARS; year++) {
            sum += judge.owedIn(year, asIf);
        }
        return sum;
    }

    private int overstaysInAll(Places places) {
        int number = 0;
        for (int land = 0; land < LANDS; land++) {
            rolling.read(places, land);
            number += rolling.overstayDays();
        }
        return number;
    }

    private boolean isText(int n) {
        return isAmong(n, 1, TEXT_BYTES) && n <= tape.length;
    }

    private boolean isRow(int n) {
        return isAmong(n, 0, ROW_LETTERS) && n <= tape.length;
    }

    private static boolean isAmong(int value, int least, int greatest) {
        return value >= least && value <= greatest;
    }

    private static boolean isDay(int day) {
        return isAmong(day, 0, DAYS - 1);
    }

    private static boolean isSpan(int from, int to) {
        return isDay(from) && isDay(to) && from <= to;
    }

    private static boolean isYear(int year) {
        return isAmong(year, 0, YEARS - 1);
    }

    private static boolean isLand(int land) {
        return isAmong(land, 0, LANDS - 1);
    }

    private static boolean isPlace(int land) {
        return isAmong(land, NONE, LANDS - 1);
    }

    private static boolean isPair(int a, int b) {
        return isLand(a) && isLand(b) && a != b;
    }

    private static boolean isSort(int sort) {
        return isAmong(sort, 0, SORTS - 1);
    }

    private static boolean isOutcome(int what) {
        return isAmong(what, 0, 4);
    }

    private static boolean hasBit(int bits, int k) {
        return ((bits >> k) & 1) == 1;
    }

    private static int firstOf(int year) {
        return year * YEAR_DAYS;
    }

    private static int lastOf(int year) {
        return year * YEAR_DAYS + YEAR_DAYS - 1;
    }

    private static int yearOf(int day) {
        return day / YEAR_DAYS;
    }

    /** Where the count of a land in a year stands in a row of counts. */
    private static int spot(int land, int year) {
        return land * YEARS + year;
    }

    private static int nextDraw(int x) {
        return (25173 * x + 13849) & 65535;
    }

    // A row of letters (ORDER, TREATY) is one int, so that states are copied plainly:
    // how many in the lowest three bits, two bits for each letter above them.

    private static int rowLength(int row) {
        return row & 7;
    }

    private static int rowLetter(int row, int k) {
        return (row >> (3 + 2 * k)) & 3;
    }

    private static int rowWith(int row, int letter) {
        return (row + 1) | (letter << (3 + 2 * rowLength(row)));
    }

    /** On each day a land or NONE. */
    private static final class Places {
        final int[] lands = new int[DAYS];

        Places() {
            Arrays.fill(lands, NONE);
        }

        void copyFrom(Places other) {
            System.arraycopy(other.lands, 0, lands, 0, DAYS);
        }

        int becomeLike(Places other) {
            int changed = 0;
            for (int day = 0; day < DAYS; day++) {
                if (lands[day] != other.lands[day]) {
                    lands[day] = other.lands[day];
                    changed++;
                }
            }
            return changed;
        }

        int put(int land, int from, int to) {
            int changed = 0;
            for (int day = Math.max(from, 0); day <= to && day < DAYS; day++) {
                if (lands[day] != land) {
                    lands[day] = land;
                    changed++;
                }
            }
            return changed;
        }

        int landOn(int day) {
            return day >= 0 && day < DAYS ? lands[day] : NONE;
        }

        boolean startsStay(int day) {
            return landOn(day) != NONE && landOn(day) != landOn(day - 1);
        }

        int lastOfStay(int first) {
            int last = first;
            int land = landOn(first);
            for (int day = first + 1; day < DAYS && lands[day] == land; day++) {
                last = day;
            }
            return last;
        }

        int stayCount() {
            int number = 0;
            for (int day = 0; day < DAYS; day++) {
                if (startsStay(day)) {
                    number++;
                }
            }
            return number;
        }

        int countOf(int land, int from, int to) {
            int number = 0;
            for (int day = from; day <= to; day++) {
                if (landOn(day) == land) {
                    number++;
                }
            }
            return number;
        }

        /** Rows of days in a land, cut at both ends of the days that are looked at. */
        int rowsOf(int land, int from, int to) {
            int number = 0;
            for (int day = from; day <= to; day++) {
                if (landOn(day) == land && (day == from || landOn(day - 1) != land)) {
                    number++;
                }
            }
            return number;
        }

        int longestRow(int land, int from, int to) {
            int longest = 0;
            int row = 0;
            for (int day = from; day <= to; day++) {
                row = landOn(day) == land ? row + 1 : 0;
                longest = Math.max(longest, row);
            }
            return longest;
        }
    }

    /** What lands have told, and the nations. */
    private static final class Rules {
        private static final int FIRST_ORDER = 4 | (1 << 5) | (2 << 7) | (3 << 9);

        final int[] spans = new int[LANDS];
        final int[] limits = new int[LANDS];
        final int[] claimRules = new int[LANDS * SORTS];
        final int[] taxes = new int[LANDS];
        final int[] entriesLet = new int[LANDS];
        final int[] orders = new int[LANDS];
        final int[] treaties = new int[LANDS * LANDS];
        int nations = 0;

        Rules() {
            Arrays.fill(orders, FIRST_ORDER);
            Arrays.fill(treaties, NONE);
        }

        void copyFrom(Rules other) {
            System.arraycopy(other.spans, 0, spans, 0, LANDS);
            System.arraycopy(other.limits, 0, limits, 0, LANDS);
            System.arraycopy(other.claimRules, 0, claimRules, 0, LANDS * SORTS);
            System.arraycopy(other.taxes, 0, taxes, 0, LANDS);
            System.arraycopy(other.entriesLet, 0, entriesLet, 0, LANDS);
            System.arraycopy(other.orders, 0, orders, 0, LANDS);
            System.arraycopy(other.treaties, 0, treaties, 0, LANDS * LANDS);
            nations = other.nations;
        }

        int needed(int land, int sort) {
            return claimRules[land * SORTS + sort];
        }

        boolean isNation(int land) {
            return hasBit(nations, land);
        }

        int treatyRow(int a, int b) {
            return treaties[a * LANDS + b];
        }

        void setTreaty(int a, int b, int row) {
            treaties[a * LANDS + b] = row;
            treaties[b * LANDS + a] = row;
        }

        /** The row by which a answers against b. */
        int answerRow(int a, int b) {
            int row = treaties[a * LANDS + b];
            return row == NONE ? orders[a] : row;
        }
    }

    /** All that is kept and undone. */
    private static final class State {
        final Places places = new Places();
        final Places centres = new Places();
        final Places partner = new Places();
        final int[] homes = new int[DAYS];
        final Rules rules = new Rules();
        boolean paired = false;

        void copyFrom(State other) {
            places.copyFrom(other.places);
            centres.copyFrom(other.centres);
            partner.copyFrom(other.partner);
            System.arraycopy(other.homes, 0, homes, 0, DAYS);
            rules.copyFrom(other.rules);
            paired = other.paired;
        }

        boolean hasHome(int land, int day) {
            return hasBit(homes[day], land);
        }

        int homeDays(int land, int from, int to) {
            int number = 0;
            for (int day = from; day <= to; day++) {
                if (hasHome(land, day)) {
                    number++;
                }
            }
            return number;
        }
    }

    /** The bytes that were fed, and rows of letters read from them. */
    private static final class Tape {
        final int[] bytes = new int[TAPE_BYTES];
        int length = 0;

        void putWord(int word) {
            for (int shift = 24; shift >= 0 && length < TAPE_BYTES; shift -= 8) {
                bytes[length] = (word >> shift) & 255;
                length++;
            }
        }

        /** The first n bytes as a row; NONE if they are none. The tape is empty then. */
        int takeRow(int n) {
            int row = 0;
            int seen = 0;
            for (int k = 0; k < n && k < ROW_LETTERS; k++) {
                int letter = letterOf(bytes[k]);
                if (letter == NONE || hasBit(seen, letter)) {
                    row = NONE;
                    break;
                }
                seen |= 1 << letter;
                row = rowWith(row, letter);
            }
            length = 0;
            return row;
        }

        private static int letterOf(int sign) {
            switch (sign) {
                case 'h':
                    return 0;
                case 'c':
                    return 1;
                case 'd':
                    return 2;
                case 'n':
                    return 3;
                default:
                    return NONE;
            }
        }
    }

    /** Reads a CALENDAR and holds its stays till they are laid over some places. */
    private static final class Reader {
        private static final int MOST_STAYS = TEXT_BYTES / 2;
        private static final int MOST_DIGITS = 4;
        private static final int END = -1;

        private final int[] text;
        private final int[] lands = new int[MOST_STAYS];
        private final int[] firsts = new int[MOST_STAYS];
        private final int[] lasts = new int[MOST_STAYS];
        private int length = 0;
        private int stays = 0;
        private int place = 0;
        private int fault = 0;

        Reader(int[] text) {
            this.text = text;
        }

        /** How many stays the first n bytes have, or what their fault answers. */
        int readText(int n) {
            length = Math.min(n, text.length);
            stays = 0;
            place = 0;
            fault = 0;
            boolean more = true;
            for (int k = 0; k < MOST_STAYS && more; k++) {
                readStay(k);
                more = fault == 0 && readComma();
            }
            return fault != 0 ? fault : stays;
        }

        void layOver(Places places) {
            for (int k = 0; k < stays && k < MOST_STAYS; k++) {
                places.put(lands[k], firsts[k], lasts[k]);
            }
        }

        private void readStay(int k) {
            skipBlanks();
            int land = landOf(sign());
            if (land == NOTHING) {
                fail(1, place);
                return;
            }
            place++;
            skipBlanks();
            int first = readDay(0);
            int last = first;
            skipBlanks();
            if (fault == 0 && sign() == '.') {
                readPoints();
                skipBlanks();
                last = readDay(first);
                skipBlanks();
            }
            if (fault == 0) {
                lands[k] = land;
                firsts[k] = first;
                lasts[k] = last;
                stays = k + 1;
            }
        }

        private void readPoints() {
            place++;
            if (sign() == '.') {
                place++;
            } else {
                fail(1, place);
            }
        }

        private int readDay(int least) {
            int start = place;
            int value = 0;
            for (int k = 0; k < MOST_DIGITS && isDigit(sign()); k++) {
                value = value * 10 + sign() - '0';
                place++;
            }
            if (place == start || isDigit(sign())) {
                fail(1, place);
            } else if (value >= DAYS || value < least) {
                fail(2, start);
            }
            return value;
        }

        /** Whether another stay must come. */
        private boolean readComma() {
            if (sign() == END) {
                return false;
            }
            if (sign() != ',') {
                fail(1, place);
                return false;
            }
            place++;
            return true;
        }

        private void skipBlanks() {
            for (int k = place; k < length && text[k] == ' '; k++) {
                place = k + 1;
            }
        }

        private int sign() {
            return place < length ? text[place] : END;
        }

        /** Only the first fault counts: what is read behind it is of no meaning. */
        private void fail(int number, int where) {
            if (fault == 0) {
                fault = -1000 * number - where;
            }
        }

        private static boolean isDigit(int sign) {
            return isAmong(sign, '0', '9');
        }

        private static int landOf(int sign) {
            if (sign == '-') {
                return NONE;
            }
            return isLand(sign - 'a') ? sign - 'a' : NOTHING;
        }
    }

    /** Spells places as a CALENDAR, byte by byte, and catches one of them: no text is made. */
    private static final class Speller {
        int place = 0;
        int wanted = NONE;
        int found = NOTHING;

        void spell(Places places, int k) {
            place = 0;
            wanted = k;
            found = NOTHING;
            for (int day = 0; day < DAYS; day++) {
                if (places.startsStay(day)) {
                    putStay(places.landOn(day), day, places.lastOfStay(day));
                }
            }
        }

        private void putStay(int land, int first, int last) {
            if (place > 0) {
                putSign(',');
            }
            putSign('a' + land);
            putNumber(first);
            if (last > first) {
                putSign('.');
                putSign('.');
                putNumber(last);
            }
        }

        private void putNumber(int number) {
            for (int unit = 1000; unit >= 1; unit /= 10) {
                if (number >= unit || unit == 1) {
                    putSign('0' + number / unit % 10);
                }
            }
        }

        private void putSign(int sign) {
            if (place == wanted) {
                found = sign;
            }
            place++;
        }
    }

    /** The days in one land, counted through, against its window. */
    private static final class Rolling {
        private final Rules rules;
        private final int[] ahead = new int[DAYS + 1];
        private final int[] addedAhead = new int[DAYS];
        private final int[] shutters = new int[2 * YEAR_DAYS + 1];
        private int span = 0;
        private int limit = 0;

        Rolling(Rules rules) {
            this.rules = rules;
        }

        void read(Places places, int land) {
            span = rules.spans[land];
            limit = rules.limits[land];
            for (int day = 0; day < DAYS; day++) {
                ahead[day + 1] = ahead[day] + (places.lands[day] == land ? 1 : 0);
            }
        }

        int between(int first, int last) {
            int from = Math.max(first, 0);
            return from <= last && last < DAYS ? ahead[last + 1] - ahead[from] : 0;
        }

        private boolean isThere(int day) {
            return between(day, day) == 1;
        }

        /** By how many days one overstays on a day; 0 if one does not. */
        int beyond(int day) {
            if (span == 0 || !isThere(day)) {
                return 0;
            }
            return Math.max(between(day - span + 1, day) - limit, 0);
        }

        int overstayDays() {
            int number = 0;
            for (int day = 0; day < DAYS && span > 0; day++) {
                if (beyond(day) > 0) {
                    number++;
                }
            }
            return number;
        }

        /** Whether one would overstay on day last, were one there from day first on. */
        boolean isTooLong(int first, int last) {
            int opens = last - span + 1;
            int stayed = last - Math.max(first, opens) + 1;
            return span > 0 && between(opens, first - 1) + stayed > limit;
        }

        /**
         * FREE of the days from first to ahead of end. A day that is there and has room for r more
         * shuts all days to itself when r have been added in its window: it is noted, when its
         * window opens, under how many will have been added by then.
         */
        int fillUp(int first, int end) {
            if (span == 0) {
                return end - first;
            }
            Arrays.fill(shutters, NONE);
            for (int day = first; day < first + span - 1; day++) {
                noteShutter(day, 0);
            }
            int there = 0;
            int added = 0;
            int shutTill = NONE;
            for (int day = first; day < end; day++) {
                noteShutter(day + span - 1, added);
                shutTill = Math.max(shutTill, shutters[Math.min(added, 2 * YEAR_DAYS)]);
                addedAhead[day] = added;
                if (isThere(day)) {
                    there++;
                } else if (day > shutTill && hasRoom(day, first, added)) {
                    added++;
                    there++;
                }
            }
            return there;
        }

        private void noteShutter(int day, int added) {
            int room = limit - between(day - span + 1, day);
            int key = added + room;
            if (day < DAYS && isThere(day) && room >= 0 && key < shutters.length) {
                shutters[key] = Math.max(shutters[key], day);
            }
        }

        private boolean hasRoom(int day, int first, int added) {
            int opens = day - span + 1;
            int outside = opens > first ? addedAhead[opens] : 0;
            return between(opens, day) + added - outside < limit;
        }
    }

    /** Days, homes and centres counted by lands and years, and what follows from the counts. */
    private static final class Judge {
        private final State state;
        private final Rules rules;
        final int[] dayCounts = new int[LANDS * YEARS];
        private final int[] homeCounts = new int[LANDS * YEARS];
        private final int[] centreCounts = new int[LANDS * YEARS];

        Judge(State state) {
            this.state = state;
            this.rules = state.rules;
        }

        void weigh(Places places) {
            weighHomes();
            weighPlaces(places);
        }

        void weighPlaces(Places places) {
            countInto(dayCounts, places);
        }

        void weighHomes() {
            countInto(centreCounts, state.centres);
            Arrays.fill(homeCounts, 0);
            for (int day = 0; day < DAYS; day++) {
                int year = day / YEAR_DAYS;
                int bits = state.homes[day];
                for (int land = 0; land < LANDS && bits != 0; land++) {
                    homeCounts[land * YEARS + year] += (bits >> land) & 1;
                }
            }
        }

        private static void countInto(int[] counts, Places places) {
            Arrays.fill(counts, 0);
            for (int day = 0; day < DAYS; day++) {
                int land = places.lands[day];
                if (land >= 0 && land < LANDS) {
                    counts[land * YEARS + day / YEAR_DAYS]++;
                }
            }
        }

        /** The greatest n by which a rule would hold, 0 if none would. */
        int greatest(int land, int sort, int year) {
            int spot = land * YEARS + year;
            int there = dayCounts[spot];
            if (sort == BY_DAYS) {
                return there;
            }
            if (sort != BY_MEAN) {
                return there == 0 ? 0 : homeCounts[spot];
            }
            if (there < MEAN_DAYS) {
                return 0;
            }
            int sum = 6 * there;
            sum += year > 0 ? 2 * dayCounts[spot - 1] : 0;
            sum += year > 1 ? dayCounts[spot - 2] : 0;
            return sum >= 6 * YEAR_DAYS ? YEAR_DAYS : sum / 6;
        }

        int holdingBits(int land, int year) {
            int bits = 0;
            for (int sort = 0; sort < SORTS; sort++) {
                int needed = rules.needed(land, sort);
                if (needed > 0 && greatest(land, sort, year) >= needed) {
                    bits |= 1 << sort;
                }
            }
            return bits;
        }

        boolean isClaiming(int land, int year) {
            return holdingBits(land, year) != 0;
        }

        int claimBits(int year) {
            int bits = 0;
            for (int land = 0; land < LANDS; land++) {
                bits |= holdingBits(land, year) != 0 ? 1 << land : 0;
            }
            return bits;
        }

        /** How many lands come ahead of one by days there in a year. */
        int landsAbove(int land, int year) {
            int own = dayCounts[spot(land, year)];
            int number = 0;
            for (int other = 0; other < LANDS; other++) {
                int its = dayCounts[spot(other, year)];
                if (its > own || its == own && other < land) {
                    number++;
                }
            }
            return number;
        }

        /** Which letter of the row of a, from 0, is the first that tells one of both. */
        int tellingPlace(int a, int b, int year) {
            int row = rules.answerRow(a, b);
            for (int k = 0; k < ROW_LETTERS && k < rowLength(row); k++) {
                if (leaning(rowLetter(row, k), a, b, year) != 0) {
                    return k;
                }
            }
            return NOTHING;
        }

        int answerOf(int a, int b, int year) {
            int row = rules.answerRow(a, b);
            int lean = 0;
            for (int k = 0; k < ROW_LETTERS && k < rowLength(row) && lean == 0; k++) {
                lean = leaning(rowLetter(row, k), a, b, year);
            }
            if (lean == 0) {
                return NOTHING;
            }
            return lean > 0 ? a : b;
        }

        /** Above 0 if a letter tells a, below 0 if it tells b. */
        private int leaning(int letter, int a, int b, int year) {
            int spotA = a * YEARS + year;
            int spotB = b * YEARS + year;
            switch (letter) {
                case HOMES:
                    return homeCounts[spotA] - homeCounts[spotB];
                case CENTRE:
                    return centreCounts[spotA] - centreCounts[spotB];
                case DAYS_THERE:
                    return dayCounts[spotA] - dayCounts[spotB];
                default:
                    return ((rules.nations >> a) & 1) - ((rules.nations >> b) & 1);
            }
        }

        boolean isPairOf(int a, int b, int year, int what) {
            int one = answerOf(a, b, year);
            int other = answerOf(b, a, year);
            if (what == 1) {
                return one != other;
            }
            return what == 0 || one == NOTHING && other == NOTHING;
        }

        /** Against how many of the claiming ones both answer this land. */
        int beaten(int land, int claiming, int year) {
            int number = 0;
            for (int other = 0; other < LANDS; other++) {
                if (other != land && hasBit(claiming, other)
                        && answerOf(land, other, year) == land && answerOf(other, land, year) == land) {
                    number++;
                }
            }
            return number;
        }

        int livesIn(int year) {
            int claiming = claimBits(year);
            int others = Integer.bitCount(claiming) - 1;
            for (int land = 0; land < LANDS; land++) {
                if (hasBit(claiming, land) && beaten(land, claiming, year) == others) {
                    return land;
                }
            }
            return NOTHING;
        }

        int livesIfMoved(int was, int land, int year) {
            shift(was, year, -1);
            shift(land, year, 1);
            int answer = livesIn(year);
            shift(land, year, -1);
            shift(was, year, 1);
            return answer;
        }

        private void shift(int land, int year, int by) {
            if (isLand(land)) {
                dayCounts[spot(land, year)] += by;
            }
        }

        /**
         * The places (bit 0 nowhere, 1 + a land) whose days, put elsewhere, would change where one
         * lives. Only counts matter, so that all days of a year in one place are alike.
         */
        int loosePlaces(int year) {
            int lives = livesIn(year);
            int bits = 0;
            for (int was = NONE; was < LANDS; was++) {
                if (was != NONE && dayCounts[spot(was, year)] == 0) {
                    continue;
                }
                for (int land = NONE; land < LANDS; land++) {
                    if (land != was && livesIfMoved(was, land, year) != lives) {
                        bits |= 1 << (was + 1);
                        break;
                    }
                }
            }
            return bits;
        }

        /** Counts are put back: they are asked for other lands, too. */
        int needOf(int land, int year) {
            int spot = spot(land, year);
            int there = dayCounts[spot];
            int needed = NOTHING;
            for (int more = 0; more <= YEAR_DAYS - there && needed == NOTHING; more++) {
                dayCounts[spot] = there + more;
                if (isClaiming(land, year)) {
                    needed = more;
                }
            }
            dayCounts[spot] = there;
            return needed;
        }

        int splitFrom(int land, int year, Places places) {
            int day = firstOf(year);
            if (year > 0 && isClaiming(land, year - 1)) {
                return day;
            }
            while (day < lastOf(year) && !isBound(land, day, places)) {
                day++;
            }
            return day;
        }

        int splitTill(int land, int year, Places places) {
            int day = lastOf(year);
            if (year < YEARS - 1 && isClaiming(land, year + 1)) {
                return day;
            }
            while (day > firstOf(year) && !isBound(land, day, places)) {
                day--;
            }
            return day;
        }

        private boolean isBound(int land, int day, Places places) {
            return places.landOn(day) == land || state.hasHome(land, day);
        }

        /** A day brings 100 pence, so that a hundredth of it is one. */
        int owedIn(int year, Places places) {
            int lives = livesIn(year);
            int from = lives == NOTHING ? DAYS : splitFrom(lives, year, places);
            int till = lives == NOTHING ? NONE : splitTill(lives, year, places);
            int sum = 0;
            for (int day = firstOf(year); day <= lastOf(year); day++) {
                int land = isAmong(day, from, till) ? lives : places.landOn(day);
                sum += isLand(land) ? rules.taxes[land] : 0;
            }
            return sum;
        }
    }
}

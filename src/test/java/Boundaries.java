import static java.lang.Integer.MAX_VALUE;
import static java.lang.Integer.MIN_VALUE;

/** What the tests of boundary cases share: each check belongs to the sentence that was quoted last. */
final class Boundaries {
    /** One call; a boolean counts 1 or 0. */
    interface Call {
        long on(LivingDays x);
    }

    /** One call with its numbers. */
    interface Numbered {
        long on(LivingDays x, int[] n);
    }

    private final Checks checks;
    private final Document document;
    private final String withTape = Rich.read(Rich.made(true));
    private final String withoutTape = Rich.read(Rich.made(false));
    private String label = "";

    Boundaries(Checks checks, Document document) {
        this.checks = checks;
        this.document = document;
    }

    static long bit(boolean answer) {
        return answer ? 1 : 0;
    }

    /** The checks that follow are of this sentence; it must stand in the document word by word. */
    void sentence(int promise, String words) {
        label = "promise " + promise + ", \"" + words + "\": ";
        document.quote(promise, words);
    }

    void due(String call, long got, long want) {
        checks.due(label + call, got, want);
    }

    void due(String call, boolean got, boolean want) {
        checks.due(label + call, got, want);
    }

    void text(String what, LivingDays x, String want) {
        same(what, Texts.read(x), want);
    }

    private void same(String what, String got, String want) {
        checks.due(label + what + "; it is <" + got + ">, due is <" + want + ">", got.equals(want), true);
    }

    /** The call answers so, and nothing is otherwise behind it, the tape neither. */
    void leaves(String name, long want, Call call) {
        LivingDays x = Rich.made(true);
        due(name, call.on(x), want);
        same(name + " changes nothing", Rich.read(x), withTape);
    }

    /** The call answers so, and nothing is otherwise behind it but that the tape is empty. */
    void leavesAllButTheTape(String name, long want, Call call) {
        LivingDays x = Rich.made(true);
        due(name, call.on(x), want);
        same(name + " changes the tape alone", Rich.read(x), withoutTape);
    }

    /** Numbers of a call, of which one is put at and beyond its bounds: {which, least, greatest}. */
    void bounds(String name, long refused, Numbered call, int[] usual, int[]... ranges) {
        due(name + " as usual is taken", call.on(Rich.made(true), usual) != refused, true);
        for (int[] range : ranges) {
            int[] n = usual.clone();
            for (int edge : new int[] {range[1], range[2]}) {
                n[range[0]] = edge;
                due(shown(name, n) + " is taken", call.on(Rich.made(true), n) != refused, true);
            }
            for (int beyond : new int[] {range[1] - 1, range[2] + 1, MIN_VALUE, MAX_VALUE}) {
                int[] odd = usual.clone();
                odd[range[0]] = beyond;
                leaves(shown(name, odd), refused, x -> call.on(x, odd));
            }
        }
    }

    static String shown(String name, int[] n) {
        StringBuilder text = new StringBuilder(name).append('(');
        for (int k = 0; k < n.length; k++) {
            text.append(k > 0 ? ", " : "").append(n[k]);
        }
        return text.append(')').toString();
    }

    static int[] n(int... numbers) {
        return numbers;
    }
}

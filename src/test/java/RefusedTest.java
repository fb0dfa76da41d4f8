import java.util.ArrayList;
import java.util.Arrays;
import java.util.List;

/**
 * "What is refused changes nothing": two courts with the same past, of which one gets a refused
 * call more, and then both the same later calls, whose answers must be alike.
 */
public final class RefusedTest {
    private static final Check check = new Check();

    private static final String MIN = String.valueOf(Integer.MIN_VALUE);
    private static final String MAX = String.valueOf(Integer.MAX_VALUE);

    /** The first arguments that can't be, on each side: no state takes these calls. */
    private static final String[] NEVER = {
        "coins(-1, 5)", "coins(20, 5)", "coins(" + MIN + ", 5)", "coins(" + MAX + ", 5)",
        "coins(0, 0)", "coins(0, -1)", "coins(0, 100001)", "coins(0, " + MIN + ")", "coins(0, " + MAX + ")",
        "plot(-1, 20040, 0)", "plot(6, 20040, 0)", "plot(" + MIN + ", 20040, 0)", "plot(" + MAX + ", 20040, 0)",
        "plot(4, 9040, 0)", "plot(4, 61040, 0)", "plot(4, 20019, 0)", "plot(4, 20101, 0)", "plot(4, 20000, 0)",
        "plot(4, 20999, 0)", "plot(4, 0, 0)", "plot(4, -20040, 0)", "plot(4, " + MIN + ", 0)",
        "plot(4, " + MAX + ", 0)", "plot(4, 20040, -1)", "plot(4, 20040, 20)", "plot(4, 20040, " + MIN + ")",
        "plot(4, 20040, " + MAX + ")",
        "lease(-1, 1, 5, 5)", "lease(24, 1, 5, 5)", "lease(" + MIN + ", 1, 5, 5)", "lease(" + MAX + ", 1, 5, 5)",
        "lease(1, -1, 5, 5)", "lease(1, 20, 5, 5)", "lease(1, 1, 0, 5)", "lease(1, 1, -1, 5)",
        "lease(1, 1, 100, 5)", "lease(1, 1, " + MIN + ", 5)", "lease(1, 1, " + MAX + ", 5)", "lease(1, 1, 5, -1)",
        "lease(1, 1, 5, 1000)", "lease(1, 1, 5, " + MIN + ")", "lease(1, 1, 5, " + MAX + ")",
        "rates(0, 5, 5)", "rates(10, 5, 5)", "rates(5, 0, 5)", "rates(5, 10, 5)", "rates(5, 5, -1)",
        "rates(5, 5, 61)", "rates(" + MIN + ", 5, 5)", "rates(5, " + MAX + ", 5)", "rates(5, 5, " + MIN + ")",
        "worth(-1)", "worth(24)", "worth(" + MIN + ")", "worth(" + MAX + ")",
        "interest(-1, 0)", "interest(24, 0)", "interest(0, -1)", "interest(0, 4)", "interest(0, " + MIN + ")",
        "interest(0, " + MAX + ")",
        "bears(-1, 0)", "bears(24, 0)", "bears(0, -1)", "bears(0, 4)", "bears(0, " + MIN + ")",
        "bears(0, " + MAX + ")",
        "decree(-1)", "decree(24)", "decree(" + MIN + ")", "decree(" + MAX + ")",
        "act(-1, 5)", "act(6, 5)", "act(" + MIN + ", 5)", "act(" + MAX + ", 5)", "act(0, 0)", "act(0, -1)",
        "act(0, 41)", "act(0, " + MIN + ")", "act(0, " + MAX + ")",
        "due(-1, 5)", "due(24, 5)", "due(1, -1)", "due(1, 61)", "due(1, " + MIN + ")", "due(1, " + MAX + ")",
        "saved(0)", "saved(-1)", "saved(2001)", "saved(" + MIN + ")", "saved(" + MAX + ")",
        "heap(0)", "heap(-1)", "heap(2001)", "heap(" + MIN + ")", "heap(" + MAX + ")",
        "works(0)", "works(-1)", "works(10001)", "works(" + MIN + ")", "works(" + MAX + ")",
        "tax(-1)", "tax(5001)", "tax(" + MIN + ")", "tax(" + MAX + ")",
        "stake(-1, 0, 5)", "stake(6, 0, 5)", "stake(0, -1, 5)", "stake(0, 7, 5)", "stake(0, 0, -2)",
        "stake(0, 0, 301)", "stake(0, " + MIN + ", 5)", "stake(0, " + MAX + ", 5)", "stake(0, 0, " + MIN + ")",
        "stake(0, 0, " + MAX + ")",
        "quarrel(-1, 50)", "quarrel(6, 50)", "quarrel(0, 1)", "quarrel(0, 0)", "quarrel(0, -1)",
        "quarrel(0, 301)", "quarrel(0, " + MIN + ")", "quarrel(0, " + MAX + ")",
        "border(-1, 50, 0)", "border(6, 50, 0)", "border(0, 1, 0)", "border(0, 301, 0)", "border(0, 50, -1)",
        "border(0, 50, 7)", "border(0, 50, " + MIN + ")", "border(0, 50, " + MAX + ")",
        "told(-1, 0)", "told(24, 0)", "told(0, -1)", "told(0, 7)", "told(0, " + MIN + ")", "told(0, " + MAX + ")",
        "chain(-1, 0, 0)", "chain(24, 0, 0)", "chain(0, -1, 0)", "chain(0, 4, 0)", "chain(0, 0, -1)",
        "chain(0, 0, 3)", "chain(0, " + MIN + ", 0)", "chain(0, " + MAX + ", 0)", "chain(0, 0, " + MAX + ")",
        "has(-1)", "has(20)", "has(" + MIN + ")", "has(" + MAX + ")",
        "count(-1)", "count(8)", "count(" + MIN + ")", "count(" + MAX + ")"};

    private static final String[] IN_EMPTY = {"lease(0, 0, 1, 0)", "worth(0)", "interest(0, 0)", "bears(0, 0)",
        "decree(0)", "due(0, 0)", "quarrel(0, 2)", "quarrel(5, 300)", "border(0, 50, 0)", "told(0, 0)",
        "chain(0, 0, 0)"};

    private static final String[] IN_BUSY = {
        "lease(0, 1, 1, 1)", "lease(1, 1, 1, 1)", "lease(2, 1, 1, 1)", "lease(9, 1, 1, 1)",
        "lease(3, 1, 1, 1)", "lease(4, 1, 3, 1)", "lease(4, 1, 0, 1)", "lease(4, -1, 1, 1)", "lease(4, 20, 1, 1)",
        "lease(4, 1, 1, -1)", "lease(4, 1, 1, 1000)", "lease(5, 1, 100, 1)",
        "interest(1, 0)", "interest(2, 0)", "interest(4, 2)", "interest(5, 1)", "interest(9, 0)",
        "bears(0, 3)", "bears(1, 0)", "bears(2, 0)", "bears(3, 0)", "bears(5, 1)", "bears(9, 0)",
        "decree(0)", "decree(1)", "decree(2)", "decree(3)", "decree(9)",
        "due(9, 5)", "due(5, -1)", "due(5, 61)", "due(7, -1)", "due(7, 61)", "worth(9)",
        "told(9, 0)", "chain(9, 0, 0)", "chain(1, 0, 0)", "chain(2, 0, 0)",
        "chain(4, 2, 0)", "quarrel(0, 2)", "quarrel(4, 50)", "border(0, 2, 0)", "border(0, 50, 2)",
        "border(1, 50, 0)", "border(4, 50, 0)"};

    private static final String[] IN_FULL = {"plot(0, 20040, 0)", "plot(2, 20040, 0)", "plot(3, 20040, 0)",
        "plot(5, 10020, 19)", "works(1)", "works(10000)", "lease(0, 5, 1, 0)", "saved(2000)", "heap(2000)",
        "quarrel(0, 7)", "border(0, 7, 0)", "decree(5)", "bears(5, 0)"};

    private static final String[] IN_LAST = {"year()", "decree(1)", "bears(1, 0)"};

    private static final String[] IN_CROWDED = {"plot(0, 20040, 0)", "plot(0, 10020, 19)", "works(1)",
        "works(10000)", "quarrel(0, 7)", "border(0, 7, 0)", "border(0, 200, 7)", "lease(7, 1, 1, 1)"};

    private static final String[][] LATER = {laterByYears(), laterByNewRates()};

    public static void main(String[] args) {
        changesNothing("in an empty court", States.EMPTY, NEVER);
        changesNothing("in an empty court", States.EMPTY, IN_EMPTY);
        changesNothing("in a busy court", States.BUSY, NEVER);
        changesNothing("in a busy court", States.BUSY, IN_BUSY);
        changesNothing("in a full court", States.FULL, NEVER);
        changesNothing("in a full court", States.FULL, IN_FULL);
        changesNothing("on a crowded street", States.CROWDED, NEVER);
        changesNothing("on a crowded street", States.CROWDED, IN_CROWDED);
        changesNothing("in the last year", States.LAST, NEVER);
        changesNothing("in the last year", States.LAST, IN_LAST);
        questionsChangeNothing();
        check.end();
    }

    /** Each refused call alone, then all of them: what is hidden after one might show after another. */
    private static void changesNothing(String where, String[] past, String[] refused) {
        for (String[] later : LATER) {
            long[] want = answers(new Court(check).run(past), later);
            for (String call : refused) {
                check.part(call + " refused " + where);
                compare(later, want, answers(new Court(check).run(past).refused(call), later));
            }
            check.part(refused.length + " calls refused " + where);
            int most = 30;
            for (int from = 0; from < refused.length; from += most) {
                String[] some = Arrays.copyOfRange(refused, from, Math.min(from + most, refused.length));
                compare(later, want, answers(new Court(check).run(past).refused(some), later));
            }
        }
    }

    private static void questionsChangeNothing() {
        String[] questions = {"worth(3)", "interest(3, 1)", "bears(5, 0)", "saved(7)", "heap(9)",
            "quarrel(0, 50)", "border(0, 60, 1)", "told(3, 2)", "chain(3, 1, 1)", "has(3)", "count(5)"};
        for (String[] later : LATER) {
            long[] want = answers(new Court(check).run(States.BUSY), later);
            for (String call : questions) {
                check.part(call + " asked in a busy court");
                compare(later, want, answers(new Court(check).run(States.BUSY).run(call), later));
            }
        }
    }

    private static void compare(String[] later, long[] want, long[] got) {
        for (int i = 0; i < later.length; i++) {
            check.due("later " + later[i], got[i], want[i]);
        }
    }

    private static long[] answers(Court court, String[] calls) {
        long[] answers = new long[calls.length];
        for (int i = 0; i < calls.length; i++) {
            answers[i] = court.ask(calls[i]);
        }
        return answers;
    }

    /** Looks at everything, then lets years pass, so that what lies hidden (LIMIT, TAX) shows. */
    private static String[] laterByYears() {
        List<String> calls = new ArrayList<>();
        look(calls);
        for (int plot = 0; plot < 8; plot++) {
            lookAtPlot(calls, plot);
        }
        calls.addAll(List.of("act(0, 3)", "act(2, 2)", "act(4, 7)", "count(7)", "lease(1, 4, 5, 6)",
            "lease(4, 4, 1, 6)", "lease(5, 4, 5, 6)", "plot(0, 11022, 3)", "plot(4, 12024, 5)",
            "plot(5, 13026, 6)", "count(1)"));
        for (int plot = 0; plot < 10; plot++) {
            calls.add("coins(" + plot + ", 30000)");
            calls.add("bears(" + plot + ", 0)");
        }
        calls.addAll(List.of("decree(1)", "decree(3)", "decree(5)", "decree(6)", "decree(9)", "saved(7)", "heap(7)"));
        for (int i = 0; i < 12; i++) {
            calls.addAll(List.of("year()", "count(5)", "count(6)"));
        }
        // Only now: a work that is refused here too would hide what another refused one did.
        calls.addAll(List.of("works(77)", "year()"));
        look(calls);
        return calls.toArray(new String[0]);
    }

    /** Bricks by another LIMIT, surveys of the rows as they are and with more plots, more works. */
    private static String[] laterByNewRates() {
        List<String> calls = new ArrayList<>();
        calls.add("rates(4, 6, 20)");
        lookAtBricks(calls);
        lookAtRows(calls);
        for (int street = 0; street < 6; street++) {
            for (int i = 0; i < 4; i++) {
                calls.add("plot(" + street + ", " + (12 + street + 3 * i) + "030, " + i + ")");
            }
            calls.add("act(" + street + ", " + (street + 2) + ")");
        }
        for (int i = 0; i < 20; i++) {
            calls.add("works(" + (i + 1) + ")");
        }
        lookAtRows(calls);
        for (int plot = 0; plot < 24; plot++) {
            calls.addAll(List.of("told(" + plot + ", 0)", "told(" + plot + ", 2)", "told(" + plot + ", 6)"));
        }
        calls.addAll(List.of("tax(11)", "year()", "count(5)", "count(6)", "year()", "count(5)", "count(6)"));
        return calls.toArray(new String[0]);
    }

    private static void lookAtBricks(List<String> calls) {
        for (int b : new int[] {1, 3, 7, 12, 20, 33, 60, 111, 200}) {
            calls.add("saved(" + b + ")");
            calls.add("heap(" + b + ")");
        }
    }

    private static void lookAtRows(List<String> calls) {
        for (int street = 0; street < 6; street++) {
            for (int t : new int[] {25, 90, 280}) {
                calls.add("quarrel(" + street + ", " + t + ")");
                calls.add("border(" + street + ", " + t + ", 0)");
                calls.add("border(" + street + ", " + t + ", 2)");
            }
        }
    }

    private static void look(List<String> calls) {
        for (int what = 0; what < 8; what++) {
            calls.add("count(" + what + ")");
        }
        for (int person = 0; person < 20; person++) {
            calls.add("has(" + person + ")");
        }
    }

    private static void lookAtPlot(List<String> calls, int plot) {
        for (int what = 0; what < 7; what++) {
            calls.add("told(" + plot + ", " + what + ")");
        }
        for (int k = 0; k < 4; k++) {
            for (int what = 0; what < 3; what++) {
                calls.add("chain(" + plot + ", " + k + ", " + what + ")");
            }
            calls.add("interest(" + plot + ", " + k + ")");
            calls.add("bears(" + plot + ", " + k + ")");
        }
        calls.add("worth(" + plot + ")");
    }
}

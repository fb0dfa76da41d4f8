import java.util.ArrayList;
import java.util.List;

/**
 * Each call with every choice of the farthest and the nearest numbers, in courts that are empty,
 * busy, full, crowded and at their last year: none throws, and each answers as the plain model does.
 */
public final class AnyArgumentsTest {
    private static final int[] NUMBERS = {Integer.MIN_VALUE, -1, 0, 5, Integer.MAX_VALUE};
    private static final String[] NAMES = {"coins 2", "plot 3", "lease 4", "rates 3", "worth 1", "interest 2",
        "bears 2", "decree 1", "act 2", "year 0", "due 2", "saved 1", "heap 1", "works 1", "tax 1", "stake 3",
        "quarrel 2", "border 3", "told 2", "chain 3", "has 1", "count 1"};
    private static final Check check = new Check();

    public static void main(String[] args) {
        List<String> calls = new ArrayList<>();
        for (String name : NAMES) {
            String[] parts = name.split(" ");
            write(calls, parts[0] + "(", Integer.parseInt(parts[1]));
        }
        sweep("an empty court", States.EMPTY, calls);
        sweep("a busy court", States.BUSY, calls);
        sweep("a full court", States.FULL, calls);
        sweep("a crowded street", States.CROWDED, calls);
        sweep("the last year", States.LAST, calls);
        check.end();
    }

    private static void write(List<String> calls, String begun, int left) {
        if (left == 0) {
            calls.add(begun + ")");
            return;
        }
        for (int n : NUMBERS) {
            write(calls, begun + n + (left > 1 ? ", " : ""), left - 1);
        }
    }

    private static void sweep(String where, String[] past, List<String> calls) {
        check.part("in " + where);
        for (String call : calls) {
            Court fast = new Court(check).run(past);
            PlainCourt plain = new PlainCourt();
            for (String made : past) {
                Court.ask(plain, made);
            }
            fast.due(call, Court.ask(plain, call));
            for (int what = 0; what < 8; what++) {
                check.due("count(" + what + ") after " + call, fast.ask("count(" + what + ")"), plain.count(what));
            }
        }
    }
}

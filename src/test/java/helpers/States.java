import java.util.ArrayList;
import java.util.List;

/** Pasts of a court that tests begin with, as calls. */
final class States {
    static final String[] EMPTY = {};

    /** Plot 0 is built, 1 taken, 2 forfeited; 3 has three leases, and 4 to 8 are burned too. */
    static final String[] BUSY = busy();

    /** 24 plots, 8 on a street, 20 works, a chain of 3 leases. */
    static final String[] FULL = full();

    /** 8 plots on street 0, and none else; 20 works. */
    static final String[] CROWDED = crowded();

    /** NOW is 60, and plots are still burned. */
    static final String[] LAST = last();

    private States() {
    }

    private static String[] busy() {
        return new String[] {
            "rates(3, 4, 1)", "tax(700)", "works(1000)", "works(300)", "works(9000)",
            "plot(0, 20040, 0)", "lease(0, 4, 50, 10)", "lease(0, 5, 30, 20)", "coins(5, 2400)", "decree(0)",
            "plot(1, 20020, 3)", "act(1, 1)",
            "plot(2, 15025, 6)", "year()", "year()", "rates(3, 4, 9)",
            "plot(0, 30050, 1)", "lease(3, 7, 30, 10)", "lease(3, 8, 29, 20)", "lease(3, 9, 27, 5)",
            "plot(0, 10030, 2)", "lease(4, 10, 3, 1)",
            "plot(3, 12034, 14)", "plot(3, 22044, 15)", "plot(3, 32054, 16)", "plot(3, 42064, 17)",
            "stake(0, 0, 25)", "stake(0, 1, 45)", "stake(3, 0, 5)", "stake(3, 2, 80)",
            "due(5, 5)", "due(6, 6)", "coins(14, 5000)", "year()"};
    }

    private static String[] full() {
        List<String> calls = new ArrayList<>();
        for (int i = 0; i < 24; i++) {
            calls.add("plot(" + i / 8 + ", " + (10 + 2 * i) + "0" + (21 + 3 * i) + ", " + i % 20 + ")");
        }
        for (int i = 0; i < 20; i++) {
            calls.add("works(" + (50 + 40 * i) + ")");
        }
        for (int k = 0; k < 7; k++) {
            calls.add("stake(0, " + k + ", " + 30 * k + ")");
        }
        calls.addAll(List.of("lease(0, 2, 30, 3)", "lease(0, 3, 20, 2)", "lease(0, 4, 10, 1)", "tax(1500)"));
        return calls.toArray(new String[0]);
    }

    private static String[] crowded() {
        List<String> calls = new ArrayList<>();
        for (int i = 0; i < 8; i++) {
            calls.add("plot(0, " + (40 - 3 * i) + "0" + (30 + 5 * i) + ", " + i + ")");
        }
        for (int i = 0; i < 20; i++) {
            calls.add("works(100)");
        }
        calls.addAll(List.of("lease(7, 8, 3, 3)", "lease(7, 9, 3, 3)", "lease(7, 10, 3, 3)", "due(2, 3)", "tax(500)"));
        return calls.toArray(new String[0]);
    }

    private static String[] last() {
        List<String> calls = new ArrayList<>(List.of("rates(1, 1, 60)", "plot(0, 20040, 0)", "plot(0, 30050, 1)",
            "plot(1, 30050, 2)", "coins(0, 800)", "decree(0)", "tax(100)"));
        for (int i = 0; i < 60; i++) {
            calls.add("year()");
        }
        calls.addAll(List.of("lease(1, 3, 1, 5)", "lease(2, 3, 9, 5)", "works(50)", "works(9000)"));
        return calls.toArray(new String[0]);
    }
}

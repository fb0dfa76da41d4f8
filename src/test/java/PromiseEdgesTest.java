/**
 * The sentence of each promise that tells when a call is refused, clause by clause: what is taken
 * last and what is refused first, on each side. That refused calls change nothing is RefusedTest's.
 */
public final class PromiseEdgesTest {
    private static final String MIN = String.valueOf(Integer.MIN_VALUE);
    private static final String MAX = String.valueOf(Integer.MAX_VALUE);
    private static final Check check = new Check();

    public static void main(String[] args) {
        newObject();
        coins();
        plot();
        lease();
        rates();
        plotNumbers();
        placesInTheChain();
        bears();
        decree();
        act();
        year();
        due();
        savedAndHeap();
        works();
        tax();
        stake();
        quarrel();
        border();
        told();
        toldWalls();
        chain();
        has();
        count();
        countPaysOfActs();
        check.end();
    }

    private static Court promise(String words) {
        check.part(words);
        return new Court(check);
    }

    private static void newObject() {
        Court x = promise("1: No PLOTS; NOW is 0");
        for (int what = 0; what < 8; what++) {
            x.due("count(" + what + ")", 0);
        }
        for (int plot = 0; plot < 24; plot++) {
            x.refused("told(" + plot + ", 0)", "worth(" + plot + ")", "chain(" + plot + ", 0, 0)");
            x.refused("decree(" + plot + ")", "lease(" + plot + ", 0, 1, 1)", "due(" + plot + ", 1)");
        }
        for (int street = 0; street < 6; street++) {
            x.refused("quarrel(" + street + ", 50)", "border(" + street + ", 50, 0)").due("act(" + street + ", 1)", 0);
        }
        x.due("saved(1)", 0).due("heap(1)", 0).due("year()", 0).due("count(0)", 1);
        // Two objects share nothing.
        Court y = promise("1: No PLOTS; NOW is 0");
        y.run("plot(0, 10020, 0)", "coins(0, 9)", "year()", "tax(5)", "works(9)");
        new Court(check).due("count(0)", 0).due("count(1)", 0).due("has(0)", 0).due("works(9)", 0);
        y.due("count(0)", 1).due("has(0)", 9);
    }

    private static void coins() {
        Court x = promise("2: COINS come to a PERSON (1 .. 100000): what they have");
        x.due("coins(0, 1)", 1).due("coins(0, 100000)", 100001).refused("coins(0, 0)", "coins(0, 100001)");
        x.refused("coins(0, -1)", "coins(0, " + MIN + ")", "coins(0, " + MAX + ")").due("has(0)", 100001);
        x = promise("2: -2147483648 if there is none such").due("coins(0, 3)", 3).due("coins(19, 4)", 4);
        x.refused("coins(-1, 3)", "coins(20, 3)", "coins(" + MIN + ", 3)", "coins(" + MAX + ", 3)");
        for (int person = 0; person < 20; person++) {
            x.due("has(" + person + ")", person == 0 ? 3 : person == 19 ? 4 : 0);
        }
    }

    private static void plot() {
        Court x = promise("3: NONE if there is no such STREET or OWNER");
        x.refused("plot(-1, 10020, 0)", "plot(6, 10020, 0)", "plot(" + MIN + ", 10020, 0)",
            "plot(" + MAX + ", 10020, 0)");
        x.refused("plot(0, 10020, -1)", "plot(0, 10020, 20)", "plot(0, 10020, " + MIN + ")",
            "plot(0, 10020, " + MAX + ")");
        x.due("count(1)", 0).due("plot(0, 10020, 0)", 0).due("plot(5, 10020, 19)", 1);
        x = promise("3: Size is FRONT * 1000 + DEPTH; NONE if it can't be");
        int[] cannot = {0, 1, -1, 20, 100, 999, 9020, 9100, 9999, 10000, 10019, 10101, 10999, 60019, 60101, 61020,
            61100, 100020, -10020, -60100, -10000, Integer.MIN_VALUE, Integer.MAX_VALUE};
        for (int size : cannot) {
            x.refused("plot(0, " + size + ", 0)");
        }
        int[] can = {10020, 10100, 60020, 60100};
        for (int i = 0; i < can.length; i++) {
            x.due("plot(0, " + can[i] + ", 0)", i).due("told(" + i + ", 1)", can[i] / 1000);
            x.due("told(" + i + ", 2)", can[i] % 1000);
        }
        x = promise("3: NONE if 8 are on that STREET");
        for (int i = 0; i < 8; i++) {
            x.due("plot(3, 10020, 0)", i);
        }
        x.refused("plot(3, 10020, 0)").due("plot(4, 10020, 0)", 8).refused("plot(3, 10020, 0)").due("count(1)", 9);
        x.run("act(3, 1)").due("count(4)", 8).refused("plot(3, 10020, 0)");
        x = promise("3: NONE if 24 came");
        for (int i = 0; i < 24; i++) {
            x.due("plot(" + i % 5 + ", 10020, 0)", i);
        }
        x.refused("plot(0, 10020, 0)", "plot(5, 10020, 0)").due("count(1)", 24).refused("quarrel(5, 50)");
    }

    private static void lease() {
        Court x = promise("4: NONE if there is no such PLOT or HOLDER").refused("lease(0, 0, 1, 0)");
        x.run("plot(0, 10020, 0)").refused("lease(-1, 0, 1, 0)", "lease(1, 0, 1, 0)", "lease(" + MIN + ", 0, 1, 0)");
        x.refused("lease(" + MAX + ", 0, 1, 0)", "lease(0, -1, 1, 0)", "lease(0, 20, 1, 0)");
        x.due("lease(0, 0, 1, 0)", 1).due("lease(0, 19, 1, 0)", 2);
        x = promise("4: NONE if it is built, forfeited or taken").run("rates(1, 1, 0)", "coins(0, 200)");
        x.run("plot(0, 10020, 0)", "plot(1, 10020, 0)", "plot(2, 10020, 0)");
        x.run("lease(0, 1, 9, 1)", "lease(1, 1, 9, 1)", "lease(2, 1, 9, 1)", "decree(0)", "act(1, 1)");
        x.refused("lease(0, 1, 1, 1)", "lease(1, 1, 1, 1)").due("lease(2, 1, 1, 1)", 2).due("year()", 1);
        x.refused("lease(2, 1, 1, 1)").due("told(0, 3)", 1).due("told(1, 3)", 0).due("told(2, 3)", 0);
        x = promise("4: NONE if there are 3").run("plot(0, 10020, 0)");
        x.due("lease(0, 1, 9, 1)", 1).due("lease(0, 1, 9, 1)", 2).due("lease(0, 1, 9, 1)", 3);
        x.refused("lease(0, 1, 9, 1)");
        x = promise("4: NONE if YEARS or RENT can't be").run("plot(0, 10020, 0)");
        x.refused("lease(0, 1, 0, 1)", "lease(0, 1, 100, 1)", "lease(0, 1, " + MIN + ", 1)",
            "lease(0, 1, " + MAX + ", 1)");
        x.refused("lease(0, 1, 1, -1)", "lease(0, 1, 1, 1000)", "lease(0, 1, 1, " + MIN + ")",
            "lease(0, 1, 1, " + MAX + ")");
        x.due("lease(0, 1, 99, 999)", 1).refused("lease(0, 1, 100, 0)").due("lease(0, 1, 1, 0)", 2);
        x.refused("lease(0, 1, 2, 0)").due("told(0, 3)", 2);
    }

    private static void rates() {
        Court x = promise("5: true; false if they can't be");
        String[] can = {"rates(1, 1, 0)", "rates(9, 1, 0)", "rates(1, 9, 0)", "rates(1, 1, 60)", "rates(9, 9, 60)"};
        for (String call : can) {
            x.due(call, 1);
        }
        x.refused("rates(0, 1, 0)", "rates(10, 1, 0)", "rates(1, 0, 0)", "rates(1, 10, 0)", "rates(1, 1, -1)");
        x.refused("rates(1, 1, 61)", "rates(0, 0, -1)", "rates(-1, 1, 0)", "rates(1, -1, 0)");
        x.refused("rates(" + MIN + ", 1, 0)", "rates(1, " + MAX + ", 0)", "rates(1, 1, " + MAX + ")");
        // One that can't be keeps the two others from being set, whichever it is.
        String[] refused = {"rates(0, 5, 5)", "rates(5, 0, 5)", "rates(5, 5, 61)", "rates(5, 5, -1)"};
        for (String call : refused) {
            Court y = new Court(check).run("plot(0, 10050, 0)", "coins(0, 50000)").refused(call);
            y.due("bears(0, 0)", 1000);
            y.run("act(0, 1)").due("has(0)", 50030).run(10, "year()").due("year()", 1);
        }
    }

    private static void plotNumbers() {
        check.part("4, 6 to 9, 12, 20, 21: no such PLOT");
        String[] asks = {"worth(#)", "interest(#, 0)", "bears(#, 0)", "told(#, 0)", "chain(#, 0, 0)", "due(#, 0)",
            "lease(#, 0, 1, 1)", "decree(#)"};
        int[] sizes = {0, 1, 2, 23, 24};
        for (int size : sizes) {
            Court x = new Court(check).run("rates(1, 1, 60)", "coins(0, 100000)");
            for (int i = 0; i < size; i++) {
                x.run("plot(" + i % 6 + ", 10020, 0)");
            }
            for (String ask : asks) {
                x.refused(ask.replace("#", "-1"), ask.replace("#", "" + size), ask.replace("#", "" + (size + 1)));
                x.refused(ask.replace("#", MIN), ask.replace("#", MAX));
                if (size > 0) {
                    x.run(ask.replace("#", "" + (size - 1)));
                }
            }
            x.due("count(1)", size).due("count(2)", Math.min(1, size));
        }
    }

    private static void placesInTheChain() {
        check.part("7, 8, 21: the k-th of the CHAIN; NONE if there is none such");
        for (int leases = 0; leases <= 3; leases++) {
            Court x = new Court(check).run("plot(0, 10020, 0)", "coins(0, 400)").run(leases, "lease(0, 1, 5, 1)");
            String[] asks = {"interest(0, #)", "bears(0, #)", "chain(0, #, 0)", "chain(0, #, 1)", "chain(0, #, 2)"};
            for (String ask : asks) {
                x.run(ask.replace("#", "0"), ask.replace("#", "" + leases));
                x.refused(ask.replace("#", "-1"), ask.replace("#", "" + (leases + 1)), ask.replace("#", "4"));
                x.refused(ask.replace("#", MIN), ask.replace("#", MAX));
            }
        }
        check.part("7, 8, 21: (or the PLOT is forfeited or taken)");
        Court y = new Court(check).run("rates(1, 1, 0)", "coins(0, 9999)", "plot(0, 10020, 0)", "act(0, 1)");
        y.run("plot(1, 10020, 0)", "interest(1, 0)", "bears(1, 0)").due("year()", 1);
        y.refused("interest(0, 0)", "interest(1, 0)", "bears(0, 0)", "bears(1, 0)", "chain(0, 0, 0)", "chain(1, 0, 0)");
    }

    private static void bears() {
        Court x = promise("8: NONE if there would be no BUILDER").run("plot(0, 10020, 0)", "lease(0, 1, 40, 5)");
        x.refused("bears(0, 0)", "bears(0, 1)").run("coins(0, 399)").refused("bears(0, 0)", "bears(0, 1)");
        x.run("coins(0, 1)").due("bears(0, 0)", 200).due("bears(0, 1)", 200).refused("bears(0, 2)");
        x.run("rates(3, 3, 10)").refused("bears(0, 0)").run("rates(1, 3, 10)").due("bears(0, 1)", 100);
        // The plot is built after this, and bears answers by what is then.
        x.due("decree(0)", 0).due("has(0)", 300).due("bears(0, 0)", 100).due("bears(0, 1)", 100);
        x.run("rates(2, 3, 10)").refused("bears(0, 0)").run("coins(1, 500)").due("has(1)", 400).due("bears(0, 0)", 200);
    }

    private static void decree() {
        Court x = promise("9: the BUILDER's place in the CHAIN; NONE if there is none, or no such PLOT");
        x.refused("decree(0)").run("plot(0, 10020, 0)", "lease(0, 1, 1, 1)").refused("decree(0)", "decree(1)");
        x.refused("decree(-1)", "decree(" + MIN + ")", "decree(" + MAX + ")").run("coins(1, 400)").due("decree(0)", 1);
        x.refused("decree(0)").run("coins(0, 90000)", "coins(1, 90000)").refused("decree(0)").due("count(2)", 1);
    }

    private static void act() {
        Court x = promise("10: how many feet square went; NONE if there is no such STREET, or n can't be");
        x.run("plot(0, 10060, 0)", "plot(0, 11061, 0)", "plot(5, 60100, 0)");
        x.refused("act(-1, 1)", "act(6, 1)", "act(" + MIN + ", 1)", "act(" + MAX + ", 1)");
        x.refused("act(0, 0)", "act(0, 41)", "act(0, " + MIN + ")", "act(0, " + MAX + ")").due("count(7)", 0);
        x.due("act(0, 1)", 21).due("act(5, 40)", 2400).due("act(0, 40)", 590 + 440).due("act(1, 1)", 0);
        x.due("count(7)", 3 * (21 + 2400 + 1030)).due("told(1, 2)", 20).due("told(0, 0)", 3);
    }

    private static void year() {
        Court x = promise("11: how many PLOTS were forfeited; NONE if NOW is 60. (NOW is one more.)");
        x.run("rates(1, 1, 59)", "plot(0, 10020, 0)", "plot(0, 10020, 0)", "plot(1, 10020, 0)", "tax(1)");
        for (int now = 0; now < 59; now++) {
            x.due("year()", 0).due("count(0)", now + 1);
        }
        x.due("year()", 3).due("count(0)", 60).due("count(5)", 60).run("plot(2, 10020, 0)", "lease(3, 1, 1, 1)");
        x.refused("year()").due("count(0)", 60).due("count(5)", 60).due("told(3, 0)", 0).due("chain(3, 1, 1)", 1);
    }

    private static void due() {
        Court x = promise("12: true; false if there is none such, or no such YEAR").run("plot(0, 10020, 0)");
        x.due("due(0, 0)", 1).due("due(0, 60)", 1).refused("due(0, -1)", "due(0, 61)");
        x.refused("due(0, " + MIN + ")", "due(0, " + MAX + ")", "due(1, 0)", "due(-1, 0)").due("saved(1)", 10);
        x.due("due(0, 0)", 1).refused("due(0, 61)", "due(0, -1)").due("saved(29)", 0).due("saved(30)", 10);
    }

    private static void savedAndHeap() {
        Court x = promise("13, 14: NONE if b can't be").run("plot(0, 10020, 0)", "rates(1, 1, 60)");
        x.refused("saved(0)", "saved(2001)", "saved(-1)", "saved(" + MIN + ")", "saved(" + MAX + ")");
        x.refused("heap(0)", "heap(2001)", "heap(-1)", "heap(" + MIN + ")", "heap(" + MAX + ")");
        x.due("saved(1)", 10).due("heap(1)", 1).due("saved(2000)", 10).due("heap(2000)", 1);
        x = promise("13, 14: NONE if there are more than 12 such PLOTS").run("rates(1, 1, 60)");
        for (int i = 0; i < 24; i++) {
            x.run("plot(" + i / 8 + ", 10020, 0)");
            if (i < 12) {
                x.due("saved(2000)", 10 * (i + 1)).due("heap(2000)", (1 << (i + 1)) - 1);
            } else {
                x.refused("saved(2000)", "heap(2000)");
            }
        }
        x.run("act(0, 1)").refused("saved(2000)", "heap(2000)").run("coins(0, 99999)");
        for (int i = 8; i < 12; i++) {
            x.refused("saved(2000)", "heap(2000)").run("decree(" + i + ")");
        }
        x.due("saved(2000)", 120).due("heap(2000)", 0xFFF000);
    }

    private static void works() {
        Court x = promise("15: NONE if the price isn't 1 .. 10000, or 20 came");
        x.refused("works(0)", "works(10001)", "works(-1)", "works(" + MIN + ")", "works(" + MAX + ")");
        for (int i = 0; i < 20; i++) {
            x.due(i % 2 == 0 ? "works(1)" : "works(10000)", i);
        }
        x.refused("works(1)", "works(10000)").run("tax(5000)").run(3, "year()").due("count(6)", 3);
        x.refused("works(1)").run(18, "year()").due("count(6)", 20).due("count(5)", 21 * 5000 - 100010);
    }

    private static void tax() {
        Court x = promise("16: true; false if it can't be").due("tax(0)", 1).due("tax(5000)", 1);
        x.refused("tax(-1)", "tax(5001)", "tax(" + MIN + ")", "tax(" + MAX + ")").run("year()").due("count(5)", 5000);
    }

    private static void stake() {
        Court x = promise("17: false if there is no such STREET, k isn't 0 .. 6, or the foot isn't 0 .. 300");
        x.due("stake(0, 0, 0)", 1).due("stake(5, 6, 300)", 1).due("stake(0, 6, -1)", 1);
        x.refused("stake(-1, 0, 0)", "stake(6, 0, 0)", "stake(" + MIN + ", 0, 0)", "stake(" + MAX + ", 0, 0)");
        x.refused("stake(0, -1, 0)", "stake(0, 7, 0)", "stake(0, " + MIN + ", 0)", "stake(0, " + MAX + ", 0)");
        x.refused("stake(0, 0, 301)", "stake(0, 0, -2)", "stake(0, 0, " + MIN + ")", "stake(0, 0, " + MAX + ")");
        // Of those two that were taken each counts at its own place, and nowhere else.
        for (int i = 0; i < 8; i++) {
            x.run("plot(0, 10020, 0)", "plot(5, 10020, 0)", "plot(1, 10020, 0)");
        }
        x.due("quarrel(0, 80)", 10).due("quarrel(5, 80)", 230).due("quarrel(1, 80)", 0);
        x.run("stake(0, 0, -1)", "stake(5, 6, -1)").due("quarrel(0, 80)", 0).due("quarrel(5, 80)", 0);
    }

    private static void quarrel() {
        Court x = promise("18: NONE if there is no such STREET, it has no PLOTS");
        x.run("plot(0, 10020, 0)", "plot(5, 10020, 0)").due("quarrel(0, 10)", 0).due("quarrel(5, 10)", 0);
        x.refused("quarrel(-1, 10)", "quarrel(6, 10)", "quarrel(" + MIN + ", 10)", "quarrel(" + MAX + ", 10)");
        x.refused("quarrel(1, 10)", "quarrel(4, 10)");
        x = promise("18: NONE if t isn't as many as there are .. 300 (2 at least)");
        for (int n = 1; n <= 8; n++) {
            int least = Math.max(2, n);
            x.run("plot(0, 10020, 0)").refused("quarrel(0, " + (least - 1) + ")", "quarrel(0, 301)");
            x.due("quarrel(0, " + least + ")", 10 * n - least).due("quarrel(0, 300)", 300 - 10 * n);
            x.refused("quarrel(0, 0)", "quarrel(0, -1)", "quarrel(0, " + MIN + ")", "quarrel(0, " + MAX + ")");
        }
    }

    private static void border() {
        Court x = promise("19: NONE likewise").run("plot(0, 10020, 0)", "plot(0, 20020, 0)", "plot(5, 10020, 0)");
        x.refused("border(-1, 30, 0)", "border(6, 30, 0)", "border(1, 30, 0)", "border(" + MAX + ", 30, 0)");
        x.refused("border(0, 1, 0)", "border(0, 301, 0)", "border(0, " + MIN + ", 0)", "border(0, " + MAX + ", 0)");
        x.due("border(0, 2, 0)", 1).due("border(0, 300, 0)", 10).run("plot(5, 20020, 0)").due("border(5, 30, 0)", 10);
        x = promise("19: (from 0 on, not the last one), or if there is none such").run("plot(0, 10020, 0)");
        x.refused("border(0, 30, 0)", "border(0, 30, -1)", "border(0, 30, 1)");
        for (int n = 2; n <= 8; n++) {
            x.run("plot(0, 10020, 0)").due("border(0, " + 10 * n + ", 0)", 10);
            x.due("border(0, " + 10 * n + ", " + (n - 2) + ")", 10 * (n - 1));
            x.refused("border(0, " + 10 * n + ", " + (n - 1) + ")");
            x.refused("border(0, 100, -1)", "border(0, 100, " + n + ")", "border(0, 100, " + MIN + ")",
                "border(0, 100, " + MAX + ")");
            x.refused("border(0, " + (n - 1) + ", 0)").due("border(0, " + n + ", " + (n - 2) + ")", n - 1);
        }
    }

    private static void told() {
        Court x = promise("20: 0 how it is .. 6 how many of its WALLS; NONE for others, or if there is none such");
        x.run("rates(1, 1, 3)", "plot(0, 12034, 7)", "lease(0, 8, 50, 5)", "year()");
        int[] burned = {0, 12, 34, 1, -1, -1, 0};
        for (int what = 0; what < 7; what++) {
            x.due("told(0, " + what + ")", burned[what]);
        }
        x.refused("told(0, -1)", "told(0, 7)", "told(0, " + MIN + ")", "told(0, " + MAX + ")", "told(1, 0)",
            "told(-1, 0)");
        x.run("coins(8, 408)", "decree(0)", "act(0, 1)").due("told(0, 2)", 34);
        int[] built = {1, 12, 34, 1, 8, 1, 0};
        for (int what = 0; what < 7; what++) {
            x.due("told(0, " + what + ")", built[what]);
        }
        x.run("plot(1, 13020, 0)", "plot(2, 14021, 0)", "act(1, 1)", "year()", "year()").due("year()", 1);
        x.due("told(1, 0)", 3).due("told(2, 0)", 2).due("told(1, 1)", 13).due("told(2, 1)", 14).due("told(2, 2)", 21);
        x.due("told(1, 3)", 0).due("told(2, 3)", 0).refused("told(1, 4)", "told(2, 4)", "told(1, 5)", "told(2, 5)");
    }

    private static void toldWalls() {
        Court x = promise("20: how many of its WALLS somebody paid for").run("rates(1, 1, 60)");
        for (int i = 0; i < 3; i++) {
            x.run("plot(0, 10020, " + i + ")", "coins(" + i + ", 5000)");
        }
        x.due("told(1, 6)", 0).run("decree(0)").due("told(0, 6)", 1).due("told(1, 6)", 1).due("told(2, 6)", 0);
        x.run("decree(2)").due("told(0, 6)", 1).due("told(1, 6)", 2).due("told(2, 6)", 1);
        x.run("decree(1)").due("told(0, 6)", 1).due("told(1, 6)", 2).due("told(2, 6)", 1);
        x.due("has(0)", 5000 - 200 - 60 + 30).due("has(1)", 5000 - 200 - 60).due("has(2)", 5000 - 200 - 60 + 30);
    }

    private static void chain() {
        Court x = promise("21: 0 the PERSON, 1 YEARS yet (OWNER: 99), 2 the RENT (OWNER: 0). NONE for others");
        x.run("plot(0, 10020, 19)", "lease(0, 0, 99, 999)", "lease(0, 18, 1, 0)");
        int[][] want = {{19, 99, 0}, {0, 99, 999}, {18, 1, 0}};
        for (int k = 0; k < 3; k++) {
            for (int what = 0; what < 3; what++) {
                x.due("chain(0, " + k + ", " + what + ")", want[k][what]);
            }
            x.refused("chain(0, " + k + ", -1)", "chain(0, " + k + ", 3)", "chain(0, " + k + ", " + MIN + ")");
            x.refused("chain(0, " + k + ", " + MAX + ")");
        }
        x.refused("chain(0, 3, 0)", "chain(0, -1, 0)").run("year()").due("chain(0, 0, 1)", 99);
        x.due("chain(0, 1, 1)", 98);
        x.refused("chain(0, 2, 0)");
    }

    private static void has() {
        Court x = promise("22: COINS of a PERSON; -2147483648 if there is none such");
        x.run("coins(0, 1)", "coins(19, 2)");
        x.due("has(0)", 1).due("has(19)", 2).refused("has(-1)", "has(20)", "has(" + MIN + ")", "has(" + MAX + ")");
    }

    private static void count() {
        Court x = promise("23: 0 NOW .. 7 PAY of all ACTS. NONE for others");
        x.refused("count(-1)", "count(8)", "count(" + MIN + ")", "count(" + MAX + ")");
        x.run("rates(1, 1, 0)", "plot(0, 10020, 0)", "plot(1, 10030, 1)", "plot(2, 10020, 2)", "plot(3, 10020, 3)");
        x.run("plot(3, 10020, 4)", "plot(3, 10020, 5)", "coins(0, 200)", "decree(0)", "act(1, 11)", "act(2, 1)");
        x.run("works(5)", "works(6)", "works(7)", "tax(30)").due("year()", 3).run("works(99)", "plot(4, 10020, 0)");
        int[] want = {1, 7, 1, 3, 2, 12, 3, 500};
        for (int what = 0; what < 8; what++) {
            x.due("count(" + what + ")", want[what]);
        }
    }

    private static void countPaysOfActs() {
        Court x = promise("23: 7 PAY of all ACTS").run("rates(1, 9, 60)");
        for (int i = 0; i < 24; i++) {
            x.run("plot(" + i / 8 + ", 60100, " + i % 20 + ")");
        }
        for (int i = 0; i < 9; i++) {
            x.run("act(" + i % 3 + ", 40)");
        }
        x.due("count(7)", 24 * 54000).due("count(4)", 24).due("has(0)", 108000).due("has(4)", 54000);
        x.due("act(0, 40)", 0).due("count(7)", 24 * 54000);
    }
}

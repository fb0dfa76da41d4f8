import java.util.Random;

/** Random runs of 512 calls, each answer compared with the plain model's; the seeds are fixed. */
public final class PlainCourtTest {
    private static final int RUNS = 400;
    private static final int CALLS = 512;
    private static final int[] WILD = {-1, -2, 0, 1, 6, 7, 8, 20, 24, 60, 61, 99, 100, 300, 301, 1000,
        2001, 5001, 10001, 100001, Integer.MIN_VALUE, Integer.MAX_VALUE};

    private final Random random;
    private final AfterFire fast = new AfterFire();
    private final PlainCourt plain = new PlainCourt();
    private final int yearWeight;
    private final int streets;

    private PlainCourtTest(long seed) {
        random = new Random(seed);
        yearWeight = random.nextInt(3) == 0 ? 1 : 6;
        streets = 1 + random.nextInt(6);
    }

    public static void main(String[] args) {
        Check check = new Check();
        for (int run = 0; run < RUNS && check.wrong() < 20; run++) {
            check.part("run " + run);
            new PlainCourtTest(run).compare(check);
        }
        check.end();
    }

    private void compare(Check check) {
        for (int i = 0; i < CALLS - 60; i++) {
            oneCall(check);
        }
        for (int i = 0; i < 60; i++) {
            look(check, random.nextInt(8));
        }
    }

    /** Mostly a number of the range, now and then one from outside or at its edge. */
    private int pick(int least, int most) {
        int dice = random.nextInt(100);
        if (dice < 2) {
            return WILD[random.nextInt(WILD.length)];
        }
        if (dice < 4) {
            return random.nextBoolean() ? least - 1 : most + 1;
        }
        if (dice < 8) {
            return random.nextBoolean() ? least : most;
        }
        return least + random.nextInt(most - least + 1);
    }

    private int aPlot() {
        return pick(0, Math.max(0, plain.grounds.size() - 1));
    }

    private int aStreet() {
        return pick(0, streets - 1);
    }

    private void oneCall(Check check) {
        int dice = random.nextInt(100);
        if (dice < 12) {
            int street = aStreet();
            int size = pick(10, 60) * 1000 + pick(20, 100);
            int owner = pick(0, 19);
            check.due("plot(" + street + ", " + size + ", " + owner + ")",
                fast.plot(street, size, owner), plain.plot(street, size, owner));
        } else if (dice < 30) {
            lease(check);
        } else if (dice < 40) {
            int person = pick(0, 19);
            int n = random.nextBoolean() ? pick(1, 100000) : pick(1, 6000);
            check.due("coins(" + person + ", " + n + ")", fast.coins(person, n), plain.coins(person, n));
        } else if (dice < 46) {
            int plot = aPlot();
            check.due("decree(" + plot + ")", fast.decree(plot), plain.decree(plot));
        } else if (dice < 46 + yearWeight) {
            check.due("year()", fast.year(), plain.year());
        } else if (dice < 56) {
            settings(check, random.nextInt(6));
        } else {
            look(check, random.nextInt(12));
        }
    }

    private void lease(Check check) {
        int plot = aPlot();
        int holder = pick(0, 19);
        int years = random.nextInt(3) == 0 ? pick(1, 99) : pick(1, 30);
        int rent = random.nextInt(4) == 0 ? pick(0, 999) : pick(0, 120);
        check.due("lease(" + plot + ", " + holder + ", " + years + ", " + rent + ")",
            fast.lease(plot, holder, years, rent), plain.lease(plot, holder, years, rent));
    }

    private void settings(Check check, int which) {
        int a = pick(1, 9);
        int b = pick(1, 9);
        int c = pick(0, 60);
        int street = aStreet();
        int plot = aPlot();
        switch (which) {
            case 0:
                check.due("rates(" + a + ", " + b + ", " + c + ")", fast.rates(a, b, c), plain.rates(a, b, c));
                break;
            case 1:
                check.due("due(" + plot + ", " + c + ")", fast.due(plot, c), plain.due(plot, c));
                break;
            case 2:
                int price = pick(1, 10000);
                check.due("works(" + price + ")", fast.works(price), plain.works(price));
                break;
            case 3:
                int tax = pick(0, 5000);
                check.due("tax(" + tax + ")", fast.tax(tax), plain.tax(tax));
                break;
            case 4:
                int k = pick(0, 6);
                int foot = pick(-1, 300);
                check.due("stake(" + street + ", " + k + ", " + foot + ")",
                    fast.stake(street, k, foot), plain.stake(street, k, foot));
                break;
            default:
                int n = random.nextBoolean() ? pick(1, 8) : pick(1, 40);
                check.due("act(" + street + ", " + n + ")", fast.act(street, n), plain.act(street, n));
        }
    }

    private void look(Check check, int which) {
        int plot = aPlot();
        int k = pick(0, 3);
        int what = pick(0, 7);
        switch (which) {
            case 0:
                check.due("worth(" + plot + ")", fast.worth(plot), plain.worth(plot));
                break;
            case 1:
                check.due("interest(" + plot + ", " + k + ")", fast.interest(plot, k), plain.interest(plot, k));
                break;
            case 2:
                check.due("bears(" + plot + ", " + k + ")", fast.bears(plot, k), plain.bears(plot, k));
                break;
            case 3:
                check.due("told(" + plot + ", " + what + ")", fast.told(plot, what), plain.told(plot, what));
                break;
            case 4:
                int field = pick(0, 2);
                check.due("chain(" + plot + ", " + k + ", " + field + ")",
                    fast.chain(plot, k, field), plain.chain(plot, k, field));
                break;
            case 5:
                int person = pick(0, 19);
                check.due("has(" + person + ")", fast.has(person), plain.has(person));
                break;
            case 6:
                check.due("count(" + what + ")", fast.count(what), plain.count(what));
                break;
            case 7:
            case 8:
                bricks(check);
                break;
            default:
                survey(check);
        }
    }

    private void bricks(Check check) {
        int b = random.nextInt(3) == 0 ? pick(1, 2000) : pick(1, 60);
        if (random.nextBoolean()) {
            check.due("saved(" + b + ")", fast.saved(b), plain.saved(b));
        } else {
            check.due("heap(" + b + ")", fast.heap(b), plain.heap(b));
        }
    }

    private void survey(Check check) {
        int street = aStreet();
        int t = random.nextInt(3) == 0 ? pick(2, 300) : pick(2, 60);
        int k = pick(0, 6);
        if (random.nextInt(3) == 0) {
            check.due("quarrel(" + street + ", " + t + ")", fast.quarrel(street, t), plain.quarrel(street, t));
        } else {
            check.due("border(" + street + ", " + t + ", " + k + ")",
                fast.border(street, t, k), plain.border(street, t, k));
        }
    }
}

/** One part for each promise of the document: ordinary inputs, edges and wrong inputs. */
public final class PromisesTest {
    private static final int NO = AfterFire.NONE;
    private static final int NO_PURSE = Integer.MIN_VALUE;
    private static final Check check = new Check();

    public static void main(String[] args) {
        newObject();
        coins();
        plot();
        lease();
        rates();
        worth();
        interest();
        bears();
        decree();
        decreeLengthensLeases();
        walls();
        act();
        year();
        leasesEnd();
        due();
        saved();
        heap();
        works();
        tax();
        stake();
        quarrel();
        border();
        told();
        chain();
        has();
        count();
        check.end();
    }

    private static void newObject() {
        check.part("1 a new object");
        AfterFire x = new AfterFire();
        for (int what = 0; what <= 7; what++) {
            check.due("count(" + what + ")", x.count(what), 0);
        }
        for (int person = 0; person < 20; person++) {
            check.due("has(" + person + ")", x.has(person), 0);
        }
        for (int street = 0; street < 6; street++) {
            check.due("quarrel(" + street + ", 10)", x.quarrel(street, 10), NO);
        }
        check.due("told(0, 0)", x.told(0, 0), NO);
        check.due("NONE", AfterFire.NONE, -1);
        AfterFire y = new AfterFire();
        y.coins(0, 5);
        y.plot(0, 20040, 0);
        check.due("has(0) of another object", x.has(0), 0);
        check.due("count(1) of another object", x.count(1), 0);
    }

    private static void coins() {
        check.part("2 coins");
        AfterFire x = new AfterFire();
        check.due("coins(0, 1)", x.coins(0, 1), 1);
        check.due("coins(0, 100000)", x.coins(0, 100000), 100001);
        check.due("coins(19, 7)", x.coins(19, 7), 7);
        int[][] refused = {{-1, 5}, {20, 5}, {Integer.MAX_VALUE, 5}, {Integer.MIN_VALUE, 5}, {0, 0},
            {0, -1}, {0, 100001}, {0, Integer.MIN_VALUE}, {0, Integer.MAX_VALUE}};
        for (int[] r : refused) {
            check.due("coins(" + r[0] + ", " + r[1] + ")", x.coins(r[0], r[1]), NO_PURSE);
        }
        check.due("has(0)", x.has(0), 100001);
    }

    private static void plot() {
        check.part("3 plot");
        AfterFire x = new AfterFire();
        int[][] refused = {{-1, 20040, 0}, {6, 20040, 0}, {0, 20040, -1}, {0, 20040, 20},
            {0, 9999, 0}, {0, 9040, 0}, {0, 61020, 0}, {0, 10019, 0}, {0, 10101, 0}, {0, 10000, 0},
            {0, 0, 0}, {0, -20040, 0}, {0, Integer.MAX_VALUE, 0}, {0, Integer.MIN_VALUE, 0}};
        for (int[] r : refused) {
            check.due("plot(" + r[0] + ", " + r[1] + ", " + r[2] + ")", x.plot(r[0], r[1], r[2]), NO);
        }
        check.due("count(1)", x.count(1), 0);
        check.due("plot(0, 10020, 0)", x.plot(0, 10020, 0), 0);
        check.due("plot(5, 60100, 19)", x.plot(5, 60100, 19), 1);
        check.due("told(1, 1)", x.told(1, 1), 60);
        check.due("told(1, 2)", x.told(1, 2), 100);
        check.due("chain(1, 0, 0)", x.chain(1, 0, 0), 19);
        for (int i = 0; i < 7; i++) {
            check.due("plot on street 0", x.plot(0, 10020, 0), 2 + i);
        }
        check.due("a ninth on street 0", x.plot(0, 10020, 0), NO);
        for (int i = 0; i < 15; i++) {
            check.due("plot on another street", x.plot(1 + i / 8, 10020, 0), 9 + i);
        }
        check.due("a 25th", x.plot(4, 10020, 0), NO);
        check.due("count(1)", x.count(1), 24);
    }

    private static void lease() {
        check.part("4 lease");
        AfterFire x = new AfterFire();
        x.plot(0, 20040, 0);
        int[][] refused = {{-1, 1, 5, 5}, {1, 1, 5, 5}, {0, -1, 5, 5}, {0, 20, 5, 5}, {0, 1, 0, 5},
            {0, 1, 100, 5}, {0, 1, -5, 5}, {0, 1, 5, -1}, {0, 1, 5, 1000}};
        for (int[] r : refused) {
            check.due("lease(" + r[0] + ", " + r[1] + ", " + r[2] + ", " + r[3] + ")",
                x.lease(r[0], r[1], r[2], r[3]), NO);
        }
        check.due("told(0, 3)", x.told(0, 3), 0);
        check.due("lease of 99", x.lease(0, 1, 99, 999), 1);
        check.due("lease under it", x.lease(0, 1, 50, 0), 2);
        check.due("longer than the one ahead", x.lease(0, 1, 51, 0), NO);
        x.year();
        check.due("longer than the one ahead has then", x.lease(0, 2, 50, 0), NO);
        check.due("as long as the one ahead has", x.lease(0, 2, 49, 0), 3);
        check.due("a fourth", x.lease(0, 2, 1, 0), NO);
        AfterFire y = new AfterFire();
        y.plot(0, 20040, 0);
        y.coins(0, 1600);
        y.decree(0);
        check.due("on a built plot", y.lease(0, 1, 5, 5), NO);
        y.plot(1, 20040, 0);
        y.act(1, 30);
        check.due("on a taken plot", y.lease(1, 1, 5, 5), NO);
        y.plot(2, 20040, 0);
        y.rates(2, 3, 0);
        y.year();
        check.due("on a forfeited plot", y.lease(2, 1, 5, 5), NO);
    }

    private static void rates() {
        check.part("5 rates");
        AfterFire x = new AfterFire();
        x.plot(0, 10040, 0);
        x.coins(0, 799);
        check.due("rate 2 at first", x.bears(0, 0), NO);
        x.coins(0, 1);
        check.due("rate 2 at first", x.bears(0, 0), 800);
        int[][] refused = {{0, 1, 1}, {10, 1, 1}, {1, 0, 1}, {1, 10, 1}, {1, 1, -1}, {1, 1, 61}};
        for (int[] r : refused) {
            check.due("rates(" + r[0] + ", " + r[1] + ", " + r[2] + ")", x.rates(r[0], r[1], r[2]), false);
        }
        check.due("refused rates change nothing", x.bears(0, 0), 800);
        check.due("rates(1, 9, 60)", x.rates(1, 9, 60), true);
        check.due("rate 1", x.bears(0, 0), 400);
        x.act(0, 10);
        check.due("pay 9", x.count(7), 900);
        for (int i = 0; i < 20; i++) {
            check.due("limit 60", x.year(), 0);
        }
        check.due("rates(9, 1, 0)", x.rates(9, 1, 0), true);
        check.due("limit 0", x.year(), 1);
    }

    private static void worth() {
        check.part("6 worth");
        AfterFire x = new AfterFire();
        check.due("worth(0)", x.worth(0), NO);
        x.plot(0, 11029, 0);
        check.due("worth cut", x.worth(0), 15);
        check.due("worth(-1)", x.worth(-1), NO);
        check.due("worth(1)", x.worth(1), NO);
        x.plot(0, 60100, 0);
        check.due("worth at most", x.worth(1), 300);
        x.act(0, 9);
        check.due("worth after an act", x.worth(0), 11);
        x.rates(2, 3, 0);
        x.year();
        check.due("worth of a forfeited plot", x.worth(0), 11);
    }

    private static void interest() {
        check.part("7 interest");
        AfterFire x = new AfterFire();
        x.plot(0, 20040, 0);
        check.due("an owner alone", x.interest(0, 0), 1600);
        check.due("interest(0, 1)", x.interest(0, 1), NO);
        check.due("interest(0, -1)", x.interest(0, -1), NO);
        check.due("interest(1, 0)", x.interest(1, 0), NO);
        x.lease(0, 1, 10, 30);
        x.lease(0, 2, 4, 20);
        check.due("owner", x.interest(0, 0), 1200);
        check.due("0 at least", x.interest(0, 1), 0);
        check.due("the last one", x.interest(0, 2), 80);
        check.due("interest(0, 3)", x.interest(0, 3), NO);
        x.year();
        check.due("a year less", x.interest(0, 2), 60);
        check.due("the owner's years stay", x.interest(0, 0), 1200);
        x.coins(0, 1600);
        x.decree(0);
        check.due("on a built plot", x.interest(0, 2), 60);
        x.plot(1, 20040, 0);
        x.act(1, 40);
        check.due("on a taken plot", x.interest(1, 0), NO);
    }

    private static void bears() {
        check.part("8 bears");
        AfterFire x = new AfterFire();
        x.plot(0, 10020, 0);
        x.lease(0, 1, 40, 5);
        check.due("nobody can build", x.bears(0, 0), NO);
        x.rates(1, 3, 10);
        x.coins(0, 200);
        check.due("halves", x.bears(0, 0), 100);
        check.due("halves", x.bears(0, 1), 100);
        check.due("bears(0, 2)", x.bears(0, 2), NO);
        check.due("bears(0, -1)", x.bears(0, -1), NO);
        check.due("bears(1, 0)", x.bears(1, 0), NO);
        check.due("nothing is paid", x.has(0), 200);
        AfterFire y = new AfterFire();
        y.rates(1, 3, 10);
        y.plot(0, 11021, 0);
        y.lease(0, 1, 40, 4);
        y.lease(0, 2, 40, 8);
        y.coins(0, 231);
        check.due("cut 231 by 160 160 120", y.bears(0, 0), 84);
        check.due("cut 231 by 160 160 120", y.bears(0, 1), 84);
        check.due("cut 231 by 160 160 120", y.bears(0, 2), 63);
        y.plot(1, 11021, 0);
        y.lease(1, 1, 40, 5);
        y.lease(1, 2, 40, 10);
        y.lease(1, 3, 40, 0);
        y.coins(3, 231);
        check.due("231 by 200 200 0 440", y.bears(1, 0), 55);
        check.due("231 by 200 200 0 440", y.bears(1, 1), 55);
        check.due("no interest", y.bears(1, 2), 0);
        check.due("231 by 200 200 0 440", y.bears(1, 3), 121);
        y.plot(2, 11023, 0);
        y.lease(2, 1, 40, 6);
        y.coins(0, 22);
        check.due("253 in halves: the one farther up", y.bears(2, 0), 127);
        check.due("253 in halves: the one farther down", y.bears(2, 1), 126);
        lastBearsAll();
        partsPastAnInt();
        bearsOnABuiltPlot();
        bearsOnALostPlot();
    }

    private static void bearsOnABuiltPlot() {
        AfterFire x = new AfterFire();
        x.rates(1, 3, 10);
        x.plot(0, 10020, 0);
        x.lease(0, 1, 1, 5);
        x.coins(1, 200);
        check.due("decree(0)", x.decree(0), 1);
        check.due("200 by 200 5: the owner bore 195", x.has(1), 195);
        x.coins(1, 4);
        check.due("built, one coin below COST", x.bears(0, 0), NO);
        x.coins(1, 1);
        check.due("built, by the years the lease has then", x.bears(0, 0), 100);
        check.due("built, by the years the lease has then", x.bears(0, 1), 100);
        check.due("built, no such place", x.bears(0, 2), NO);
        check.due("built, below the chain", x.bears(0, -1), NO);
        check.due("no second decree", x.decree(0), NO);
        check.due("nothing is paid", x.has(1), 200);
        x.rates(2, 3, 10);
        check.due("built, the new rate is too dear", x.bears(0, 0), NO);
        x.coins(0, 595);
        check.due("built, by the new rate", x.bears(0, 1), 200);
        for (int i = 0; i < 10; i++) {
            x.year();
        }
        check.due("built, the lease has 30 years: 400 by 200 150", x.bears(0, 0), 229);
        check.due("built, the lease has 30 years: 400 by 200 150", x.bears(0, 1), 171);
        for (int i = 0; i < 30; i++) {
            x.year();
        }
        check.due("built, the lease has gone", x.bears(0, 0), 400);
        check.due("built, the lease has gone", x.bears(0, 1), NO);
    }

    private static void bearsOnALostPlot() {
        AfterFire x = new AfterFire();
        x.rates(1, 3, 0);
        x.coins(0, 100000);
        x.plot(0, 10020, 0);
        x.act(0, 1);
        check.due("taken", x.bears(0, 0), NO);
        x.plot(1, 10020, 0);
        x.year();
        check.due("forfeited", x.bears(1, 0), NO);
    }

    private static void lastBearsAll() {
        AfterFire x = new AfterFire();
        x.plot(0, 10020, 0);
        x.lease(0, 1, 9, 0);
        x.lease(0, 2, 9, 0);
        x.coins(1, 400);
        check.due("no rents: the owner", x.bears(0, 0), 0);
        check.due("no rents: who would build", x.bears(0, 1), 0);
        check.due("no rents: the last one", x.bears(0, 2), 400);
    }

    private static void partsPastAnInt() {
        AfterFire x = new AfterFire();
        x.rates(9, 3, 10);
        x.plot(0, 60100, 0);
        x.lease(0, 1, 99, 0);
        x.lease(0, 2, 99, 999);
        x.coins(0, 54000);
        check.due("54000 times 98901", x.bears(0, 1), 54000);
        check.due("the last one", x.bears(0, 2), 0);
    }

    private static void decree() {
        check.part("9 decree");
        AfterFire x = new AfterFire();
        check.due("decree(0)", x.decree(0), NO);
        check.due("decree(-1)", x.decree(-1), NO);
        x.plot(0, 10020, 0);
        x.lease(0, 1, 50, 5);
        x.lease(0, 2, 50, 5);
        x.coins(0, 400);
        x.coins(1, 399);
        check.due("the owner alone can", x.decree(0), 0);
        check.due("has(0)", x.has(0), 400 - 400 + 222);
        check.due("has(1)", x.has(1), 399);
        check.due("has(2)", x.has(2), -222);
        check.due("told(0, 0)", x.told(0, 0), 1);
        check.due("told(0, 4)", x.told(0, 4), 0);
        check.due("told(0, 5)", x.told(0, 5), 0);
        check.due("again", x.decree(0), NO);
        x.coins(2, 5222);
        check.due("again, with coins enough", x.decree(0), NO);
        check.due("has(2)", x.has(2), 5000);
        x.plot(1, 10020, 3);
        x.lease(1, 4, 50, 5);
        x.coins(3, 9999);
        x.coins(4, 400);
        x.year();
        check.due("the one farthest down", x.decree(1), 1);
        check.due("told(1, 4)", x.told(1, 4), 4);
        check.due("told(1, 5)", x.told(1, 5), 1);
        check.due("the owner pays the builder", x.has(3), 9999 - 180);
        check.due("the builder", x.has(4), 400 - 400 + 180);
        x.plot(2, 10020, 5);
        check.due("nobody can", x.decree(2), NO);
        check.due("told(2, 0)", x.told(2, 0), 0);
        x.coins(5, 9999);
        x.act(2, 1);
        check.due("taken", x.decree(2), NO);
        check.due("one person at two places", samePersonTwice(), 5);
        othersMayFallBelowNothing();
    }

    private static int samePersonTwice() {
        AfterFire x = new AfterFire();
        x.plot(0, 10020, 0);
        x.lease(0, 0, 40, 5);
        x.coins(0, 405);
        check.due("decree(0)", x.decree(0), 1);
        return x.has(0);
    }

    private static void othersMayFallBelowNothing() {
        AfterFire x = new AfterFire();
        x.plot(0, 10020, 0);
        x.lease(0, 1, 9, 0);
        x.lease(0, 2, 9, 0);
        x.lease(0, 3, 9, 0);
        x.coins(1, 500);
        check.due("the last one bears all", x.decree(0), 1);
        check.due("has(1)", x.has(1), 500);
        check.due("has(3)", x.has(3), -400);
    }

    private static void decreeLengthensLeases() {
        check.part("9 decree, years");
        AfterFire x = new AfterFire();
        x.plot(0, 10020, 0);
        x.lease(0, 1, 60, 1);
        x.lease(0, 2, 30, 2);
        x.lease(0, 3, 20, 3);
        x.coins(2, 400);
        check.due("decree(0)", x.decree(0), 2);
        check.due("longer above stays", x.chain(0, 1, 1), 60);
        check.due("the builder's", x.chain(0, 2, 1), 40);
        check.due("the one under", x.chain(0, 3, 1), 20);
        x.plot(1, 10020, 0);
        x.lease(1, 1, 3, 1);
        x.lease(1, 2, 2, 2);
        x.lease(1, 9, 1, 3);
        x.coins(9, 400);
        check.due("decree(1)", x.decree(1), 3);
        for (int k = 1; k <= 3; k++) {
            check.due("all of them", x.chain(1, k, 1), 40);
        }
        x.plot(2, 10020, 5);
        x.lease(2, 6, 3, 1);
        x.coins(5, 400);
        check.due("decree(2)", x.decree(2), 0);
        check.due("an owner's building lengthens nothing", x.chain(2, 1, 1), 3);
        x.plot(3, 10020, 7);
        x.lease(3, 8, 80, 1);
        x.coins(8, 400);
        x.decree(3);
        check.due("40 at least", x.chain(3, 1, 1), 80);
    }

    private static void walls() {
        check.part("9 decree, walls");
        AfterFire x = new AfterFire();
        x.rates(1, 3, 60);
        x.plot(0, 10021, 0);
        x.plot(0, 10025, 1);
        x.plot(0, 10023, 2);
        x.coins(0, 1000);
        x.coins(1, 1000);
        x.coins(2, 1000);
        x.decree(1);
        check.due("both walls", x.has(1), 1000 - 250 - 63 - 69);
        check.due("told(1, 6)", x.told(1, 6), 2);
        check.due("told(0, 6)", x.told(0, 6), 1);
        check.due("told(2, 6)", x.told(2, 6), 1);
        x.act(0, 1);
        x.decree(0);
        check.due("half of what was paid, cut", x.has(0), 1000 - 200 + 30 - 31);
        check.due("to the one who paid", x.has(1), 618 + 31);
        x.decree(2);
        check.due("half of 69", x.has(2), 1000 - 220 + 30 - 34);
        check.due("to the one who paid", x.has(1), 618 + 31 + 34);
        check.due("told(1, 6)", x.told(1, 6), 2);
        AfterFire y = new AfterFire();
        y.rates(1, 3, 0);
        y.plot(0, 10020, 0);
        y.year();
        y.plot(0, 10020, 1);
        y.coins(1, 200);
        y.decree(1);
        check.due("no wall to a forfeited plot", y.has(1), 0);
        check.due("told(1, 6)", y.told(1, 6), 0);
        y.plot(0, 10020, 2);
        y.coins(2, 200);
        y.decree(2);
        check.due("a wall to a built plot that came ahead", y.has(2), -60);
        check.due("the one ahead pays nothing", y.has(1), 0);
        y.plot(0, 10020, 3);
        y.act(0, 1);
        y.plot(0, 10020, 4);
        y.coins(4, 200);
        y.decree(4);
        check.due("no wall to a taken plot", y.has(4), 0);
    }

    private static void act() {
        check.part("10 act");
        AfterFire x = new AfterFire();
        x.plot(0, 10060, 0);
        x.plot(0, 20059, 1);
        x.plot(1, 20059, 2);
        int[][] refused = {{-1, 1}, {6, 1}, {0, 0}, {0, -1}, {0, 41}};
        for (int[] r : refused) {
            check.due("act(" + r[0] + ", " + r[1] + ")", x.act(r[0], r[1]), NO);
        }
        check.due("act(5, 1)", x.act(5, 1), 0);
        check.due("20 feet left, and less than that", x.act(0, 40), 400 + 20 * 59);
        check.due("told(0, 2)", x.told(0, 2), 20);
        check.due("told(0, 0)", x.told(0, 0), 0);
        check.due("told(1, 0)", x.told(1, 0), 3);
        check.due("a taken plot's DEPTH is told as it was", x.told(1, 2), 59);
        check.due("another street", x.told(2, 2), 59);
        check.due("pay 3", x.has(0), 1200);
        check.due("all is paid", x.has(1), 60 * 59);
        check.due("count(7)", x.count(7), 1200 + 60 * 59);
        check.due("a taken plot once only", x.act(0, 1), 200);
        check.due("has(1)", x.has(1), 60 * 59);
        x.coins(2, 9999);
        x.decree(2);
        check.due("built plots stay", x.act(1, 40), 0);
        x.plot(2, 10050, 3);
        x.lease(2, 4, 5, 5);
        x.lease(3, 4, 5, 5);
        check.due("act(2, 1)", x.act(2, 1), 10);
        check.due("the owner alone gets pay", x.has(3), 30);
        check.due("holders get none", x.has(4), 0);
        check.due("leases stay", x.told(3, 3), 1);
        check.due("act(2, 30)", x.act(2, 30), 490);
        check.due("leases are gone", x.told(3, 3), 0);
    }

    private static void year() {
        check.part("11 year");
        AfterFire x = new AfterFire();
        x.plot(0, 10020, 0);
        x.plot(0, 10020, 1);
        x.plot(1, 10020, 2);
        x.coins(0, 400);
        x.decree(0);
        x.act(1, 1);
        x.lease(1, 2, 10, 5);
        for (int i = 0; i < 10; i++) {
            check.due("before LIMIT", x.year(), 0);
        }
        check.due("a lease of 10 years is over", x.told(1, 3), 0);
        check.due("told(1, 0)", x.told(1, 0), 0);
        check.due("in LIMIT", x.year(), 1);
        check.due("forfeited", x.told(1, 0), 2);
        check.due("chain(1, 0, 0)", x.chain(1, 0, 0), NO);
        check.due("built stays", x.told(0, 0), 1);
        check.due("taken stays", x.told(2, 0), 3);
        x.plot(2, 10020, 0);
        x.plot(2, 10020, 0);
        check.due("later than LIMIT", x.year(), 2);
        check.due("count(0)", x.count(0), 12);
        for (int i = 12; i < 60; i++) {
            check.due("year()", x.year(), 0);
        }
        x.plot(3, 10020, 0);
        x.lease(5, 1, 1, 1);
        x.tax(10);
        check.due("NOW is 60", x.year(), NO);
        check.due("count(0)", x.count(0), 60);
        check.due("nothing is forfeited", x.told(5, 0), 0);
        check.due("leases stay", x.told(5, 3), 1);
        check.due("no tax comes", x.count(5), 0);
    }

    private static void leasesEnd() {
        check.part("11 year, leases");
        AfterFire x = new AfterFire();
        x.plot(0, 10020, 0);
        x.lease(0, 1, 3, 1);
        x.lease(0, 2, 2, 1);
        x.lease(0, 3, 2, 1);
        x.year();
        check.due("all run on", x.told(0, 3), 3);
        check.due("chain(0, 3, 1)", x.chain(0, 3, 1), 1);
        x.year();
        check.due("two are over at once", x.told(0, 3), 1);
        check.due("chain(0, 2, 0)", x.chain(0, 2, 0), NO);
        check.due("room for others", x.lease(0, 4, 1, 7), 2);
        check.due("chain(0, 2, 2)", x.chain(0, 2, 2), 7);
        x.year();
        check.due("all are over", x.told(0, 3), 0);
        check.due("the owner stays", x.chain(0, 0, 0), 0);
        x.lease(0, 5, 1, 1);
        x.coins(0, 400);
        check.due("decree(0)", x.decree(0), 0);
        x.year();
        check.due("leases of built plots end too", x.told(0, 3), 0);
    }

    private static void due() {
        check.part("12 due");
        AfterFire x = new AfterFire();
        check.due("due(0, 0)", x.due(0, 0), false);
        x.plot(0, 10020, 0);
        check.due("due(-1, 0)", x.due(-1, 0), false);
        check.due("due(1, 0)", x.due(1, 0), false);
        check.due("due(0, -1)", x.due(0, -1), false);
        check.due("due(0, 61)", x.due(0, 61), false);
        check.due("LIMIT without", x.saved(3), 10);
        check.due("due(0, 60)", x.due(0, 60), true);
        check.due("61 years of one brick", x.saved(1), 10);
        check.due("due(0, 29)", x.due(0, 29), true);
        check.due("30 years of one brick", x.saved(1), 10);
        check.due("due(0, 28)", x.due(0, 28), true);
        check.due("29 years of one brick", x.saved(1), 0);
        check.due("due(0, 0)", x.due(0, 0), true);
        check.due("as the year begins", x.saved(30), 10);
        x.year();
        check.due("a year that is over", x.saved(2000), 0);
        check.due("a year that is over", x.due(0, 0), true);
    }

    private static void saved() {
        check.part("13 saved");
        AfterFire x = new AfterFire();
        int[] refused = {0, -1, 2001, Integer.MIN_VALUE, Integer.MAX_VALUE};
        for (int b : refused) {
            check.due("saved(" + b + ")", x.saved(b), NO);
            check.due("heap(" + b + ")", x.heap(b), NO);
        }
        check.due("no plots", x.saved(2000), 0);
        x.rates(1, 1, 1);
        x.plot(0, 10020, 0);
        x.plot(0, 20030, 0);
        check.due("bricks wait: 40 and 40 for 30 and 50", x.saved(40), 40);
        check.due("39 and 39", x.saved(39), 30);
        check.due("24 and 24", x.saved(24), 10);
        x.year();
        check.due("from NOW on", x.saved(40), 10);
        check.due("from NOW on", x.saved(50), 30);
        x.rates(1, 1, 60);
        for (int i = 0; i < 6; i++) {
            x.plot(0, 10020, 0);
        }
        for (int i = 0; i < 4; i++) {
            x.plot(1, 10020, 0);
        }
        check.due("12 plots", x.saved(2000), 140);
        x.plot(1, 10020, 0);
        check.due("13 plots", x.saved(2000), NO);
        check.due("13 plots", x.heap(2000), NO);
        x.coins(0, 200);
        x.decree(12);
        check.due("built ones don't count", x.saved(2000), 140);
        x.act(1, 1);
        check.due("taken ones don't count", x.saved(2000), 100);
        x.rates(1, 1, 0);
        x.year();
        check.due("forfeited ones don't count", x.saved(2000), 0);
    }

    private static void heap() {
        check.part("14 heap");
        AfterFire x = new AfterFire();
        check.due("no plots", x.heap(1), 0);
        x.rates(1, 1, 0);
        for (int i = 0; i < 4; i++) {
            x.plot(0, 10020, 0);
        }
        check.due("least as a number", x.heap(60), 3);
        x.plot(0, 20020, 0);
        check.due("one of 20 or two of 10", x.heap(60), 3);
        check.due("one of 20, as two of 10 need more", x.heap(59), 16);
        x.due(1, 5);
        check.due("more time", x.heap(30), 3);
        x.due(0, 5);
        check.due("the least one that can be", x.heap(31), 7);
        check.due("worth of it", x.saved(31), 30);
        AfterFire y = new AfterFire();
        y.rates(1, 1, 0);
        for (int i = 0; i < 23; i++) {
            y.plot(i / 8, 10020, 0);
        }
        y.year();
        y.plot(5, 10020, 0);
        check.due("the highest bit", y.heap(2000), 0);
        y.rates(1, 1, 60);
        check.due("the highest bit", y.heap(2000), 1 << 23);
    }

    private static void works() {
        check.part("15 works");
        AfterFire x = new AfterFire();
        check.due("works(0)", x.works(0), NO);
        check.due("works(-1)", x.works(-1), NO);
        check.due("works(10001)", x.works(10001), NO);
        check.due("works(1)", x.works(1), 0);
        check.due("works(10000)", x.works(10000), 1);
        for (int i = 2; i < 20; i++) {
            check.due("works(5)", x.works(5), i);
        }
        check.due("a 21st", x.works(5), NO);
        check.due("none is paid", x.count(6), 0);
        x.tax(5000);
        x.year();
        check.due("the first and a part", x.count(6), 1);
        x.year();
        check.due("one coin is missing", x.count(6), 1);
        check.due("count(5)", x.count(5), 0);
        x.year();
        check.due("all", x.count(6), 20);
        check.due("what is left", x.count(5), 15000 - 10001 - 90);
    }

    private static void tax() {
        check.part("16 tax");
        AfterFire x = new AfterFire();
        check.due("tax(-1)", x.tax(-1), false);
        check.due("tax(5001)", x.tax(5001), false);
        x.year();
        check.due("0 at first", x.count(5), 0);
        check.due("tax(5000)", x.tax(5000), true);
        check.due("tax(5001)", x.tax(5001), false);
        check.due("as a year ends", x.count(5), 0);
        x.year();
        check.due("count(5)", x.count(5), 5000);
        x.year();
        check.due("what is left stays", x.count(5), 10000);
        check.due("tax(0)", x.tax(0), true);
        x.works(6000);
        check.due("works are paid as a year ends", x.count(6), 0);
        x.year();
        check.due("the chest pays", x.count(5), 4000);
        check.due("count(6)", x.count(6), 1);
        x.works(5000);
        x.works(1);
        x.year();
        check.due("in order, a part", x.count(5), 0);
        check.due("count(6)", x.count(6), 1);
        x.tax(1000);
        x.year();
        check.due("whole now", x.count(6), 2);
        check.due("nothing left", x.count(5), 0);
    }

    private static void stake() {
        check.part("17 stake");
        AfterFire x = new AfterFire();
        int[][] refused = {{-1, 0, 5}, {6, 0, 5}, {0, -1, 5}, {0, 7, 5}, {0, 0, -2}, {0, 0, 301}};
        for (int[] r : refused) {
            check.due("stake(" + r[0] + ", " + r[1] + ", " + r[2] + ")", x.stake(r[0], r[1], r[2]), false);
        }
        x.plot(0, 10020, 0);
        x.plot(0, 10020, 0);
        check.due("no stake", x.quarrel(0, 20), 0);
        check.due("stake(0, 0, 0)", x.stake(0, 0, 0), true);
        check.due("a stake", x.quarrel(0, 20), 10);
        check.due("stake(0, 0, 301)", x.stake(0, 0, 301), false);
        check.due("the same", x.quarrel(0, 20), 10);
        check.due("stake(0, 0, 12)", x.stake(0, 0, 12), true);
        check.due("another", x.quarrel(0, 20), 2);
        check.due("stake(0, 0, NONE)", x.stake(0, 0, NO), true);
        check.due("none", x.quarrel(0, 20), 0);
        check.due("stake(0, 6, 300)", x.stake(0, 6, 300), true);
        check.due("stake(0, 1, 300)", x.stake(0, 1, 300), true);
        check.due("behind the last plot", x.quarrel(0, 20), 0);
        x.plot(0, 10020, 0);
        check.due("behind one that isn't the last any more", x.quarrel(0, 30), 280);
    }

    private static void quarrel() {
        check.part("18 quarrel");
        AfterFire x = new AfterFire();
        check.due("no plots", x.quarrel(0, 2), NO);
        x.plot(0, 10020, 0);
        check.due("one plot", x.quarrel(0, 2), 8);
        check.due("one plot", x.quarrel(0, 300), 290);
        int[] refused = {1, 0, -1, 301, Integer.MIN_VALUE, Integer.MAX_VALUE};
        for (int t : refused) {
            check.due("quarrel(0, " + t + ")", x.quarrel(0, t), NO);
        }
        check.due("quarrel(-1, 5)", x.quarrel(-1, 5), NO);
        check.due("quarrel(6, 5)", x.quarrel(6, 5), NO);
        x.plot(0, 30020, 0);
        x.plot(0, 20020, 0);
        check.due("quarrel(0, 2)", x.quarrel(0, 2), NO);
        check.due("quarrel(0, 3)", x.quarrel(0, 3), 57);
        check.due("quarrel(0, 60)", x.quarrel(0, 60), 0);
        x.stake(0, 0, 20);
        x.stake(0, 1, 30);
        check.due("two stakes that quarrel", x.quarrel(0, 60), 20);
        x.act(0, 40);
        check.due("taken plots too", x.quarrel(0, 60), 20);
    }

    private static void border() {
        check.part("19 border");
        AfterFire x = new AfterFire();
        check.due("no plots", x.border(0, 5, 0), NO);
        x.plot(0, 10020, 0);
        check.due("one plot", x.border(0, 5, 0), NO);
        x.plot(0, 30020, 0);
        x.plot(0, 20020, 0);
        check.due("border(0, 60, 0)", x.border(0, 60, 0), 10);
        check.due("border(0, 60, 1)", x.border(0, 60, 1), 40);
        check.due("the last one", x.border(0, 60, 2), NO);
        check.due("border(0, 60, -1)", x.border(0, 60, -1), NO);
        check.due("border(0, 2, 0)", x.border(0, 2, 0), NO);
        check.due("border(0, 301, 0)", x.border(0, 301, 0), NO);
        check.due("border(-1, 60, 0)", x.border(-1, 60, 0), NO);
        check.due("border(6, 60, 0)", x.border(6, 60, 0), NO);
        check.due("the first ones", x.border(0, 50, 0), 1);
        check.due("the first ones", x.border(0, 50, 1), 30);
        check.due("longer: the first ones", x.border(0, 70, 0), 10);
        check.due("longer: the first ones", x.border(0, 70, 1), 40);
        check.due("one foot each", x.border(0, 3, 0), 1);
        check.due("one foot each", x.border(0, 3, 1), 2);
        x.stake(0, 0, 20);
        x.stake(0, 1, 30);
        check.due("staked", x.border(0, 60, 0), 10);
        check.due("staked", x.border(0, 60, 1), 40);
    }

    private static void told() {
        check.part("20 told");
        AfterFire x = new AfterFire();
        check.due("told(0, 0)", x.told(0, 0), NO);
        x.plot(0, 11022, 3);
        x.plot(0, 12023, 4);
        int[] want = {0, 11, 22, 0, NO, NO, 0, NO};
        for (int what = 0; what < want.length; what++) {
            check.due("told(0, " + what + ")", x.told(0, what), want[what]);
        }
        check.due("told(0, -1)", x.told(0, -1), NO);
        check.due("told(-1, 0)", x.told(-1, 0), NO);
        check.due("told(2, 0)", x.told(2, 0), NO);
        x.lease(0, 5, 9, 9);
        x.coins(5, 9999);
        x.year();
        x.year();
        x.decree(0);
        int[] built = {1, 11, 22, 1, 5, 2, 1};
        for (int what = 0; what < built.length; what++) {
            check.due("told(0, " + what + ")", x.told(0, what), built[what]);
        }
        x.rates(1, 1, 0);
        x.year();
        int[] forfeited = {2, 12, 23, 0, NO, NO, 1};
        for (int what = 0; what < forfeited.length; what++) {
            check.due("told(1, " + what + ")", x.told(1, what), forfeited[what]);
        }
    }

    private static void chain() {
        check.part("21 chain");
        AfterFire x = new AfterFire();
        check.due("chain(0, 0, 0)", x.chain(0, 0, 0), NO);
        x.plot(0, 11022, 3);
        x.lease(0, 7, 9, 8);
        int[][] want = {{3, 99, 0, NO}, {7, 9, 8, NO}, {NO, NO, NO, NO}};
        for (int k = 0; k < 3; k++) {
            for (int what = 0; what < 4; what++) {
                check.due("chain(0, " + k + ", " + what + ")", x.chain(0, k, what), want[k][what]);
            }
        }
        check.due("chain(0, 0, -1)", x.chain(0, 0, -1), NO);
        check.due("chain(0, -1, 0)", x.chain(0, -1, 0), NO);
        check.due("chain(-1, 0, 0)", x.chain(-1, 0, 0), NO);
        check.due("chain(1, 0, 0)", x.chain(1, 0, 0), NO);
        x.year();
        check.due("the owner's years", x.chain(0, 0, 1), 99);
        check.due("the holder's years", x.chain(0, 1, 1), 8);
        x.act(0, 40);
        check.due("taken", x.chain(0, 1, 1), NO);
    }

    private static void has() {
        check.part("22 has");
        AfterFire x = new AfterFire();
        check.due("has(19)", x.has(19), 0);
        check.due("has(-1)", x.has(-1), NO_PURSE);
        check.due("has(20)", x.has(20), NO_PURSE);
        x.coins(19, 3);
        check.due("has(19)", x.has(19), 3);
        check.due("has(18)", x.has(18), 0);
    }

    private static void count() {
        check.part("23 count");
        AfterFire x = new AfterFire();
        check.due("count(-1)", x.count(-1), NO);
        check.due("count(8)", x.count(8), NO);
        for (int i = 0; i < 6; i++) {
            x.plot(i, 10030, i);
        }
        x.coins(0, 600);
        x.decree(0);
        x.act(1, 11);
        x.act(2, 11);
        x.works(30);
        x.works(30);
        x.tax(70);
        x.rates(1, 1, 0);
        x.year();
        x.plot(0, 10030, 0);
        int[] want = {1, 7, 1, 3, 2, 10, 2, 1800};
        for (int what = 0; what < want.length; what++) {
            check.due("count(" + what + ")", x.count(what), want[what]);
        }
    }
}

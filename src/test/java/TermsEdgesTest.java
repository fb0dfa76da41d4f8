/**
 * The sentences under "Terms" that name a bound or an edge, in the document's order. Each has a
 * part of its own that is named by the sentence: the last input that can be, the first that can't.
 */
public final class TermsEdgesTest {
    private static final Check check = new Check();

    public static void main(String[] args) {
        usedForAtMost512Calls();
        yearsAndNow();
        streets();
        persons();
        coinsMayBeBelowNothing();
        plotsAtMost24();
        plotsStandAsTheyCame();
        fronts();
        depths();
        upToThreeLeases();
        leaseYears();
        notMoreThanTheOneAhead();
        rents();
        rentsMoveNoCoins();
        leasesGo();
        worthIsCut();
        interestIsNothingAtLeast();
        ownersHaveForty();
        rates();
        builtForfeitedOrDecreed();
        builderIsFarthestDown();
        coinsAreNotBelowCost();
        partsAreCut();
        oneMoreEach();
        interestsOfNothing();
        builderPaysCost();
        builtLeaseHasForty();
        wallsWithAndWithoutNeighbours();
        wallsByTheDepthThen();
        halfOfTheWall();
        wallsToLostPlots();
        limit();
        forfeitedHaveNothing();
        actFeet();
        lessThanTwentyFeet();
        pay();
        actsSpareTheBuiltAndTheLost();
        bricksOfAYear();
        twelveAtMost();
        needs();
        byTheEndOfItsYear();
        bricksWait();
        fromNowOn();
        greatestSum();
        leastHeap();
        heapsByYearsInAnyOrder();
        worksAndPrices();
        taxes();
        taxReaches();
        rowsInTruth();
        rowsOfPlots();
        stakes();
        oneFootEach();
        oneStreetAfterAnother();
        leastQuarrel();
        firstBorders();
        check.end();
    }

    private static Court sentence(String words) {
        check.part(words);
        return new Court(check);
    }

    private static void usedForAtMost512Calls() {
        Court x = sentence("An object is used for at most 512 calls");
        x.run(511, "coins(0, 100000)").due("coins(0, 100000)", 51200000);
        sentence("An object is used for at most 512 calls").run(511, "act(5, 40)").due("count(0)", 0);
        Court y = sentence("An object is used for at most 512 calls").run("rates(9, 9, 60)", "tax(5000)");
        y.run(60, "year()");
        for (int i = 0; i < 449; i++) {
            y.refused("year()");
        }
        y.due("count(5)", 300000);
    }

    private static void yearsAndNow() {
        Court x = sentence("YEARS are 0 .. 60; NOW is one (0 at first)").due("count(0)", 0).run("plot(0, 10020, 0)");
        x.due("due(0, 0)", 1).due("due(0, 60)", 1).refused("due(0, -1)", "due(0, 61)");
        x.due("rates(2, 3, 0)", 1).due("rates(2, 3, 60)", 1).refused("rates(2, 3, -1)", "rates(2, 3, 61)");
        for (int now = 1; now <= 60; now++) {
            x.run("year()").due("count(0)", now);
        }
        x.refused("year()").due("count(0)", 60);
    }

    private static void streets() {
        Court x = sentence("STREETS are 0 .. 5").due("plot(0, 10020, 0)", 0).due("plot(5, 10020, 0)", 1);
        x.refused("plot(-1, 10020, 0)", "plot(6, 10020, 0)").due("count(1)", 2);
        x.due("stake(0, 0, 1)", 1).due("stake(5, 0, 1)", 1).refused("stake(-1, 0, 1)", "stake(6, 0, 1)");
        x.due("quarrel(0, 10)", 0).due("quarrel(5, 11)", 1).refused("quarrel(-1, 10)", "quarrel(6, 10)");
        x.run("plot(0, 10020, 0)", "plot(5, 10020, 0)", "stake(0, 0, -1)", "stake(5, 0, -1)");
        x.due("border(0, 20, 0)", 10).due("border(5, 20, 0)", 10).refused("border(-1, 20, 0)", "border(6, 20, 0)");
        x.due("act(0, 1)", 400).due("act(5, 1)", 400).refused("act(-1, 1)", "act(6, 1)").due("count(4)", 4);
    }

    private static void persons() {
        Court x = sentence("PERSONS are 0 .. 19").due("coins(0, 1)", 1).due("coins(19, 2)", 2);
        x.refused("coins(-1, 1)", "coins(20, 1)").due("has(0)", 1).due("has(19)", 2).refused("has(-1)", "has(20)");
        x.due("plot(0, 10020, 0)", 0).due("plot(0, 10020, 19)", 1);
        x.refused("plot(0, 10020, -1)", "plot(0, 10020, 20)").due("count(1)", 2).due("chain(1, 0, 0)", 19);
        x.due("lease(0, 0, 1, 1)", 1).due("lease(0, 19, 1, 1)", 2).due("chain(0, 2, 0)", 19);
        x.refused("lease(0, -1, 1, 1)", "lease(0, 20, 1, 1)").due("told(0, 3)", 2);
    }

    private static void coinsMayBeBelowNothing() {
        Court x = sentence("COINS (0 at first; they may be below 0)");
        for (int person = 0; person < 20; person++) {
            x.due("has(" + person + ")", 0);
        }
        x.run("plot(0, 10020, 0)", "plot(0, 10020, 1)", "lease(0, 2, 1, 0)", "coins(0, 400)");
        x.due("decree(0)", 0).due("has(2)", -400).due("has(0)", 400 - 60);
        x.due("coins(2, 399)", -1).due("coins(2, 1)", 0).due("coins(2, 1)", 1);
        x.run("coins(1, 400)").due("decree(1)", 0).due("has(1)", -30).due("coins(1, 29)", -1);
    }

    private static void plotsAtMost24() {
        Court x = sentence("PLOTS have numbers as they come, at most 24");
        x.due("count(1)", 0).refused("told(0, 0)");
        for (int i = 0; i < 24; i++) {
            int street = i % 6;
            x.refused("worth(" + i + ")", "plot(" + street + ", 9020, 0)");
            x.due("plot(" + street + ", 100" + (20 + i) + ", 0)", i).due("told(" + i + ", 2)", 20 + i);
        }
        for (int street = 0; street < 6; street++) {
            x.refused("plot(" + street + ", 10020, 0)");
        }
        x.due("count(1)", 24).due("told(23, 2)", 43).refused("told(24, 2)");
        // Lost plots keep their numbers: no room comes back.
        x.run("act(0, 40)").due("count(4)", 4).refused("plot(0, 10020, 0)").due("count(1)", 24);
    }

    private static void plotsStandAsTheyCame() {
        Court x = sentence("PLOTS of a STREET stand side by side, as they came").run("rates(1, 3, 60)");
        x.run("plot(0, 10030, 0)", "plot(1, 20040, 1)", "plot(0, 30020, 2)", "plot(1, 40050, 3)");
        x.due("border(0, 40, 0)", 10).due("border(1, 60, 0)", 20);
        x.run("coins(0, 300)").due("decree(0)", 0).due("has(0)", -60);
        x.due("told(0, 6)", 1).due("told(2, 6)", 1).due("told(1, 6)", 0).due("told(3, 6)", 0);
        x.run("coins(3, 2000)").due("decree(3)", 0).due("has(3)", -120);
        x.due("told(1, 6)", 1).due("told(3, 6)", 1).due("told(2, 6)", 1);
    }

    private static void fronts() {
        Court x = sentence("a FRONT (10 .. 60 feet)").refused("plot(0, 9040, 0)").due("plot(0, 10040, 0)", 0);
        x.due("plot(0, 60040, 0)", 1).refused("plot(0, 61040, 0)", "plot(0, 40, 0)", "plot(0, -10040, 0)");
        x.due("told(0, 1)", 10).due("told(1, 1)", 60).due("count(1)", 2);
    }

    private static void depths() {
        Court x = sentence("a DEPTH (20 .. 100)").refused("plot(0, 30019, 0)").due("plot(0, 30020, 0)", 0);
        x.due("plot(0, 30100, 0)", 1).refused("plot(0, 30101, 0)", "plot(0, 30000, 0)", "plot(0, 30999, 0)");
        x.due("told(0, 2)", 20).due("told(1, 2)", 100).due("count(1)", 2);
    }

    private static void upToThreeLeases() {
        Court x = sentence("up to three LEASES under that, each under the one ahead").run("plot(0, 10020, 0)");
        x.due("lease(0, 1, 3, 0)", 1).due("lease(0, 2, 3, 0)", 2).due("lease(0, 3, 1, 0)", 3);
        x.refused("lease(0, 4, 1, 0)").due("told(0, 3)", 3).due("chain(0, 3, 0)", 3);
        x.run("year()").due("told(0, 3)", 2).due("lease(0, 5, 2, 0)", 3).due("chain(0, 3, 0)", 5);
        x.refused("lease(0, 6, 1, 0)").run("plot(0, 10020, 0)").due("lease(1, 0, 1, 0)", 1);
    }

    private static void leaseYears() {
        Court x = sentence("YEARS from NOW on (1 .. 99").run("plot(0, 10020, 0)", "plot(0, 10020, 0)");
        x.refused("lease(0, 1, 0, 0)", "lease(0, 1, 100, 0)", "lease(0, 1, -1, 0)").due("told(0, 3)", 0);
        x.due("lease(0, 1, 99, 0)", 1).due("chain(0, 1, 1)", 99).due("lease(0, 1, 99, 0)", 2);
        x.due("lease(1, 1, 1, 0)", 1).due("chain(1, 1, 1)", 1).refused("lease(1, 1, 0, 0)");
        x.due("lease(1, 1, 1, 0)", 2).due("told(1, 3)", 2);
    }

    private static void notMoreThanTheOneAhead() {
        Court x = sentence("not more than the one ahead has then").run("plot(0, 10020, 0)", "lease(0, 1, 9, 0)");
        x.refused("lease(0, 2, 10, 0)").run("year()").refused("lease(0, 2, 9, 0)").due("lease(0, 2, 8, 0)", 2);
        x.run("year()").refused("lease(0, 3, 8, 0)").due("lease(0, 3, 7, 0)", 3);
        for (int k = 1; k <= 3; k++) {
            x.due("chain(0, " + k + ", 1)", 7);
        }
        // The OWNER has 99 in each YEAR.
        x.run("rates(2, 3, 60)", "plot(0, 10020, 0)").run(58, "year()").due("count(0)", 60);
        x.due("lease(1, 1, 99, 0)", 1);
    }

    private static void rents() {
        Court x = sentence("a RENT (0 .. 999) a YEAR").run("plot(0, 10020, 0)");
        x.refused("lease(0, 1, 5, -1)", "lease(0, 1, 5, 1000)").due("told(0, 3)", 0);
        x.due("lease(0, 1, 5, 0)", 1).due("lease(0, 1, 5, 999)", 2);
        x.due("chain(0, 0, 2)", 0).due("chain(0, 1, 2)", 0).due("chain(0, 2, 2)", 999);
    }

    private static void rentsMoveNoCoins() {
        Court x = sentence("it counts for INTERESTS; COINS aren't moved for it here");
        x.run("plot(0, 10020, 0)", "coins(1, 50)", "lease(0, 1, 5, 7)", "lease(0, 2, 5, 9)", "year()", "year()");
        x.due("interest(0, 0)", 280).due("interest(0, 1)", 6).due("interest(0, 2)", 3);
        x.due("has(0)", 0).due("has(1)", 50).due("has(2)", 0);
    }

    private static void leasesGo() {
        Court x = sentence("A LEASE has gone when its YEARS are over; those under it go with it");
        x.run("plot(0, 10020, 0)", "lease(0, 1, 3, 4)", "lease(0, 2, 2, 5)", "lease(0, 3, 2, 6)", "year()");
        x.due("told(0, 3)", 3).due("chain(0, 2, 1)", 1).due("chain(0, 3, 1)", 1).run("year()");
        x.due("told(0, 3)", 1).due("chain(0, 1, 1)", 1).refused("chain(0, 2, 0)", "chain(0, 3, 0)");
        x.due("interest(0, 1)", 6).refused("interest(0, 2)");
        // COST 400 by 160 and 6: those who went bear nothing.
        x.run("coins(0, 400)").due("bears(0, 0)", 386).due("bears(0, 1)", 14).refused("bears(0, 2)").run("year()");
        x.due("told(0, 3)", 0).refused("chain(0, 1, 1)").due("chain(0, 0, 1)", 99).due("interest(0, 0)", 400);
        Court y = new Court(check).run("plot(0, 10020, 0)", "lease(0, 1, 99, 1)", "rates(2, 3, 60)");
        y.run(60, "year()").due("chain(0, 1, 1)", 39);
    }

    private static void worthIsCut() {
        Court x = sentence("WORTH of a PLOT in a YEAR: FRONT times DEPTH by 20 (cut)");
        x.run("plot(0, 10020, 0)", "plot(0, 60100, 0)", "plot(0, 11021, 0)", "plot(0, 13023, 0)", "plot(0, 10022, 0)");
        x.due("worth(0)", 10).due("worth(1)", 300).due("worth(2)", 11).due("worth(3)", 14).due("worth(4)", 11);
        x.run("act(0, 1)").due("worth(1)", 297).due("worth(2)", 11).due("worth(3)", 14).due("worth(4)", 10);
    }

    private static void interestIsNothingAtLeast() {
        Court x = sentence("less the RENT that one pays, 0 at least, times the YEARS that one has yet");
        x.run("plot(0, 10020, 0)", "plot(0, 10020, 0)", "plot(0, 10020, 0)", "plot(1, 10020, 0)");
        x.run("lease(0, 1, 7, 9)", "lease(1, 1, 7, 10)", "lease(2, 1, 7, 11)");
        x.due("interest(0, 1)", 7).due("interest(1, 1)", 0).due("interest(2, 1)", 0);
        x.run("lease(3, 1, 7, 5)", "lease(3, 2, 6, 4)", "lease(3, 3, 5, 6)");
        x.due("interest(3, 0)", 200).due("interest(3, 1)", 0).due("interest(3, 2)", 12).due("interest(3, 3)", 20);
        x.run("year()").due("interest(0, 1)", 6).due("interest(3, 2)", 10).due("interest(3, 3)", 16);
    }

    private static void ownersHaveForty() {
        Court x = sentence("times the YEARS that one has yet (OWNER: 40)").run("rates(2, 3, 60)");
        x.run("plot(0, 60100, 0)", "plot(0, 60100, 0)", "lease(1, 1, 99, 999)", "plot(0, 10020, 0)",
            "lease(2, 1, 1, 0)");
        x.due("interest(0, 0)", 12000).due("interest(1, 0)", 39960).due("interest(1, 1)", 0).due("interest(2, 0)", 0);
        x.run(60, "year()").due("interest(0, 0)", 12000).due("interest(1, 0)", 39960).due("interest(2, 0)", 400);
    }

    private static void rates() {
        Court x = sentence("the RATE (1 .. 9; 2 at first)").run("plot(0, 10020, 0)", "coins(0, 1800)");
        x.due("bears(0, 0)", 400).refused("rates(0, 3, 10)", "rates(10, 3, 10)").due("bears(0, 0)", 400);
        x.due("rates(1, 3, 10)", 1).due("bears(0, 0)", 200).due("rates(9, 3, 10)", 1).due("bears(0, 0)", 1800);
        x.due("decree(0)", 0).due("has(0)", 0);
    }

    private static void builtForfeitedOrDecreed() {
        Court x = sentence("A DECREE on a PLOT (that isn't built, forfeited or decreed)");
        x.run("coins(0, 9000)", "plot(0, 10020, 0)", "plot(1, 10020, 0)", "act(1, 1)", "rates(1, 3, 0)");
        x.due("decree(0)", 0).refused("decree(0)").due("has(0)", 9000 - 200 + 600).refused("decree(1)");
        x.run("plot(2, 10020, 0)").due("year()", 1).refused("decree(2)", "decree(0)").due("has(0)", 9400);
        x.due("told(0, 0)", 1).due("told(1, 0)", 3).due("told(2, 0)", 2).due("count(2)", 1);
        x.refused("told(1, 4)", "told(1, 5)", "told(2, 4)", "told(2, 5)");
    }

    private static void builderIsFarthestDown() {
        String words = "the BUILDER is of the CHAIN the one farthest down whose COINS aren't below COST";
        for (int place = 0; place < 4; place++) {
            Court x = sentence(words).run("plot(0, 10020, 0)");
            x.run("lease(0, 1, 9, 1)", "lease(0, 2, 9, 2)", "lease(0, 3, 9, 3)");
            for (int above = 0; above <= place; above++) {
                x.run("coins(" + above + ", 400)");
            }
            x.due("decree(0)", place).due("told(0, 4)", place).due("told(0, 0)", 1);
        }
    }

    private static void coinsAreNotBelowCost() {
        Court x = sentence("whose COINS aren't below COST; if there is none, there is no DECREE");
        x.run("plot(0, 10020, 0)", "lease(0, 1, 9, 1)").refused("decree(0)", "bears(0, 0)");
        x.run("coins(0, 399)", "coins(1, 399)").refused("decree(0)", "bears(0, 0)", "bears(0, 1)");
        x.due("told(0, 0)", 0).due("has(0)", 399).run("coins(0, 1)").due("bears(0, 1)", 400 * 81 / 121 + 1);
        x.due("decree(0)", 0);
        Court y = new Court(check).run("rates(9, 3, 10)", "plot(0, 60100, 0)", "coins(0, 53999)");
        y.refused("decree(0)", "bears(0, 0)").run("coins(0, 1)").due("bears(0, 0)", 54000).due("decree(0)", 0);
        y.due("has(0)", 0);
    }

    private static void partsAreCut() {
        Court x = sentence("COST is parted among all of the CHAIN by their INTERESTS (cut)");
        x.run("rates(1, 3, 10)", "plot(0, 10020, 0)", "coins(0, 200)");
        x.due("bears(0, 0)", 200).refused("bears(0, 1)").run("lease(0, 1, 10, 5)");
        x.due("bears(0, 0)", 160).due("bears(0, 1)", 40);
        // INTERESTS 40 and 90: 61 and 70 of 130, 138 and 60 of 130.
        x.run("plot(1, 10020, 0)", "lease(1, 1, 10, 1)").due("bears(1, 0)", 62).due("bears(1, 1)", 138);
    }

    private static void oneMoreEach() {
        Court x = sentence("one more each, of those of which most was cut off (of like ones the one farther up)");
        // 200 by 40, 40, 40, 280 of 400: nothing is cut off. 200 by 80, 80, 40 and 240 of 440: 160, 160, 80, 40.
        x.run("rates(1, 3, 10)", "coins(0, 9999)", "plot(0, 10020, 0)", "lease(0, 1, 40, 1)", "lease(0, 2, 40, 2)");
        x.run("lease(0, 3, 40, 3)");
        x.due("bears(0, 0)", 20).due("bears(0, 1)", 20).due("bears(0, 2)", 20).due("bears(0, 3)", 140);
        x.run("plot(1, 10022, 0)", "lease(1, 1, 40, 2)", "lease(1, 2, 40, 4)", "lease(1, 3, 40, 5)");
        x.due("bears(1, 0)", 40).due("bears(1, 1)", 40).due("bears(1, 2)", 20).due("bears(1, 3)", 120);
        threeOneMore(x);
        likeOnes(x);
    }

    private static void threeOneMore(Court x) {
        // WORTH 14 of 13 by 23, COST 299, INTERESTS 160, 80, 120, 200 of 560:
        // 85 and 240, 42 and 400, 64 and 40, 106 and 440 are left of 560: two more.
        x.run("plot(2, 13023, 0)", "lease(2, 1, 40, 4)", "lease(2, 2, 40, 6)", "lease(2, 3, 40, 9)");
        x.due("bears(2, 0)", 85).due("bears(2, 1)", 43).due("bears(2, 2)", 64).due("bears(2, 3)", 107);
        // WORTH 17 of 17 by 21, COST 357, INTERESTS 40, 160, 240, 240 of 680:
        // 21 exactly, 84 exactly, 126 and 126 exactly; with years of 39: 40, 156, 234, 234 of 664.
        x.run("plot(3, 17021, 0)", "lease(3, 1, 40, 1)", "lease(3, 2, 40, 5)", "lease(3, 3, 40, 11)");
        x.due("bears(3, 0)", 21).due("bears(3, 1)", 84).due("bears(3, 2)", 126).due("bears(3, 3)", 126);
        // 14280 by 664: 21 and 336; 55692: 83 and 580; 83538: 125 and 538, twice: three more.
        x.run("year()").due("bears(3, 0)", 21).due("bears(3, 1)", 84).due("bears(3, 2)", 126).due("bears(3, 3)", 126);
    }

    private static void likeOnes(Court x) {
        // COST 253 in halves, then three like ones: COST 250, of whom one, and 242, of whom two get more.
        x.run("plot(4, 11023, 0)", "lease(4, 1, 40, 6)").due("bears(4, 0)", 127).due("bears(4, 1)", 126);
        x.run("plot(5, 10025, 0)", "lease(5, 1, 40, 4)", "lease(5, 2, 40, 8)");
        x.due("bears(5, 0)", 84).due("bears(5, 1)", 83).due("bears(5, 2)", 83);
        x.run("plot(0, 11022, 0)", "lease(6, 1, 40, 4)", "lease(6, 2, 40, 8)");
        x.due("bears(6, 0)", 81).due("bears(6, 1)", 81).due("bears(6, 2)", 80);
    }

    private static void interestsOfNothing() {
        // The sum can't be 0: the RENTS would all be 0, and then WORTH is the last one's.
        Court x = sentence("if the sum is 0, all is the BUILDER's");
        x.run("plot(0, 10020, 0)", "lease(0, 1, 1, 0)", "lease(0, 2, 1, 0)", "lease(0, 3, 1, 0)", "coins(0, 400)");
        x.due("interest(0, 0)", 0).due("interest(0, 1)", 0).due("interest(0, 2)", 0).due("interest(0, 3)", 10);
        x.due("bears(0, 0)", 0).due("bears(0, 1)", 0).due("bears(0, 2)", 0).due("bears(0, 3)", 400);
    }

    private static void builderPaysCost() {
        Court x = sentence("The BUILDER pays COST; each other one pays their part to the BUILDER");
        x.run("plot(0, 10020, 0)", "lease(0, 1, 40, 5)", "coins(1, 400)", "coins(0, 50)");
        x.due("decree(0)", 1).due("has(1)", 200).due("has(0)", 50 - 200);
        Court y = new Court(check).run("plot(0, 10020, 0)", "lease(0, 0, 40, 5)", "coins(0, 400)");
        y.due("decree(0)", 1).due("has(0)", 0);
        Court z = new Court(check).run("plot(0, 10020, 0)", "coins(0, 401)").due("decree(0)", 0).due("has(0)", 1);
    }

    private static void builtLeaseHasForty() {
        String words = "The BUILDER's LEASE has at least 40 YEARS from NOW on then (and those above at least as many)";
        int[][] yearsAndThen = {{1, 40}, {39, 40}, {40, 40}, {41, 41}, {99, 99}};
        for (int[] y : yearsAndThen) {
            Court x = sentence(words).run("plot(0, 10020, 0)", "lease(0, 1, " + y[0] + ", 1)");
            x.run("lease(0, 2, " + y[0] + ", 2)", "lease(0, 3, 1, 3)", "coins(2, 400)").due("decree(0)", 2);
            x.due("chain(0, 0, 1)", 99).due("chain(0, 1, 1)", y[1]).due("chain(0, 2, 1)", y[1]);
            x.due("chain(0, 3, 1)", 1).run("year()").due("chain(0, 2, 1)", y[1] - 1).due("told(0, 3)", 2);
        }
        Court x = sentence(words).run("plot(0, 10020, 0)", "lease(0, 1, 50, 1)", "lease(0, 2, 30, 2)");
        x.run("coins(2, 400)").due("decree(0)", 2).due("chain(0, 1, 1)", 50).due("chain(0, 2, 1)", 40);
        Court y = sentence("The BUILDER's LEASE, if that isn't the OWNER").run("plot(0, 10020, 0)", "coins(0, 400)");
        y.run("lease(0, 1, 1, 1)").due("decree(0)", 0).due("chain(0, 0, 1)", 99).due("chain(0, 1, 1)", 1);
        Court z = sentence(words).run("rates(2, 3, 60)", "plot(0, 10020, 0)").run(60, "year()");
        z.run("lease(0, 1, 1, 1)", "coins(1, 400)").due("decree(0)", 1).due("chain(0, 1, 1)", 40).due("told(0, 5)", 60);
    }

    private static void wallsWithAndWithoutNeighbours() {
        Court x = sentence("for the one that came ahead of it there, then for the one behind it (if there is one)");
        x.run("rates(1, 3, 60)", "plot(0, 10020, 0)", "coins(0, 200)").due("decree(0)", 0).due("has(0)", 0);
        x.due("told(0, 6)", 0).run("plot(0, 10020, 1)").due("told(0, 6)", 0).due("told(1, 6)", 0);
        x.run("coins(1, 200)").due("decree(1)", 0).due("has(1)", -60).due("has(0)", 0);
        x.due("told(0, 6)", 1).due("told(1, 6)", 1);
        x.run("plot(0, 10020, 2)", "plot(0, 10020, 3)", "plot(0, 10020, 4)", "coins(3, 200)");
        x.due("decree(3)", 0).due("has(3)", -120).due("told(3, 6)", 2).due("told(2, 6)", 1).due("told(4, 6)", 1);
        x.run("coins(2, 200)").due("decree(2)", 0).due("has(2)", -60 - 30).due("has(3)", -120 + 30);
        x.due("told(2, 6)", 2).due("told(1, 6)", 2).due("has(1)", -60);
    }

    private static void wallsByTheDepthThen() {
        Court x = sentence("the BUILDER pays the lesser DEPTH of both, as they are then, times 3 (to nobody here)");
        x.run("rates(1, 1, 60)", "plot(0, 10050, 0)", "plot(0, 10021, 1)", "plot(1, 10021, 2)", "plot(1, 10050, 3)");
        x.run("plot(2, 10033, 4)", "plot(2, 10033, 5)", "coins(0, 500)", "coins(3, 500)", "coins(4, 330)");
        x.due("decree(0)", 0).due("has(0)", -63).due("decree(3)", 0).due("has(3)", -63);
        x.due("decree(4)", 0).due("has(4)", -99).due("has(1)", 0).due("has(2)", 0).due("has(5)", 0);
        Court y = new Court(check).run("rates(1, 1, 60)", "plot(0, 10050, 0)", "plot(0, 10040, 1)", "act(0, 20)");
        y.run("coins(0, 300)").due("decree(0)", 0).due("has(0)", 300 + 200 - 300 - 60);
        y.run("coins(1, 1000)").due("decree(1)", 0).due("has(1)", 1000 + 200 - 200 - 30).due("has(0)", 140 + 30);
    }

    private static void halfOfTheWall() {
        Court x = sentence("else half of what was paid for it (cut), to the one who paid that").run("rates(1, 1, 60)");
        x.run("plot(0, 10021, 0)", "lease(0, 1, 40, 5)", "plot(0, 10050, 2)", "lease(1, 3, 40, 12)");
        x.run("coins(1, 210)").due("decree(0)", 1).due("has(1)", 105 - 63).due("has(0)", -105);
        // What was paid counts, not what the WALL would be now: the second DEPTH is 20 by then.
        x.run("act(0, 30)").due("told(1, 2)", 20).run("coins(3, 200)").due("decree(1)", 1);
        x.due("has(1)", 42 + 31).due("has(0)", -105).due("has(3)", 200 - 200 + 200 - 31).due("has(2)", 300 - 200);
        x.due("told(0, 6)", 1).due("told(1, 6)", 1);
        Court y = new Court(check).run("rates(1, 1, 60)", "plot(0, 10021, 0)", "plot(0, 10021, 0)", "coins(0, 1000)");
        y.due("decree(0)", 0).due("has(0)", 727).due("decree(1)", 0).due("has(0)", 517);
    }

    private static void wallsToLostPlots() {
        Court x = sentence("(if there is one, burned or built)").run("rates(1, 1, 0)", "plot(0, 10020, 0)", "year()");
        x.run("plot(0, 10020, 1)", "plot(1, 10050, 2)", "plot(1, 10020, 3)", "act(1, 1)", "coins(1, 200)");
        x.due("told(0, 0)", 2).due("told(2, 0)", 0).due("told(3, 0)", 3);
        x.due("decree(1)", 0).due("has(1)", 0).due("told(1, 6)", 0).due("told(0, 6)", 0);
        x.run("coins(2, 490)").due("decree(2)", 0).due("has(2)", 10).due("told(2, 6)", 0).due("told(3, 6)", 0);
        Court y = new Court(check).run("rates(1, 1, 0)", "plot(0, 10020, 0)", "plot(0, 10020, 1)", "coins(0, 200)");
        y.due("decree(0)", 0).due("has(0)", -60).due("year()", 1).due("told(1, 6)", 1).due("told(0, 6)", 1);
    }

    private static void limit() {
        Court x = sentence("as a YEAR ends that is LIMIT (10 at first) or later").run("plot(0, 10020, 0)");
        for (int now = 0; now < 10; now++) {
            x.due("year()", 0);
        }
        x.due("told(0, 0)", 0).due("year()", 1).due("told(0, 0)", 2).due("year()", 0).due("count(3)", 1);
        x.run("plot(1, 10020, 0)").due("year()", 1).due("count(3)", 2);
        Court first = new Court(check).run("rates(2, 3, 0)", "plot(0, 10020, 0)").due("year()", 1).due("told(0, 0)", 2);
        first.due("year()", 0);
        Court next = new Court(check).run("rates(2, 3, 1)", "plot(0, 10020, 0)").due("year()", 0).due("year()", 1);
        next.due("count(3)", 1);
        Court late = new Court(check).run("rates(2, 3, 59)", "plot(0, 10020, 0)").run(59, "year()");
        late.due("told(0, 0)", 0).due("year()", 1).refused("year()").due("count(3)", 1);
        Court never = new Court(check).run("rates(2, 3, 60)", "plot(0, 10020, 0)").run(60, "year()");
        never.refused("year()").due("told(0, 0)", 0).due("count(3)", 0);
    }

    private static void forfeitedHaveNothing() {
        Court x = sentence("they are FORFEITED: all of the CHAIN have nothing there any more").run("rates(2, 3, 0)");
        x.run("plot(0, 10020, 0)", "lease(0, 1, 9, 1)", "lease(0, 2, 9, 2)", "lease(0, 3, 9, 3)", "coins(3, 9999)");
        x.due("year()", 1).due("told(0, 3)", 0);
        for (int k = 0; k < 4; k++) {
            x.refused("chain(0, " + k + ", 0)", "chain(0, " + k + ", 1)", "chain(0, " + k + ", 2)");
            x.refused("interest(0, " + k + ")", "bears(0, " + k + ")");
        }
        x.refused("decree(0)", "lease(0, 1, 1, 1)").due("act(0, 1)", 0).due("has(0)", 0).due("has(3)", 9999);
        x.due("worth(0)", 10).due("told(0, 1)", 10).due("told(0, 2)", 20);
    }

    private static void actFeet() {
        Court x = sentence("An ACT widens a STREET by n feet (1 .. 40)").run("plot(0, 10100, 0)");
        x.refused("act(0, 0)", "act(0, 41)", "act(0, -1)").due("told(0, 2)", 100).due("count(7)", 0);
        x.due("act(0, 1)", 10).due("told(0, 2)", 99).due("act(0, 40)", 400).due("told(0, 2)", 59);
        x.due("has(0)", 1230).due("count(7)", 1230).due("act(1, 40)", 0).due("count(7)", 1230);
    }

    private static void lessThanTwentyFeet() {
        Court x = sentence("if less than 20 feet would be left, all is taken, and paid (FRONT times DEPTH times PAY)");
        x.run("plot(0, 10060, 0)", "plot(0, 20059, 1)", "plot(0, 30020, 2)", "plot(1, 10021, 3)", "plot(1, 10020, 4)");
        x.due("act(0, 40)", 400 + 1180 + 600).due("told(0, 0)", 0).due("told(0, 2)", 20);
        x.due("told(1, 0)", 3).due("told(2, 0)", 3).due("has(0)", 1200).due("has(1)", 3540).due("has(2)", 1800);
        x.due("act(1, 1)", 10 + 200).due("told(3, 0)", 0).due("told(3, 2)", 20).due("told(4, 0)", 3);
        x.due("has(3)", 30).due("has(4)", 600).due("count(7)", 1200 + 3540 + 1800 + 30 + 600).due("count(4)", 3);
    }

    private static void pay() {
        Court x = sentence("PAY (1 .. 9; 3 at first)").run("plot(0, 10100, 0)").due("act(0, 1)", 10).due("has(0)", 30);
        x.refused("rates(2, 0, 10)", "rates(2, 10, 10)").due("act(0, 1)", 10).due("has(0)", 60);
        x.due("rates(2, 1, 10)", 1).due("act(0, 1)", 10).due("has(0)", 70);
        x.due("rates(2, 9, 10)", 1).due("act(0, 1)", 10).due("has(0)", 160).due("count(7)", 160);
        Court y = new Court(check).run("rates(9, 9, 60)", "plot(0, 60100, 0)");
        y.due("act(0, 40)", 2400).due("act(0, 40)", 2400).due("has(0)", 43200).due("told(0, 0)", 0);
        y.due("act(0, 1)", 1200).due("has(0)", 54000).due("told(0, 0)", 3).due("act(0, 1)", 0).due("count(7)", 54000);
    }

    private static void actsSpareTheBuiltAndTheLost() {
        Court x = sentence("of each PLOT there that isn't built or forfeited; it is TAKEN (like FORFEITED)");
        x.run("rates(2, 3, 0)", "plot(0, 10020, 0)", "year()", "plot(0, 10030, 1)", "coins(1, 600)", "decree(1)");
        x.run("plot(0, 10040, 2)", "lease(2, 3, 5, 5)").due("has(1)", 0).due("act(0, 20)", 200);
        x.due("has(0)", 0).due("has(1)", 0).due("has(2)", 600).due("has(3)", 0).due("told(1, 2)", 30);
        x.due("act(0, 1)", 200).due("told(2, 0)", 3).due("has(2)", 1200).due("told(2, 3)", 0);
        x.refused("chain(2, 0, 0)", "chain(2, 1, 0)", "interest(2, 0)", "interest(2, 1)", "lease(2, 3, 1, 1)");
        x.due("act(0, 40)", 0).due("has(2)", 1200).due("year()", 0).due("told(2, 0)", 3).due("count(3)", 1);
        x.due("count(4)", 1).due("count(2)", 1);
    }

    private static void bricksOfAYear() {
        Court x = sentence("BRICKS: b (1 .. 2000) come each YEAR").run("plot(0, 10020, 0)", "due(0, 29)");
        x.refused("saved(0)", "heap(0)", "saved(2001)", "heap(2001)", "saved(-1)", "heap(-1)");
        x.due("saved(1)", 10).due("heap(1)", 1).due("saved(2000)", 10).due("heap(2000)", 1);
        x.run("due(0, 28)").due("saved(1)", 0).due("heap(1)", 0);
    }

    private static void twelveAtMost() {
        Court x = sentence("For PLOTS that aren't built, forfeited or taken, 12 at most").run("rates(1, 3, 60)");
        x.due("saved(2000)", 0).due("heap(2000)", 0);
        for (int i = 0; i < 12; i++) {
            x.run("plot(" + i / 6 + ", 10020, 0)").due("saved(2000)", 10 * i + 10).due("heap(2000)", (2 << i) - 1);
        }
        x.run("plot(2, 10020, 0)").refused("saved(2000)", "heap(2000)", "saved(1)", "heap(1)");
        x.run("coins(0, 200)", "decree(12)").due("saved(2000)", 120).due("heap(2000)", 4095);
        x.run("plot(3, 10020, 0)").refused("saved(2000)", "heap(2000)").run("act(3, 1)").due("saved(2000)", 120);
        x.run("plot(4, 10020, 0)").refused("heap(2000)").run("rates(1, 3, 0)").due("year()", 13);
        x.due("saved(2000)", 0).due("heap(2000)", 0).run("rates(1, 3, 60)", "plot(4, 10020, 0)");
        x.due("saved(2000)", 10).due("heap(2000)", 1 << 15);
    }

    private static void needs() {
        Court x = sentence("each NEEDS FRONT and DEPTH bricks, together").run("rates(1, 3, 0)", "plot(0, 10020, 0)");
        x.due("saved(29)", 0).due("heap(29)", 0).due("saved(30)", 10).due("heap(30)", 1);
        x.run("plot(0, 60100, 0)").due("saved(159)", 10).due("saved(160)", 300).due("heap(160)", 2);
        x.due("saved(189)", 300).due("saved(190)", 310).due("heap(190)", 3);
        x.run("act(0, 10)").due("told(0, 0)", 3).due("saved(149)", 0).due("saved(150)", 270);
    }

    private static void byTheEndOfItsYear() {
        Court x = sentence("is to be done by its own YEAR (told; LIMIT without): each by the end of its YEAR");
        x.run("plot(0, 10020, 0)").due("saved(2)", 0).due("saved(3)", 10).run("rates(2, 3, 9)").due("saved(3)", 10);
        x.run("rates(2, 3, 8)").due("saved(3)", 0).run("due(0, 14)").due("saved(2)", 10).run("due(0, 13)");
        x.due("saved(2)", 0).run("due(0, 0)").due("saved(29)", 0).due("saved(30)", 10).run("due(0, 60)");
        x.due("saved(1)", 10).run("rates(2, 3, 60)").due("saved(1)", 10);
        Court y = new Court(check).run("rates(2, 3, 60)", "plot(0, 10020, 0)", "plot(0, 10021, 0)").due("saved(1)", 20);
        y.run("plot(0, 60100, 0)").due("saved(4)", 320).due("saved(3)", 300).due("heap(3)", 4);
    }

    private static void bricksWait() {
        Court x = sentence("(bricks that are left wait; those of a YEAR are there as it begins)");
        x.run("rates(1, 1, 1)", "plot(0, 10020, 0)", "plot(0, 20030, 0)").due("saved(40)", 40).due("saved(39)", 30);
        x.run("due(0, 0)").due("saved(40)", 40).due("heap(40)", 3).due("saved(30)", 30).due("heap(30)", 2);
        x.run("due(1, 0)").due("saved(79)", 30).due("saved(80)", 40).due("saved(40)", 10);
    }

    private static void fromNowOn() {
        Court x = sentence("that can be done one behind the other, in YEARS from NOW on").run("rates(1, 1, 60)");
        x.run("plot(0, 10020, 0)", "due(0, 1)").due("saved(15)", 10).due("saved(14)", 0).run("year()");
        x.due("saved(30)", 10).due("saved(29)", 0).run("year()").due("saved(2000)", 0).due("heap(2000)", 0);
        x.run("due(0, 2)").due("saved(30)", 10).run(58, "year()").due("saved(2000)", 0).run("due(0, 60)");
        x.due("count(0)", 60).due("saved(30)", 10).due("saved(29)", 0);
    }

    private static void greatestSum() {
        Court x = sentence("SAVED: the greatest sum of WORTH of a heap of them").run("rates(1, 1, 0)");
        x.run("plot(0, 10030, 0)", "plot(0, 20020, 0)", "plot(0, 12028, 0)", "plot(0, 30050, 0)");
        // NEEDS 40, 40, 40, 80; WORTH 15, 20, 16, 75
        x.due("saved(39)", 0).due("saved(40)", 20).due("heap(40)", 2).due("saved(79)", 20).due("saved(80)", 75);
        x.due("heap(80)", 8).due("saved(119)", 75).due("saved(120)", 95).due("heap(120)", 10);
        x.due("saved(160)", 111).due("heap(160)", 14).due("saved(199)", 111).due("saved(200)", 126);
        x.due("heap(200)", 15);
        // Done one behind the other, by their years: the one of YEAR 0 takes what is there then.
        x.run("due(3, 1)").due("saved(40)", 75).due("heap(40)", 8).due("saved(60)", 95).due("heap(60)", 10);
        x.due("saved(59)", 75);
    }

    private static void leastHeap() {
        Court x = sentence("The heap is the least as a number (bits by PLOTS) of those with that sum");
        x.run("rates(1, 1, 0)", "plot(0, 20020, 0)", "plot(0, 10020, 0)", "plot(0, 10020, 0)", "plot(0, 20020, 0)");
        x.due("heap(40)", 1).due("heap(60)", 1).due("heap(70)", 3).due("heap(80)", 9).due("heap(100)", 7);
        x.due("heap(110)", 11).due("heap(140)", 15).due("heap(29)", 0);
        // Two of 10 that are low are less than one of 20 that is high.
        Court y = new Court(check).run("rates(1, 1, 0)", "plot(0, 10020, 0)", "plot(0, 10020, 0)", "plot(0, 20020, 0)");
        y.due("heap(59)", 4).due("heap(60)", 3).due("saved(60)", 20);
        // The later one is due first, the least number is taken all the same.
        Court z = new Court(check).run("rates(1, 1, 5)", "plot(0, 10020, 0)", "plot(0, 10020, 0)", "due(1, 1)");
        z.due("heap(9)", 1).due("heap(14)", 1).due("heap(15)", 3).run("due(0, 0)", "due(1, 0)").due("heap(30)", 1);
        z.run("due(0, 2)", "due(1, 1)").due("heap(14)", 1).due("heap(15)", 1).due("heap(19)", 1).due("heap(20)", 3);
    }

    private static void heapsByYearsInAnyOrder() {
        Court x = sentence("done one behind the other: each by the end of its YEAR").run("rates(1, 1, 60)");
        // NEEDS 30, 40, 50, 60; WORTH 10, 15, 30, 45; the last number is due first.
        x.run("plot(0, 10020, 0)", "plot(0, 10030, 0)", "plot(0, 20030, 0)", "plot(0, 30030, 0)");
        x.run("due(0, 3)", "due(1, 2)", "due(2, 1)", "due(3, 0)");
        x.due("heap(60)", 15).due("saved(60)", 100).due("heap(59)", 7).due("saved(59)", 55);
        x.due("heap(30)", 7).due("saved(30)", 55).due("heap(29)", 5).due("saved(29)", 40).due("heap(25)", 5);
        x.due("saved(25)", 40).due("heap(24)", 3).due("saved(24)", 25).due("heap(17)", 2).due("saved(17)", 15);
        x.due("heap(13)", 1).due("heap(7)", 0);
        x.run("due(0, 0)", "due(3, 3)").due("heap(45)", 15).due("heap(44)", 14).due("heap(29)", 12);
    }

    private static void worksAndPrices() {
        Court x = sentence("WORKS have numbers as they come, at most 20, each with a price");
        x.refused("works(0)", "works(-1)", "works(10001)").due("works(1)", 0).due("works(10000)", 1);
        for (int i = 2; i < 20; i++) {
            x.refused("works(0)").due("works(1)", i);
        }
        x.refused("works(1)", "works(10000)").run("tax(5000)").due("year()", 0).due("count(6)", 1);
        x.due("year()", 0).due("count(6)", 1).due("count(5)", 0).due("year()", 0).due("count(6)", 20);
        x.due("count(5)", 15000 - 10001 - 18).refused("works(1)");
    }

    private static void taxes() {
        Court x = sentence("the TAX (0 .. 5000; 0 at first) comes to the chest").due("year()", 0).due("count(5)", 0);
        x.refused("tax(-1)", "tax(5001)").due("year()", 0).due("count(5)", 0);
        x.due("tax(5000)", 1).due("count(5)", 0).due("year()", 0).due("count(5)", 5000).refused("tax(-1)", "tax(5001)");
        x.due("year()", 0).due("count(5)", 10000).due("tax(0)", 1).due("year()", 0).due("count(5)", 10000);
        x.due("tax(1)", 1).due("year()", 0).due("count(5)", 10001);
    }

    private static void taxReaches() {
        Court x = sentence("pays WORKS in order, as far as it reaches (also a part of one); what is left stays");
        x.run("works(100)", "works(1)", "tax(99)").due("count(6)", 0).due("year()", 0).due("count(6)", 0);
        x.due("count(5)", 0).run("tax(1)").due("year()", 0).due("count(6)", 1).due("count(5)", 0);
        x.due("year()", 0).due("count(6)", 2).due("count(5)", 0).due("year()", 0).due("count(5)", 1);
        x.run("works(1)").due("count(6)", 2).due("count(5)", 1).run("tax(0)").due("year()", 0);
        x.due("count(6)", 3).due("count(5)", 0);
        Court y = new Court(check).run("works(50)", "works(50)", "works(50)", "tax(120)", "year()");
        y.due("count(6)", 2).due("count(5)", 0).run("tax(29)", "year()").due("count(6)", 2).due("count(5)", 0);
        y.run("tax(2)", "year()").due("count(6)", 3).due("count(5)", 1);
    }

    private static void rowsInTruth() {
        Court x = sentence("the row is t feet long in truth (2 to 300)").run("plot(0, 10020, 0)");
        x.refused("quarrel(0, 1)", "quarrel(0, 0)", "quarrel(0, -1)", "quarrel(0, 301)");
        x.due("quarrel(0, 2)", 8).due("quarrel(0, 300)", 290).run("plot(0, 60020, 0)");
        x.refused("quarrel(0, 1)", "border(0, 1, 0)", "quarrel(0, 301)", "border(0, 301, 0)");
        x.due("quarrel(0, 2)", 68).due("border(0, 2, 0)", 1).due("quarrel(0, 300)", 230).due("border(0, 300, 0)", 10);
    }

    private static void rowsOfPlots() {
        Court x = sentence("of 1 to 8 PLOTS (all that came there)").refused("quarrel(0, 2)", "border(0, 2, 0)");
        x.run("plot(0, 10020, 0)").due("quarrel(0, 10)", 0).refused("border(0, 10, 0)").run("plot(1, 10020, 0)");
        for (int n = 2; n <= 8; n++) {
            x.run("plot(0, 10020, 0)").due("quarrel(0, " + 10 * n + ")", 0).due("quarrel(0, " + n + ")", 9 * n);
            x.refused("quarrel(0, " + (n - 1) + ")", "border(0, " + (n - 1) + ", 0)");
            x.due("border(0, " + 10 * n + ", " + (n - 2) + ")", 10 * n - 10);
            x.refused("border(0, " + 10 * n + ", " + (n - 1) + ")");
        }
        x.refused("plot(0, 10020, 0)").due("count(1)", 9).due("quarrel(0, 80)", 0).due("quarrel(1, 10)", 0);
        // All that came there: built, taken and forfeited ones too, by the FRONTS of their deeds.
        x.run("coins(0, 400)", "decree(0)", "act(0, 1)", "rates(1, 1, 0)").due("year()", 1).due("count(4)", 7);
        x.due("quarrel(0, 80)", 0).due("border(0, 80, 6)", 70).due("quarrel(1, 10)", 0);
    }

    private static void stakes() {
        Court x = sentence("behind each but the last, a STAKE was found at some foot (or none)");
        x.run("plot(0, 10020, 0)").due("stake(0, 0, 5)", 1).due("quarrel(0, 10)", 0).run("plot(0, 10020, 0)");
        x.due("quarrel(0, 20)", 5).due("stake(0, 0, 0)", 1).due("quarrel(0, 20)", 10);
        x.due("stake(0, 0, 300)", 1).due("quarrel(0, 20)", 290).refused("stake(0, 0, -2)", "stake(0, 0, 301)");
        x.due("quarrel(0, 20)", 290).due("stake(0, 0, -1)", 1).due("quarrel(0, 20)", 0);
        x.refused("stake(0, -1, 5)", "stake(0, 7, 5)").due("stake(0, 1, 20)", 1).due("quarrel(0, 21)", 1);
        for (int n = 3; n <= 8; n++) {
            x.run("plot(0, 10020, 0)");
        }
        x.due("quarrel(0, 80)", 0).due("stake(0, 6, 75)", 1).due("quarrel(0, 80)", 5).due("border(0, 80, 6)", 70);
        x.due("stake(0, 6, -1)", 1).due("quarrel(0, 80)", 0).due("stake(1, 0, 1)", 1).due("quarrel(0, 80)", 0);
    }

    private static void oneFootEach() {
        Court x = sentence("New FRONTS (1 foot at least each, together t)");
        x.run("plot(0, 10020, 0)", "plot(0, 10020, 0)");
        x.run("plot(0, 10020, 0)").due("border(0, 3, 0)", 1).due("border(0, 3, 1)", 2).due("quarrel(0, 3)", 27);
        x.run("stake(0, 0, 0)", "stake(0, 1, 0)").due("border(0, 30, 0)", 1).due("border(0, 30, 1)", 11);
        x.due("quarrel(0, 30)", 30).due("border(0, 12, 0)", 1).due("border(0, 12, 1)", 2);
        // A new FRONT of nothing would quarrel less by one: with the first, and with the last.
        Court y = new Court(check).run("plot(0, 10020, 0)", "plot(0, 60020, 0)", "stake(0, 0, 0)");
        y.due("quarrel(0, 30)", 41).due("border(0, 30, 0)", 1);
        Court z = new Court(check).run("plot(0, 60020, 0)", "plot(0, 10020, 0)", "stake(0, 0, 300)");
        z.due("quarrel(0, 30)", 311).due("border(0, 30, 0)", 29);
        // The one between: its STAKES would cross, and it keeps one foot.
        Court between = new Court(check).run("plot(0, 10020, 0)", "plot(0, 10020, 0)", "plot(0, 40020, 0)");
        between.run("stake(0, 0, 15)", "stake(0, 1, 5)").due("quarrel(0, 30)", 41);
        between.due("border(0, 30, 0)", 4).due("border(0, 30, 1)", 5);
        // All are pressed to the end of the row, and to its begin.
        Court far = new Court(check).run("plot(0, 40020, 0)", "plot(0, 40020, 0)", "plot(0, 10020, 0)");
        far.run("stake(0, 0, 300)", "stake(0, 1, 300)").due("quarrel(0, 30)", 12 + 39 + 9 + 272 + 271);
        far.due("border(0, 30, 0)", 28).due("border(0, 30, 1)", 29);
        Court broad = new Court(check).run("plot(0, 10020, 0)", "plot(0, 40020, 0)", "plot(0, 10020, 0)");
        broad.run("stake(0, 1, 300)").due("quarrel(0, 30)", 9 + 12 + 9 + 271);
        broad.due("border(0, 30, 0)", 1).due("border(0, 30, 1)", 29);
        Court near = new Court(check).run("plot(0, 10020, 0)", "plot(0, 10020, 0)", "plot(0, 60020, 0)");
        near.run("stake(0, 0, 0)", "stake(0, 1, 0)").due("quarrel(0, 30)", 9 + 9 + 32 + 1 + 2);
        near.due("border(0, 30, 0)", 1).due("border(0, 30, 1)", 2);
    }

    private static void oneStreetAfterAnother() {
        Court x = sentence("of 1 to 8 PLOTS (all that came there), each STREET by itself");
        for (int i = 0; i < 8; i++) {
            x.run("plot(0, 10020, 0)");
        }
        x.run("plot(1, 10020, 0)", "plot(1, 20020, 0)", "plot(1, 30020, 0)", "plot(2, 50020, 0)");
        for (int i = 0; i < 2; i++) {
            x.due("quarrel(0, 300)", 220).due("border(0, 300, 6)", 70).due("quarrel(1, 60)", 0);
            x.due("border(1, 60, 1)", 30).due("quarrel(1, 290)", 230).due("quarrel(2, 50)", 0);
            x.due("quarrel(2, 290)", 240);
            x.due("border(0, 300, 0)", 10).due("border(1, 200, 0)", 10).due("border(1, 200, 1)", 30);
            x.due("quarrel(0, 8)", 72).due("quarrel(1, 3)", 57).due("quarrel(2, 2)", 48);
        }
    }

    private static void leastQuarrel() {
        Court x = sentence("QUARREL is the sum of how much each differs from its deed, and of how far each border is");
        x.run("plot(0, 10020, 0)", "plot(0, 30020, 0)", "plot(0, 20020, 0)").due("quarrel(0, 60)", 0);
        x.due("quarrel(0, 59)", 1).due("quarrel(0, 61)", 1).run("stake(0, 0, 20)").due("quarrel(0, 60)", 10);
        x.run("stake(0, 1, 30)").due("quarrel(0, 60)", 20).run("stake(0, 0, -1)").due("quarrel(0, 60)", 10);
        x.due("border(0, 60, 0)", 10).due("border(0, 60, 1)", 40).run("stake(0, 0, 20)", "stake(0, 1, 50)");
        x.due("quarrel(0, 70)", 10).due("border(0, 70, 0)", 20).due("border(0, 70, 1)", 50);
    }

    private static void firstBorders() {
        Court x = sentence("the borders told are of those with it the first ones (by feet, from the first border on)");
        x.run("plot(0, 10020, 0)", "plot(0, 20020, 0)", "plot(0, 10020, 0)");
        x.due("border(0, 41, 0)", 10).due("border(0, 41, 1)", 30).due("border(0, 39, 0)", 9);
        x.due("border(0, 39, 1)", 29);
        x.due("border(0, 35, 0)", 5).due("border(0, 35, 1)", 25).due("border(0, 30, 0)", 1).due("border(0, 30, 1)", 20);
        x.due("border(0, 300, 0)", 10).due("border(0, 300, 1)", 30);
        // Between the deed's border and the stake all feet quarrel alike: the first one is told.
        x.run("stake(0, 0, 15)", "stake(0, 1, 35)").due("quarrel(0, 45)", 5).due("border(0, 45, 0)", 15);
        x.due("border(0, 45, 1)", 35).due("quarrel(0, 40)", 10).due("border(0, 40, 0)", 10).due("border(0, 40, 1)", 30);
    }
}

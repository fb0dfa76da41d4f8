import java.util.ArrayList;

/**
 * A court behind a great fire. The numbered promises that this class keeps stand in the
 * project's document; README.md tells how to use it.
 */
public final class AfterFire {
    public static final int NONE = -1;

    private static final int NO_PURSE = -2147483648;
    private static final int PERSONS = 20;
    private static final int STREETS = 6;
    private static final int MOST_PLOTS = 24;
    private static final int MOST_ON_STREET = 8;
    private static final int MOST_IN_CHAIN = 4;
    private static final int MOST_FOR_BRICKS = 12;
    private static final int MOST_WORKS = 20;
    private static final int LAST_YEAR = 60;
    private static final int LONGEST_ROW = 300;
    private static final int LEAST_DEPTH = 20;
    private static final int LONGEST_LEASE = 99;
    private static final int BUILDERS_YEARS = 40;
    private static final int OWNERS_YEARS = 40;

    private static final int BURNED = 0;
    private static final int BUILT = 1;
    private static final int FORFEITED = 2;
    private static final int TAKEN = 3;

    private final int[] purses = new int[PERSONS];
    private final ArrayList<Plot> plots = new ArrayList<>();
    private final Street[] streets = new Street[STREETS];
    private final Shares shares = new Shares();
    private final BrickPlan bricks = new BrickPlan();
    private final Chest chest = new Chest();
    private final Survey survey = new Survey();
    private int now = 0;
    private int rate = 2;
    private int pay = 3;
    private int limit = 10;
    private int paidByActs = 0;

    public AfterFire() {
        for (int i = 0; i < STREETS; i++) {
            streets[i] = new Street();
        }
    }

    public int coins(int person, int n) {
        if (!isPerson(person) || !within(n, 1, 100000)) {
            return NO_PURSE;
        }
        give(person, n);
        return purses[person];
    }

    public int plot(int street, int size, int owner) {
        Street there = streetAt(street);
        int front = size / 1000;
        int depth = size % 1000;
        if (there == null || !isPerson(owner) || plots.size() >= MOST_PLOTS
                || !within(front, 10, 60) || !within(depth, LEAST_DEPTH, 100)) {
            return NONE;
        }
        Plot fresh = new Plot(front, depth, owner);
        if (!there.append(fresh)) {
            return NONE;
        }
        plots.add(fresh);
        return plots.size() - 1;
    }

    public int lease(int plot, int holder, int years, int rent) {
        Plot p = plotAt(plot);
        if (p == null || p.state != BURNED || !isPerson(holder) || !within(rent, 0, 999)) {
            return NONE;
        }
        return p.holders.append(holder, years, rent) ? p.holders.leases() : NONE;
    }

    public boolean rates(int rate, int pay, int limit) {
        if (!within(rate, 1, 9) || !within(pay, 1, 9) || !isYear(limit)) {
            return false;
        }
        this.rate = rate;
        this.pay = pay;
        this.limit = limit;
        return true;
    }

    public int worth(int plot) {
        Plot p = plotAt(plot);
        return p == null ? NONE : p.yearlyWorth();
    }

    public int interest(int plot, int k) {
        Plot p = plotAt(plot);
        if (p == null || !p.holders.reaches(k)) {
            return NONE;
        }
        return p.holders.interestOf(k, p.yearlyWorth());
    }

    public int bears(int plot, int k) {
        Plot p = plotAt(plot);
        if (p == null || !p.holders.reaches(k)) {
            return NONE;
        }
        int builderPlace = findBuilder(p);
        if (builderPlace == NONE) {
            return NONE;
        }
        shares.divide(p, costOf(p), builderPlace);
        return shares.partOf(k);
    }

    public int decree(int plot) {
        Plot p = plotAt(plot);
        if (p == null || p.state != BURNED) {
            return NONE;
        }
        int builderPlace = findBuilder(p);
        if (builderPlace == NONE) {
            return NONE;
        }
        int builder = p.holders.personAt(builderPlace);
        payForBuilding(p, builderPlace);
        p.holders.prolong(builderPlace, BUILDERS_YEARS);
        p.raise(builder, now);
        settleWall(p.wallAhead, builder);
        settleWall(p.wallBehind, builder);
        return builderPlace;
    }

    public int act(int street, int n) {
        Street there = streetAt(street);
        if (there == null || !within(n, 1, 40)) {
            return NONE;
        }
        int gone = 0;
        for (int i = 0; i < there.row.size(); i++) {
            gone += widenInto(there.row.get(i), n);
        }
        return gone;
    }

    public int year() {
        if (now >= LAST_YEAR) {
            return NONE;
        }
        int lost = now >= limit ? forfeitBurned() : 0;
        for (int i = 0; i < plots.size(); i++) {
            plots.get(i).holders.passYear();
        }
        chest.endYear();
        now++;
        return lost;
    }

    public boolean due(int plot, int year) {
        Plot p = plotAt(plot);
        if (p == null || !isYear(year)) {
            return false;
        }
        p.dueYear = year;
        return true;
    }

    public int saved(int b) {
        return planBricks(b) ? bricks.bestWorth : NONE;
    }

    public int heap(int b) {
        return planBricks(b) ? bricks.bestBits : NONE;
    }

    public int works(int price) {
        return within(price, 1, 10000) ? chest.addWork(price) : NONE;
    }

    public boolean tax(int n) {
        if (!within(n, 0, 5000)) {
            return false;
        }
        chest.yearlyTax = n;
        return true;
    }

    public boolean stake(int street, int k, int foot) {
        Street there = streetAt(street);
        if (there == null || !within(k, 0, MOST_ON_STREET - 2)) {
            return false;
        }
        if (foot != NONE && !within(foot, 0, LONGEST_ROW)) {
            return false;
        }
        there.stakes[k] = foot;
        return true;
    }

    public int quarrel(int street, int t) {
        Street there = streetAt(street);
        if (there == null || !there.canMeasure(t)) {
            return NONE;
        }
        survey.measure(there, t);
        return survey.leastQuarrel(there, t);
    }

    public int border(int street, int t, int k) {
        Street there = streetAt(street);
        if (there == null || !there.canMeasure(t) || !within(k, 0, there.row.size() - 2)) {
            return NONE;
        }
        survey.measure(there, t);
        return survey.borderBehind(there, t, k);
    }

    public int told(int plot, int what) {
        Plot p = plotAt(plot);
        if (p == null) {
            return NONE;
        }
        switch (what) {
            case 0: return p.state;
            case 1: return p.front;
            case 2: return p.depth;
            case 3: return p.holders.leases();
            case 4: return p.builder;
            case 5: return p.builtIn;
            case 6: return p.paidWalls();
            default: return NONE;
        }
    }

    public int chain(int plot, int k, int what) {
        Plot p = plotAt(plot);
        if (p == null) {
            return NONE;
        }
        switch (what) {
            case 0: return p.holders.personAt(k);
            case 1: return p.holders.yearsAt(k);
            case 2: return p.holders.rentAt(k);
            default: return NONE;
        }
    }

    public int has(int person) {
        return isPerson(person) ? purses[person] : NO_PURSE;
    }

    public int count(int what) {
        switch (what) {
            case 0: return now;
            case 1: return plots.size();
            case 2: return countIn(BUILT);
            case 3: return countIn(FORFEITED);
            case 4: return countIn(TAKEN);
            case 5: return chest.money;
            case 6: return chest.paidWhole;
            case 7: return paidByActs;
            default: return NONE;
        }
    }

    private static boolean within(int n, int least, int most) {
        return n >= least && n <= most;
    }

    private static boolean isPerson(int n) {
        return within(n, 0, PERSONS - 1);
    }

    private static boolean isYear(int n) {
        return within(n, 0, LAST_YEAR);
    }

    private Plot plotAt(int number) {
        return within(number, 0, plots.size() - 1) ? plots.get(number) : null;
    }

    private Street streetAt(int number) {
        return within(number, 0, STREETS - 1) ? streets[number] : null;
    }

    private void give(int person, int n) {
        if (isPerson(person)) {
            purses[person] += n;
        }
    }

    private void move(int from, int to, int n) {
        give(from, -n);
        give(to, n);
    }

    private int costOf(Plot p) {
        return p.front * p.depth * rate;
    }

    private int countIn(int state) {
        int found = 0;
        for (int i = 0; i < plots.size(); i++) {
            if (plots.get(i).state == state) {
                found++;
            }
        }
        return found;
    }

    /** The place in the chain of who would rebuild; a built plot's chain stands, and has one too. */
    private int findBuilder(Plot p) {
        int cost = costOf(p);
        for (int k = p.holders.size - 1; k >= 0; k--) {
            int person = p.holders.personAt(k);
            if (isPerson(person) && purses[person] >= cost) {
                return k;
            }
        }
        return NONE;
    }

    private void payForBuilding(Plot p, int builderPlace) {
        int cost = costOf(p);
        int builder = p.holders.personAt(builderPlace);
        shares.divide(p, cost, builderPlace);
        give(builder, -cost);
        for (int k = 0; k < p.holders.size; k++) {
            if (k != builderPlace) {
                move(p.holders.personAt(k), builder, shares.partOf(k));
            }
        }
    }

    private void settleWall(Wall wall, int builder) {
        if (wall == null || !wall.hasBothSides()) {
            return;
        }
        if (wall.isPaid()) {
            move(builder, wall.payer, wall.price / 2);
        } else {
            wall.price = wall.lesserDepth() * 3;
            wall.payer = builder;
            give(builder, -wall.price);
        }
    }

    /** The feet square that the street takes of a plot. */
    private int widenInto(Plot p, int n) {
        if (p.state != BURNED) {
            return 0;
        }
        boolean whole = p.depth - n < LEAST_DEPTH;
        int gone = p.front * (whole ? p.depth : n);
        give(p.holders.personAt(0), gone * pay);
        paidByActs += gone * pay;
        if (whole) {
            p.lose(TAKEN);
        } else {
            p.depth -= n;
        }
        return gone;
    }

    private int forfeitBurned() {
        int lost = 0;
        for (int i = 0; i < plots.size(); i++) {
            Plot p = plots.get(i);
            if (p.state == BURNED) {
                p.lose(FORFEITED);
                lost++;
            }
        }
        return lost;
    }

    /** False if there is no plan: b can't be, or too many plots wait for bricks. */
    private boolean planBricks(int b) {
        if (!within(b, 1, 2000)) {
            return false;
        }
        bricks.clear();
        for (int i = 0; i < plots.size(); i++) {
            Plot p = plots.get(i);
            if (p.state == BURNED) {
                int dueYear = p.dueYear == NONE ? limit : p.dueYear;
                if (!bricks.add(i, p, b * (dueYear - now + 1))) {
                    return false;
                }
            }
        }
        bricks.choose();
        return true;
    }

    private static final class Plot {
        private final int front;
        private int depth;
        private int state = BURNED;
        private final Chain holders;
        private int builder = NONE;
        private int builtIn = NONE;
        private int dueYear = NONE;
        private Wall wallAhead = null;
        private Wall wallBehind = null;

        private Plot(int front, int depth, int owner) {
            this.front = front;
            this.depth = depth;
            this.holders = new Chain(owner);
        }

        private int yearlyWorth() {
            return front * depth / 20;
        }

        private boolean isThere() {
            return state == BURNED || state == BUILT;
        }

        private void raise(int person, int inYear) {
            state = BUILT;
            builder = person;
            builtIn = inYear;
        }

        private void lose(int newState) {
            state = newState;
            holders.end();
        }

        private int paidWalls() {
            int paid = 0;
            if (wallAhead != null && wallAhead.isPaid()) {
                paid++;
            }
            if (wallBehind != null && wallBehind.isPaid()) {
                paid++;
            }
            return paid;
        }
    }

    /** Those who hold a plot under one another: the owner at place 0, then the leases. */
    private static final class Chain {
        private final int[] persons = new int[MOST_IN_CHAIN];
        private final int[] years = new int[MOST_IN_CHAIN];
        private final int[] rents = new int[MOST_IN_CHAIN];
        private int size = 1;

        private Chain(int owner) {
            persons[0] = owner;
            years[0] = LONGEST_LEASE;
        }

        private boolean reaches(int k) {
            return within(k, 0, size - 1);
        }

        private int personAt(int k) {
            return reaches(k) ? persons[k] : NONE;
        }

        private int yearsAt(int k) {
            return reaches(k) ? years[k] : NONE;
        }

        private int rentAt(int k) {
            return reaches(k) ? rents[k] : NONE;
        }

        private int leases() {
            return Math.max(0, size - 1);
        }

        private boolean append(int person, int leaseYears, int rent) {
            if (size >= MOST_IN_CHAIN || !within(leaseYears, 1, yearsAt(size - 1))) {
                return false;
            }
            persons[size] = person;
            years[size] = leaseYears;
            rents[size] = rent;
            size++;
            return true;
        }

        private int interestOf(int k, int worth) {
            if (!reaches(k)) {
                return 0;
            }
            int income = reaches(k + 1) ? rents[k + 1] : worth;
            int yearsYet = k == 0 ? OWNERS_YEARS : years[k];
            return Math.max(0, income - rents[k]) * yearsYet;
        }

        private void prolong(int place, int least) {
            // No lease outlasts the one above it, so one floor keeps the whole order.
            for (int k = 1; k <= place && k < size; k++) {
                years[k] = Math.max(years[k], least);
            }
        }

        private void passYear() {
            for (int k = 1; k < size; k++) {
                years[k]--;
                if (years[k] <= 0) {
                    // Those under a lease that is over go with it.
                    size = k;
                }
            }
        }

        private void end() {
            size = 0;
        }
    }

    /** One wall between two plots side by side. */
    private static final class Wall {
        private final Plot ahead;
        private final Plot behind;
        private int price = 0;
        private int payer = NONE;

        private Wall(Plot ahead, Plot behind) {
            this.ahead = ahead;
            this.behind = behind;
        }

        private boolean isPaid() {
            return payer != NONE;
        }

        private boolean hasBothSides() {
            return ahead.isThere() && behind.isThere();
        }

        private int lesserDepth() {
            return Math.min(ahead.depth, behind.depth);
        }
    }

    private static final class Street {
        private final ArrayList<Plot> row = new ArrayList<>();
        private final int[] stakes = new int[MOST_ON_STREET - 1];

        private Street() {
            for (int k = 0; k < stakes.length; k++) {
                stakes[k] = NONE;
            }
        }

        private boolean append(Plot fresh) {
            if (row.size() >= MOST_ON_STREET) {
                return false;
            }
            if (!row.isEmpty()) {
                Plot last = row.get(row.size() - 1);
                Wall wall = new Wall(last, fresh);
                last.wallBehind = wall;
                fresh.wallAhead = wall;
            }
            row.add(fresh);
            return true;
        }

        private boolean canMeasure(int feet) {
            return !row.isEmpty() && within(feet, Math.max(2, row.size()), LONGEST_ROW);
        }

        private int frontOf(int k) {
            return within(k, 0, row.size() - 1) ? row.get(k).front : 0;
        }

        private int stakeGap(int k, int foot) {
            if (!within(k, 0, stakes.length - 1) || stakes[k] == NONE) {
                return 0;
            }
            return Math.abs(foot - stakes[k]);
        }
    }

    /** The parts of a cost that those of a chain bear by their interests. */
    private static final class Shares {
        private final int[] parts = new int[MOST_IN_CHAIN];
        private final long[] cutOff = new long[MOST_IN_CHAIN];

        private int partOf(int k) {
            return within(k, 0, MOST_IN_CHAIN - 1) ? parts[k] : 0;
        }

        private void divide(Plot p, int cost, int builderPlace) {
            long sum = 0;
            for (int k = 0; k < p.holders.size; k++) {
                sum += p.holders.interestOf(k, p.yearlyWorth());
            }
            if (sum > 0) {
                divideByInterest(p, cost, sum);
                return;
            }
            for (int k = 0; k < MOST_IN_CHAIN; k++) {
                parts[k] = k == builderPlace ? cost : 0;
            }
        }

        private void divideByInterest(Plot p, int cost, long sum) {
            if (sum <= 0) {
                return;
            }
            int left = cost;
            for (int k = 0; k < MOST_IN_CHAIN; k++) {
                // The product can pass an int: 54000 times 98901 at most.
                long product = (long) cost * p.holders.interestOf(k, p.yearlyWorth());
                parts[k] = (int) (product / sum);
                cutOff[k] = product % sum;
                left -= parts[k];
            }
            for (int i = 0; i < left && i < MOST_IN_CHAIN; i++) {
                int most = placeOfMostCutOff();
                parts[most]++;
                cutOff[most] = -1;
            }
        }

        private int placeOfMostCutOff() {
            int most = 0;
            for (int k = 1; k < MOST_IN_CHAIN; k++) {
                if (cutOff[k] > cutOff[most]) {
                    most = k;
                }
            }
            return most;
        }
    }

    /** Which waiting plots the bricks save; the plots stand by the year they are due. */
    private static final class BrickPlan {
        private final int[] numbers = new int[MOST_FOR_BRICKS];
        private final int[] needs = new int[MOST_FOR_BRICKS];
        private final int[] worths = new int[MOST_FOR_BRICKS];
        private final int[] rooms = new int[MOST_FOR_BRICKS];
        private final int[] worthFrom = new int[MOST_FOR_BRICKS + 1];
        private int size = 0;
        private int bestWorth = 0;
        private int bestBits = 0;

        private void clear() {
            size = 0;
        }

        /** Room is how many bricks have come in all by the end of the plot's year. */
        private boolean add(int number, Plot p, int room) {
            if (size >= MOST_FOR_BRICKS) {
                return false;
            }
            int at = size;
            while (at > 0 && rooms[at - 1] > room) {
                numbers[at] = numbers[at - 1];
                needs[at] = needs[at - 1];
                worths[at] = worths[at - 1];
                rooms[at] = rooms[at - 1];
                at--;
            }
            numbers[at] = number;
            needs[at] = p.front + p.depth;
            worths[at] = p.yearlyWorth();
            rooms[at] = room;
            size++;
            return true;
        }

        private void choose() {
            bestWorth = 0;
            bestBits = 0;
            worthFrom[size] = 0;
            for (int i = size - 1; i >= 0; i--) {
                worthFrom[i] = worthFrom[i + 1] + worths[i];
            }
            search(this, 0, 0, 0, 0);
        }

        private void keepIfBetter(int worth, int bits) {
            if (worth > bestWorth || worth == bestWorth && bits < bestBits) {
                bestWorth = worth;
                bestBits = bits;
            }
        }

        /** A heap can be done if it can be done in the order of its years. */
        private static void search(BrickPlan plan, int next, int used, int worth, int bits) {
            if (next >= plan.size) {
                plan.keepIfBetter(worth, bits);
                return;
            }
            if (worth + plan.worthFrom[next] < plan.bestWorth) {
                return;
            }
            int needed = used + plan.needs[next];
            if (needed <= plan.rooms[next]) {
                search(plan, next + 1, needed, worth + plan.worths[next],
                        bits | 1 << plan.numbers[next]);
            }
            search(plan, next + 1, used, worth, bits);
        }
    }

    private static final class Chest {
        private final int[] unpaid = new int[MOST_WORKS];
        private int size = 0;
        private int paidWhole = 0;
        private int money = 0;
        private int yearlyTax = 0;

        private int addWork(int price) {
            if (size >= MOST_WORKS) {
                return NONE;
            }
            unpaid[size] = price;
            size++;
            return size - 1;
        }

        private void endYear() {
            money += yearlyTax;
            while (paidWhole < size && money >= unpaid[paidWhole]) {
                money -= unpaid[paidWhole];
                paidWhole++;
            }
            if (paidWhole < size) {
                unpaid[paidWhole] -= money;
                money = 0;
            }
        }
    }

    /**
     * New borders of a street. All that is summed is convex, and so is each row of least
     * quarrels: a walk that stops where the next foot is no better stands on the first best
     * foot, and a plot that begins later never ends earlier. So each row is filled in one pass.
     */
    private static final class Survey {
        // beyond[i][y]: the least quarrel of the i-th border at foot y and of all behind it.
        private final int[][] beyond = new int[MOST_ON_STREET][LONGEST_ROW + 1];

        private void measure(Street street, int feet) {
            int last = street.row.size() - 1;
            if (!within(last, 0, MOST_ON_STREET - 1) || !within(feet, 1, LONGEST_ROW)) {
                return;
            }
            beyond[last][feet] = 0;
            for (int i = last - 1; i >= 0; i--) {
                fillRow(street, i, feet - (last - i));
            }
        }

        private void fillRow(Street street, int i, int farthest) {
            boolean nextIsLast = i + 1 == street.row.size() - 1;
            int front = street.frontOf(i + 1);
            int end = nextIsLast ? farthest + 1 : i + 2;
            for (int foot = i + 1; foot <= farthest; foot++) {
                end = firstBest(beyond[i + 1], foot + front, Math.max(end, foot + 1), farthest + 1);
                beyond[i][foot] = street.stakeGap(i, foot)
                        + quarrelAt(beyond[i + 1], foot + front, end);
            }
        }

        /** Where the deed would have the end, and the end that is tried. */
        private static int quarrelAt(int[] row, int byDeed, int end) {
            return within(end, 0, row.length - 1) ? Math.abs(end - byDeed) + row[end] : 0;
        }

        private static int firstBest(int[] row, int byDeed, int from, int farthest) {
            int end = from;
            int here = quarrelAt(row, byDeed, end);
            while (end < farthest) {
                int next = quarrelAt(row, byDeed, end + 1);
                if (next >= here) {
                    return end;
                }
                here = next;
                end++;
            }
            return end;
        }

        private int leastQuarrel(Street street, int feet) {
            return quarrelAt(beyond[0], street.frontOf(0), endOf(street, feet, 0, 0));
        }

        private int borderBehind(Street street, int feet, int k) {
            int foot = 0;
            for (int i = 0; i <= k && i < MOST_ON_STREET; i++) {
                foot = endOf(street, feet, i, foot);
            }
            return foot;
        }

        /** The first best end of the i-th plot, if it begins at that foot. */
        private int endOf(Street street, int feet, int i, int begin) {
            int last = street.row.size() - 1;
            if (!within(i, 0, last - 1)) {
                return feet;
            }
            return firstBest(beyond[i], begin + street.frontOf(i), begin + 1, feet - (last - i));
        }
    }
}

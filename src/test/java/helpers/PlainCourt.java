import java.util.ArrayList;
import java.util.Arrays;
import java.util.List;

/**
 * The document again, as slowly and plainly as it can be said, to compare the class with:
 * heaps by every order of building, borders by trying every foot.
 */
final class PlainCourt {
    static final int NO = -1;

    static final class Holder {
        int person;
        int years;
        int rent;

        Holder(int person, int years, int rent) {
            this.person = person;
            this.years = years;
            this.rent = rent;
        }
    }

    static final class Ground {
        int street;
        int place;
        int front;
        int depth;
        int how;
        int by = NO;
        int when = NO;
        int due = NO;
        List<Holder> chain = new ArrayList<>();
    }

    final int[] purse = new int[20];
    final List<Ground> grounds = new ArrayList<>();
    final int[][] stakes = new int[6][7];
    // wall[s][i] stands between the i-th and the next plot of street s: paid sum, and by whom
    final int[][] wallSum = new int[6][8];
    final int[][] wallBy = new int[6][8];
    final List<int[]> works = new ArrayList<>();
    int now = 0;
    int rate = 2;
    int pay = 3;
    int limit = 10;
    int tax = 0;
    int chest = 0;
    int actsPaid = 0;

    PlainCourt() {
        for (int[] row : stakes) {
            Arrays.fill(row, NO);
        }
        for (int[] row : wallBy) {
            Arrays.fill(row, NO);
        }
    }

    Ground ground(int plot) {
        return plot < 0 || plot >= grounds.size() ? null : grounds.get(plot);
    }

    List<Ground> on(int street) {
        List<Ground> found = new ArrayList<>();
        for (Ground g : grounds) {
            if (g.street == street) {
                found.add(g);
            }
        }
        return found;
    }

    static boolean noPerson(int p) {
        return p < 0 || p > 19;
    }

    static boolean noStreet(int s) {
        return s < 0 || s > 5;
    }

    int coins(int person, int n) {
        if (noPerson(person) || n < 1 || n > 100000) {
            return Integer.MIN_VALUE;
        }
        return purse[person] += n;
    }

    int plot(int street, int size, int owner) {
        if (noStreet(street) || noPerson(owner) || size < 0) {
            return NO;
        }
        Ground g = new Ground();
        g.street = street;
        g.front = size / 1000;
        g.depth = size - g.front * 1000;
        g.place = on(street).size();
        if (g.front < 10 || g.front > 60 || g.depth < 20 || g.depth > 100 || g.place == 8
                || grounds.size() == 24) {
            return NO;
        }
        g.chain.add(new Holder(owner, 99, 0));
        grounds.add(g);
        return grounds.size() - 1;
    }

    int lease(int plot, int holder, int years, int rent) {
        Ground g = ground(plot);
        if (g == null || g.how != 0 || noPerson(holder) || g.chain.size() == 4 || years < 1
                || years > g.chain.get(g.chain.size() - 1).years || rent < 0 || rent > 999) {
            return NO;
        }
        g.chain.add(new Holder(holder, years, rent));
        return g.chain.size() - 1;
    }

    boolean rates(int rate, int pay, int limit) {
        if (rate < 1 || rate > 9 || pay < 1 || pay > 9 || limit < 0 || limit > 60) {
            return false;
        }
        this.rate = rate;
        this.pay = pay;
        this.limit = limit;
        return true;
    }

    int worth(int plot) {
        Ground g = ground(plot);
        return g == null ? NO : g.front * g.depth / 20;
    }

    int interest(int plot, int k) {
        Ground g = ground(plot);
        if (g == null || k < 0 || k >= g.chain.size()) {
            return NO;
        }
        int comes = k == g.chain.size() - 1 ? worth(plot) : g.chain.get(k + 1).rent;
        int net = comes - g.chain.get(k).rent;
        return net <= 0 ? 0 : net * (k == 0 ? 40 : g.chain.get(k).years);
    }

    private int cost(Ground g) {
        return g.front * g.depth * rate;
    }

    private int builder(Ground g) {
        int found = NO;
        for (int k = 0; k < g.chain.size(); k++) {
            if (purse[g.chain.get(k).person] >= cost(g)) {
                found = k;
            }
        }
        return found;
    }

    int bears(int plot, int k) {
        Ground g = ground(plot);
        if (g == null || k < 0 || k >= g.chain.size() || builder(g) == NO) {
            return NO;
        }
        int n = g.chain.size();
        long sum = 0;
        for (int i = 0; i < n; i++) {
            sum += interest(plot, i);
        }
        if (sum == 0) {
            return k == builder(g) ? cost(g) : 0;
        }
        long left = cost(g);
        long ahead = 0;
        long mine = (long) cost(g) * interest(plot, k);
        for (int i = 0; i < n; i++) {
            long all = (long) cost(g) * interest(plot, i);
            left -= all / sum;
            if (all % sum > mine % sum || all % sum == mine % sum && i < k) {
                ahead++;
            }
        }
        return (int) (mine / sum + (ahead < left ? 1 : 0));
    }

    int decree(int plot) {
        Ground g = ground(plot);
        int b = g == null || g.how != 0 ? NO : builder(g);
        if (b == NO) {
            return NO;
        }
        int person = g.chain.get(b).person;
        int[] parts = new int[g.chain.size()];
        for (int k = 0; k < parts.length; k++) {
            parts[k] = bears(plot, k);
        }
        purse[person] -= cost(g);
        for (int k = 0; k < parts.length; k++) {
            if (k != b) {
                purse[g.chain.get(k).person] -= parts[k];
                purse[person] += parts[k];
            }
        }
        for (int k = b; k > 0; k--) {
            Holder h = g.chain.get(k);
            h.years = Math.max(h.years, 40);
        }
        g.how = 1;
        g.by = person;
        g.when = now;
        List<Ground> row = on(g.street);
        if (g.place > 0) {
            wall(row.get(g.place - 1), g, person);
        }
        if (g.place + 1 < row.size()) {
            wall(g, row.get(g.place + 1), person);
        }
        return b;
    }

    private void wall(Ground a, Ground b, int person) {
        if (a.how > 1 || b.how > 1) {
            return;
        }
        if (wallBy[a.street][a.place] == NO) {
            int sum = 3 * Math.min(a.depth, b.depth);
            wallBy[a.street][a.place] = person;
            wallSum[a.street][a.place] = sum;
            purse[person] -= sum;
        } else {
            int half = wallSum[a.street][a.place] / 2;
            purse[person] -= half;
            purse[wallBy[a.street][a.place]] += half;
        }
    }

    int act(int street, int n) {
        if (noStreet(street) || n < 1 || n > 40) {
            return NO;
        }
        int went = 0;
        for (Ground g : on(street)) {
            if (g.how != 0) {
                continue;
            }
            int feet = n;
            if (g.depth - n < 20) {
                feet = g.depth;
            }
            went += feet * g.front;
            actsPaid += feet * g.front * pay;
            purse[g.chain.get(0).person] += feet * g.front * pay;
            if (feet == g.depth) {
                g.how = 3;
                g.chain.clear();
            } else {
                g.depth -= feet;
            }
        }
        return went;
    }

    int year() {
        if (now == 60) {
            return NO;
        }
        int lost = 0;
        for (Ground g : grounds) {
            if (g.how == 0 && now >= limit) {
                g.how = 2;
                g.chain.clear();
                lost++;
            }
            List<Holder> left = new ArrayList<>();
            for (int k = 0; k < g.chain.size(); k++) {
                Holder h = g.chain.get(k);
                if (k > 0) {
                    h.years--;
                }
                if (h.years == 0) {
                    break;
                }
                left.add(h);
            }
            g.chain = left;
        }
        chest += tax;
        for (int[] w : works) {
            int paid = Math.min(chest, w[0]);
            w[0] -= paid;
            chest -= paid;
        }
        now++;
        return lost;
    }

    boolean due(int plot, int year) {
        Ground g = ground(plot);
        if (g == null || year < 0 || year > 60) {
            return false;
        }
        g.due = year;
        return true;
    }

    /** {sum, bits}, or null. */
    private int[] best(int b) {
        List<Integer> waiting = new ArrayList<>();
        for (int i = 0; i < grounds.size(); i++) {
            if (grounds.get(i).how == 0) {
                waiting.add(i);
            }
        }
        if (b < 1 || b > 2000 || waiting.size() > 12) {
            return null;
        }
        int n = waiting.size();
        boolean[] can = new boolean[1 << n];
        can[0] = true;
        int[] best = {0, 0};
        for (int mask = 1; mask < 1 << n; mask++) {
            int need = 0;
            int sum = 0;
            int bits = 0;
            for (int i = 0; i < n; i++) {
                if ((mask >> i & 1) == 1) {
                    Ground g = grounds.get(waiting.get(i));
                    need += g.front + g.depth;
                    sum += worth(waiting.get(i));
                    bits |= 1 << waiting.get(i);
                }
            }
            int done = now;
            int have = b;
            while (have < need) {
                have += b;
                done++;
            }
            for (int i = 0; i < n; i++) {
                Ground g = grounds.get(waiting.get(i));
                int by = g.due == NO ? limit : g.due;
                if ((mask >> i & 1) == 1 && can[mask ^ 1 << i] && done <= by) {
                    can[mask] = true;
                }
            }
            if (can[mask] && (sum > best[0] || sum == best[0] && bits < best[1])) {
                best = new int[] {sum, bits};
            }
        }
        return best;
    }

    int saved(int b) {
        int[] best = best(b);
        return best == null ? NO : best[0];
    }

    int heap(int b) {
        int[] best = best(b);
        return best == null ? NO : best[1];
    }

    int works(int price) {
        if (price < 1 || price > 10000 || works.size() == 20) {
            return NO;
        }
        works.add(new int[] {price});
        return works.size() - 1;
    }

    boolean tax(int n) {
        if (n < 0 || n > 5000) {
            return false;
        }
        tax = n;
        return true;
    }

    boolean stake(int street, int k, int foot) {
        if (noStreet(street) || k < 0 || k > 6 || foot < -1 || foot > 300) {
            return false;
        }
        stakes[street][k] = foot;
        return true;
    }

    /** {LEAST, first border, second border, ...}, or null. */
    private int[] survey(int street, int t) {
        if (noStreet(street)) {
            return null;
        }
        List<Ground> row = on(street);
        int n = row.size();
        if (n == 0 || t < n || t < 2 || t > 300) {
            return null;
        }
        final int far = 1000000;
        int[][] rest = new int[n + 1][t + 1];
        int[][] pick = new int[n][t + 1];
        Arrays.fill(rest[n], far);
        rest[n][t] = 0;
        for (int i = n - 1; i >= 0; i--) {
            for (int x = 0; x <= t; x++) {
                rest[i][x] = far;
                for (int y = x + 1; y <= t; y++) {
                    int q = rest[i + 1][y] + Math.abs(y - x - row.get(i).front);
                    if (i < n - 1 && stakes[street][i] != NO) {
                        q += Math.abs(y - stakes[street][i]);
                    }
                    if (q < rest[i][x]) {
                        rest[i][x] = q;
                        pick[i][x] = y;
                    }
                }
            }
        }
        int[] told = new int[n];
        told[0] = rest[0][0];
        int x = 0;
        for (int i = 0; i < n - 1; i++) {
            x = pick[i][x];
            told[i + 1] = x;
        }
        return told;
    }

    int quarrel(int street, int t) {
        int[] told = survey(street, t);
        return told == null ? NO : told[0];
    }

    int border(int street, int t, int k) {
        int[] told = survey(street, t);
        return told == null || k < 0 || k >= told.length - 1 ? NO : told[k + 1];
    }

    int told(int plot, int what) {
        Ground g = ground(plot);
        if (g == null || what < 0 || what > 6) {
            return NO;
        }
        int walls = wallBy[g.street][g.place] != NO ? 1 : 0;
        if (g.place > 0 && wallBy[g.street][g.place - 1] != NO) {
            walls++;
        }
        int leases = g.chain.isEmpty() ? 0 : g.chain.size() - 1;
        return new int[] {g.how, g.front, g.depth, leases, g.by, g.when, walls}[what];
    }

    int chain(int plot, int k, int what) {
        Ground g = ground(plot);
        if (g == null || k < 0 || k >= g.chain.size() || what < 0 || what > 2) {
            return NO;
        }
        Holder h = g.chain.get(k);
        return new int[] {h.person, h.years, h.rent}[what];
    }

    int has(int person) {
        return noPerson(person) ? Integer.MIN_VALUE : purse[person];
    }

    int count(int what) {
        if (what < 0 || what > 7) {
            return NO;
        }
        int[] how = new int[4];
        for (Ground g : grounds) {
            how[g.how]++;
        }
        int whole = 0;
        for (int[] w : works) {
            whole += w[0] == 0 ? 1 : 0;
        }
        return new int[] {now, grounds.size(), how[1], how[2], how[3], chest, whole, actsPaid}[what];
    }
}

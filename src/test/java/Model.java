import java.math.BigInteger;
import java.util.ArrayList;
import java.util.List;

/** The document once more, written another way: fractions of any size, trial of every number, search. */
final class Model {
    int n = 1;
    int toll = 0;
    int[] cash = new int[1];
    int[][] debt = new int[1][2];
    int paidOut = 0;

    static final class Fraction {
        static final Fraction ZERO = of(0), ONE = of(1);
        final BigInteger above;
        final BigInteger below;

        Fraction(BigInteger above, BigInteger below) {
            BigInteger divisor = above.gcd(below);
            if (below.signum() < 0) {
                divisor = divisor.negate();
            }
            this.above = above.divide(divisor);
            this.below = below.divide(divisor);
        }

        static Fraction of(long v) {
            return new Fraction(BigInteger.valueOf(v), BigInteger.ONE);
        }

        Fraction plus(Fraction o) {
            return new Fraction(above.multiply(o.below).add(o.above.multiply(below)), below.multiply(o.below));
        }

        Fraction times(Fraction o) {
            return new Fraction(above.multiply(o.above), below.multiply(o.below));
        }

        Fraction minus(Fraction o) {
            return plus(o.times(of(-1)));
        }

        Fraction over(Fraction o) {
            return new Fraction(above.multiply(o.below), below.multiply(o.above));
        }

        boolean isBelow(Fraction o) {
            return minus(o).above.signum() < 0;
        }

        long part(int part) {
            return (part == 0 ? above : below).longValueExact();
        }
    }

    static final class Cleared {
        int rounds;
        int[] fell;
        Fraction[] share;
        Fraction[] gross;
    }

    boolean house(int i) {
        return i >= 0 && i < n;
    }

    boolean payee(int j) {
        return j >= 0 && j <= n;
    }

    int houses(int v) {
        if (v < 1 || v > 4) {
            return -102;
        }
        n = v;
        toll = 0;
        cash = new int[n];
        debt = new int[n][n + 1];
        paidOut = 0;
        return n;
    }

    int cash(int i, int v) {
        if (!house(i)) {
            return -101;
        }
        if (v < 0 || v > 1000) {
            return -102;
        }
        int was = cash[i];
        cash[i] = v;
        return was;
    }

    int owe(int i, int j, int v) {
        if (!house(i) || !payee(j)) {
            return -101;
        }
        if (v < 0 || v > 50 || i == j) {
            return -102;
        }
        int was = debt[i][j];
        debt[i][j] = v;
        return was;
    }

    int toll(int v) {
        if (v < 0 || v > 5) {
            return -102;
        }
        int was = toll;
        toll = v;
        return was;
    }

    int owes(int i) {
        int sum = 0;
        for (int v : debt[i]) {
            sum += v;
        }
        return sum;
    }

    Cleared clear(int[] purse) {
        Cleared c = new Cleared();
        c.fell = new int[n];
        c.share = new Fraction[n];
        c.gross = new Fraction[n];
        java.util.Arrays.fill(c.share, Fraction.ONE);
        for (int round = 1;; round++) {
            for (int i = 0; i < n; i++) {
                c.gross[i] = Fraction.of(purse[i]);
                for (int j = 0; j < n; j++) {
                    c.gross[i] = c.gross[i].plus(c.share[j].times(Fraction.of(debt[j][i])));
                }
            }
            boolean any = false;
            for (int i = 0; i < n; i++) {
                if (c.fell[i] == 0 && c.gross[i].isBelow(Fraction.of(owes(i)))) {
                    c.fell[i] = round;
                    any = true;
                }
            }
            if (!any) {
                return c;
            }
            c.rounds = round;
            solve(c, purse);
        }
    }

    /** Elimination among the fallen ones alone. */
    private void solve(Cleared c, int[] purse) {
        List<Integer> fallen = new ArrayList<>();
        for (int i = 0; i < n; i++) {
            if (c.fell[i] > 0) {
                fallen.add(i);
            }
        }
        int m = fallen.size();
        Fraction kept = new Fraction(BigInteger.valueOf(10 - toll), BigInteger.TEN);
        Fraction[][] a = new Fraction[m][m + 1];
        for (int r = 0; r < m; r++) {
            int i = fallen.get(r);
            Fraction fixed = Fraction.of(purse[i]);
            for (int j = 0; j < n; j++) {
                if (c.fell[j] == 0) {
                    fixed = fixed.plus(Fraction.of(debt[j][i]));
                }
            }
            a[r][m] = fixed.times(kept).over(Fraction.of(owes(i)));
            for (int s = 0; s < m; s++) {
                Fraction part = Fraction.of(debt[fallen.get(s)][i]).times(kept).over(Fraction.of(owes(i)));
                a[r][s] = (r == s ? Fraction.ONE : Fraction.ZERO).minus(part);
            }
        }
        for (int p = 0; p < m; p++) {
            int pivot = p;
            while (a[pivot][p].above.signum() == 0) {
                pivot++;
            }
            Fraction[] row = a[pivot];
            a[pivot] = a[p];
            a[p] = row;
            for (int r = 0; r < m; r++) {
                if (r != p) {
                    Fraction times = a[r][p].over(a[p][p]);
                    for (int s = p; s <= m; s++) {
                        a[r][s] = a[r][s].minus(a[p][s].times(times));
                    }
                }
            }
        }
        for (int r = 0; r < m; r++) {
            c.share[fallen.get(r)] = a[r][m].over(a[r][r]);
        }
    }

    Fraction left(int i) {
        Cleared c = clear(cash);
        return c.fell[i] > 0 ? Fraction.ZERO : c.gross[i].minus(Fraction.of(owes(i)));
    }

    Fraction lost() {
        Cleared c = clear(cash);
        Fraction sum = Fraction.ZERO;
        for (int i = 0; i < n; i++) {
            if (c.fell[i] > 0) {
                sum = sum.plus(c.gross[i].times(Fraction.of(toll)).over(Fraction.of(10)));
            }
        }
        return sum;
    }

    int drag(int i) {
        int[] purse = cash.clone();
        purse[i] = 0;
        int fallen = 0;
        for (int round : clear(purse).fell) {
            fallen += round > 0 ? 1 : 0;
        }
        return fallen;
    }

    int help(int i, int most) {
        for (int more = 0; more <= most; more++) {
            int[] purse = cash.clone();
            purse[i] += more;
            if (clear(purse).rounds == 0) {
                return more;
            }
        }
        return -1;
    }

    int best(int most) {
        int best = -1;
        int least = 2000;
        for (int i = 0; i < n; i++) {
            int help = help(i, most);
            if (help >= 0 && help < least) {
                best = i;
                least = help;
            }
        }
        return best;
    }

    int net(int i) {
        int sum = -owes(i);
        for (int j = 0; j < n; j++) {
            sum += debt[j][i];
        }
        return sum;
    }

    List<List<Integer>> rings() {
        List<List<Integer>> found = new ArrayList<>();
        for (int first = 0; first < n; first++) {
            List<Integer> path = new ArrayList<>();
            path.add(first);
            walk(path, found);
        }
        found.sort((a, b) -> {
            if (a.size() != b.size()) {
                return a.size() - b.size();
            }
            for (int k = 0; k < a.size(); k++) {
                if (!a.get(k).equals(b.get(k))) {
                    return a.get(k) - b.get(k);
                }
            }
            return 0;
        });
        return found;
    }

    private void walk(List<Integer> path, List<List<Integer>> found) {
        int last = path.get(path.size() - 1);
        if (path.size() > 1 && debt[last][path.get(0)] > 0) {
            found.add(new ArrayList<>(path));
        }
        for (int next = path.get(0) + 1; next < n; next++) {
            if (debt[last][next] > 0 && !path.contains(next)) {
                path.add(next);
                walk(path, found);
                path.remove(path.size() - 1);
            }
        }
    }

    int ring(int k) {
        List<List<Integer>> all = rings();
        if (k < 0 || k >= all.size()) {
            return -1;
        }
        int figures = 0;
        for (int house : all.get(k)) {
            figures = 10 * figures + house + 1;
        }
        return figures;
    }

    int cancel() {
        List<List<Integer>> all = rings();
        if (all.isEmpty()) {
            return 0;
        }
        List<Integer> ring = all.get(0);
        int least = Integer.MAX_VALUE;
        for (int k = 0; k < ring.size(); k++) {
            least = Math.min(least, debt[ring.get(k)][ring.get((k + 1) % ring.size())]);
        }
        for (int k = 0; k < ring.size(); k++) {
            debt[ring.get(k)][ring.get((k + 1) % ring.size())] -= least;
        }
        return least;
    }

    int cancelAll() {
        int before = count(3);
        while (cancel() > 0) {
            continue;
        }
        return before - count(3);
    }

    int day() {
        int paid = 0;
        for (int i = 0; i < n; i++) {
            for (int turn = -1; turn < n; turn++) {
                int j = turn < 0 ? n : turn;
                int sum = debt[i][j];
                if (sum > 0 && cash[i] >= sum) {
                    debt[i][j] = 0;
                    cash[i] -= sum;
                    paid++;
                    if (j == n) {
                        paidOut += sum;
                    } else {
                        cash[j] += sum;
                    }
                }
            }
        }
        return paid;
    }

    int days() {
        int days = 0;
        while (day() > 0) {
            days++;
        }
        return days;
    }

    int count(int what) {
        int sum = 0;
        for (int i = 0; i < n; i++) {
            sum += what == 2 ? cash[i] : what == 3 ? owes(i) : what == 4 ? debt[i][n] : what == 5 && owes(i) > 0 ? 1 : 0;
        }
        return what < 0 || what > 6 ? -102 : what == 0 ? n : what == 1 ? toll : what == 6 ? paidOut : sum;
    }

    long digest() {
        List<Long> numbers = new ArrayList<>();
        numbers.add((long) n);
        numbers.add((long) toll);
        for (int i = 0; i < n; i++) {
            numbers.add((long) cash[i]);
            for (int v : debt[i]) {
                numbers.add((long) v);
            }
        }
        Cleared c = clear(cash);
        for (int i = 0; i < n; i++) {
            numbers.add((long) c.fell[i]);
            numbers.add(c.share[i].part(0));
            numbers.add(c.share[i].part(1));
        }
        numbers.add((long) paidOut);
        long h = 173;
        for (long number : numbers) {
            h = 31 * h + number;
        }
        return h;
    }
}

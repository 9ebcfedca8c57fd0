/** Houses that owe one another: cleared at once, freed of rings of debts, or paid day by day. */
public final class WhoPays {
    public static final int NONE = -1, UNKNOWN = -101, OUTSIDE = -102;

    private static final int MOST_HOUSES = 4;
    private static final int MOST_CASH = 1000;
    private static final int MOST_DEBT = 50;
    private static final int MOST_TOLL = 5;
    private static final int UNKNOWN_NET = -1000000;
    private static final int TENTHS = 10;

    private final Books books;
    private final Clearing clearing;
    private final Rings ringList;

    public WhoPays() {
        books = new Books();
        clearing = new Clearing(books);
        ringList = new Rings(books);
    }

    // ---- the books

    public int houses(int n) {
        if (n < 1 || n > MOST_HOUSES) {
            return OUTSIDE;
        }
        books.open(n);
        return n;
    }

    public int cash(int i, int v) {
        if (!books.isHouse(i)) {
            return UNKNOWN;
        }
        if (v < 0 || v > MOST_CASH) {
            return OUTSIDE;
        }
        int was = books.coins(i);
        books.setCoins(i, v);
        return was;
    }

    public int owe(int i, int j, int v) {
        if (!books.isHouse(i) || !books.isPayee(j)) {
            return UNKNOWN;
        }
        if (v < 0 || v > MOST_DEBT || i == j) {
            return OUTSIDE;
        }
        int column = books.columnOf(j);
        int was = books.owed(i, column);
        books.setOwed(i, column, v);
        return was;
    }

    public int toll(int v) {
        if (v < 0 || v > MOST_TOLL) {
            return OUTSIDE;
        }
        int was = books.tollTenths;
        books.tollTenths = v;
        return was;
    }

    public int cashOf(int i) {
        return books.isHouse(i) ? books.coins(i) : UNKNOWN;
    }

    public int debt(int i, int j) {
        if (!books.isHouse(i) || !books.isPayee(j)) {
            return UNKNOWN;
        }
        return books.owed(i, books.columnOf(j));
    }

    public int owes(int i) {
        return books.isHouse(i) ? books.allOwedBy(i) : UNKNOWN;
    }

    // ---- the clearing

    public int falls(int i) {
        if (!books.isHouse(i)) {
            return UNKNOWN;
        }
        clearing.settle(NONE);
        return clearing.roundOfFall(i);
    }

    public int rounds() {
        clearing.settle(NONE);
        return clearing.lastRound;
    }

    public long share(int i, int part) {
        if (!books.isHouse(i)) {
            return UNKNOWN;
        }
        if (!isPart(part)) {
            return OUTSIDE;
        }
        clearing.settle(NONE);
        return lowestTerms(clearing.shareAbove(i), clearing.below, part);
    }

    public long gross(int i, int part) {
        if (!books.isHouse(i)) {
            return UNKNOWN;
        }
        if (!isPart(part)) {
            return OUTSIDE;
        }
        clearing.settle(NONE);
        return lowestTerms(clearing.grossAbove(i), clearing.below, part);
    }

    public long pays(int i, int j, int part) {
        if (!books.isHouse(i) || !books.isPayee(j)) {
            return UNKNOWN;
        }
        if (!isPart(part)) {
            return OUTSIDE;
        }
        clearing.settle(NONE);
        long above = clearing.shareAbove(i) * books.owed(i, books.columnOf(j));
        return lowestTerms(above, clearing.below, part);
    }

    public long left(int i, int part) {
        if (!books.isHouse(i)) {
            return UNKNOWN;
        }
        if (!isPart(part)) {
            return OUTSIDE;
        }
        clearing.settle(NONE);
        return lowestTerms(clearing.leftAbove(i), clearing.below, part);
    }

    public long lost(int part) {
        if (!isPart(part)) {
            return OUTSIDE;
        }
        clearing.settle(NONE);
        return lowestTerms(clearing.lostAbove(), clearing.below * TENTHS, part);
    }

    public int drag(int i) {
        if (!books.isHouse(i)) {
            return UNKNOWN;
        }
        clearing.settle(i);
        return clearing.fallenCount();
    }

    public int help(int i) {
        return books.isHouse(i) ? books.helpNeeded(i) : UNKNOWN;
    }

    public int best() {
        int bestHouse = NONE;
        int leastHelp = NONE;
        for (int i = 0; i < books.houseCount; i++) {
            int needed = books.helpNeeded(i);
            if (needed != NONE && (bestHouse == NONE || needed < leastHelp)) {
                bestHouse = i;
                leastHelp = needed;
            }
        }
        return bestHouse;
    }

    // ---- rings

    public int net(int i) {
        return books.isHouse(i) ? books.allOwedTo(i) - books.allOwedBy(i) : UNKNOWN_NET;
    }

    public int rings() {
        return ringList.howMany();
    }

    public int ring(int k) {
        return ringList.figuresOf(k);
    }

    public int cancel() {
        int first = ringList.figuresOf(0);
        return first == NONE ? 0 : ringList.lessen(first);
    }

    public int cancelAll() {
        int sum = 0;
        // each cancelled ring leaves one debt more at nothing, so there are fewer steps than cells
        for (int step = 0; step < Books.CELLS; step++) {
            int first = ringList.figuresOf(0);
            if (first == NONE) {
                break;
            }
            int size = ringList.sizeOf(first);
            sum += size * ringList.lessen(first);
        }
        return sum;
    }

    // ---- days

    public int day() {
        return books.passDay();
    }

    public int days() {
        int paidOn = 0;
        // a day that pays leaves one debt more at nothing, so there are fewer of them than cells
        while (paidOn < Books.CELLS && books.passDay() > 0) {
            paidOn++;
        }
        return paidOn;
    }

    // ---- what is told

    public int count(int what) {
        switch (what) {
            case 0:
                return books.houseCount;
            case 1:
                return books.tollTenths;
            case 2:
                return books.allCoins();
            case 3:
                return books.allDebts();
            case 4:
                return books.allOwedTo(Books.OUT_COLUMN);
            case 5:
                return books.debtorCount();
            case 6:
                return books.paidOut;
            default:
                return OUTSIDE;
        }
    }

    public long digest() {
        long h = 173;
        h = 31 * h + books.houseCount;
        h = 31 * h + books.tollTenths;
        for (int i = 0; i < books.houseCount; i++) {
            h = 31 * h + books.coins(i);
            for (int j = 0; j < books.houseCount; j++) {
                h = 31 * h + books.owed(i, j);
            }
            h = 31 * h + books.owed(i, Books.OUT_COLUMN);
        }
        clearing.settle(NONE);
        for (int i = 0; i < books.houseCount; i++) {
            h = 31 * h + clearing.roundOfFall(i);
            h = 31 * h + lowestTerms(clearing.shareAbove(i), clearing.below, 0);
            h = 31 * h + lowestTerms(clearing.shareAbove(i), clearing.below, 1);
        }
        return 31 * h + books.paidOut;
    }

    // ---- numbers and rows

    private static boolean isPart(int part) {
        return part == 0 || part == 1;
    }

    private static long lowestTerms(long above, long below, int part) {
        long divisor = commonDivisor(above, below);
        if (divisor == 0) {
            return 0;
        }
        return (part == 0 ? above : below) / divisor;
    }

    private static long commonDivisor(long a, long b) {
        long big = Math.abs(a);
        long small = Math.abs(b);
        // two longs take fewer than a hundred steps
        for (int step = 0; step < 200 && small != 0; step++) {
            long rest = big % small;
            big = small;
            small = rest;
        }
        return big;
    }

    // all rows are read and written through these, so that no index is used unseen

    private static int at(int[] row, int k) {
        return row != null && k >= 0 && k < row.length ? row[k] : 0;
    }

    private static void put(int[] row, int k, int v) {
        if (row != null && k >= 0 && k < row.length) {
            row[k] = v;
        }
    }

    private static long longAt(long[] row, int k) {
        return row != null && k >= 0 && k < row.length ? row[k] : 0;
    }

    private static void putLong(long[] row, int k, long v) {
        if (row != null && k >= 0 && k < row.length) {
            row[k] = v;
        }
    }

    /** What each house has and owes. */
    private static final class Books {
        // debts to outside stand behind those to houses, whatever number n outside is told by
        static final int OUT_COLUMN = MOST_HOUSES;
        static final int COLUMNS = MOST_HOUSES + 1;
        static final int CELLS = MOST_HOUSES * COLUMNS;

        int houseCount = 1;
        int tollTenths = 0;
        int paidOut = 0;
        private final int[] coinRow = new int[MOST_HOUSES];
        private final int[] debtCells = new int[CELLS];

        // "all 0" is read as the document's "All are 0 at first", which tells of the toll too
        void open(int n) {
            houseCount = n;
            tollTenths = 0;
            paidOut = 0;
            for (int i = 0; i < MOST_HOUSES; i++) {
                put(coinRow, i, 0);
            }
            for (int cell = 0; cell < CELLS; cell++) {
                put(debtCells, cell, 0);
            }
        }

        boolean isHouse(int i) {
            return i >= 0 && i < houseCount;
        }

        boolean isPayee(int j) {
            return j >= 0 && j <= houseCount;
        }

        int columnOf(int j) {
            return j == houseCount ? OUT_COLUMN : j;
        }

        int coins(int i) {
            return at(coinRow, i);
        }

        void setCoins(int i, int v) {
            put(coinRow, i, v);
        }

        int owed(int i, int column) {
            return at(debtCells, i * COLUMNS + column);
        }

        void setOwed(int i, int column, int v) {
            put(debtCells, i * COLUMNS + column, v);
        }

        int allOwedBy(int i) {
            int sum = 0;
            for (int column = 0; column < COLUMNS; column++) {
                sum += owed(i, column);
            }
            return sum;
        }

        int allOwedTo(int column) {
            int sum = 0;
            for (int i = 0; i < MOST_HOUSES; i++) {
                sum += owed(i, column);
            }
            return sum;
        }

        int allCoins() {
            int sum = 0;
            for (int i = 0; i < MOST_HOUSES; i++) {
                sum += coins(i);
            }
            return sum;
        }

        int allDebts() {
            int sum = 0;
            for (int i = 0; i < MOST_HOUSES; i++) {
                sum += allOwedBy(i);
            }
            return sum;
        }

        int debtorCount() {
            int debtors = 0;
            for (int i = 0; i < MOST_HOUSES; i++) {
                if (allOwedBy(i) > 0) {
                    debtors++;
                }
            }
            return debtors;
        }

        /** What a house lacks when all the others pay it whole. */
        private int shortfall(int i) {
            return allOwedBy(i) - coins(i) - allOwedTo(i);
        }

        // nobody falls just when nobody falls in round 1, where all still pay whole:
        // so the help covers the house's own shortfall (never above all it owes), and no other's
        int helpNeeded(int i) {
            for (int other = 0; other < MOST_HOUSES; other++) {
                if (other != i && shortfall(other) > 0) {
                    return NONE;
                }
            }
            return Math.max(0, shortfall(i));
        }

        int passDay() {
            int paid = 0;
            for (int i = 0; i < MOST_HOUSES; i++) {
                paid += payWhole(i, OUT_COLUMN);
                for (int j = 0; j < MOST_HOUSES; j++) {
                    paid += payWhole(i, j);
                }
            }
            return paid;
        }

        private int payWhole(int i, int column) {
            int sum = owed(i, column);
            if (sum == 0 || coins(i) < sum) {
                return 0;
            }
            setOwed(i, column, 0);
            setCoins(i, coins(i) - sum);
            if (column == OUT_COLUMN) {
                paidOut += sum;
            } else {
                setCoins(column, coins(column) + sum);
            }
            return 1;
        }
    }

    /** Who falls in which round, and all shares as fractions over one number below. */
    private static final class Clearing {
        private final Books books;
        private final int[] fallRow = new int[MOST_HOUSES];
        private final long[] shareRow = new long[MOST_HOUSES];
        private final long[] matrix = new long[MOST_HOUSES * MOST_HOUSES];
        private final long[] rightSide = new long[MOST_HOUSES];
        private int penniless = NONE;
        int lastRound = 0;
        long below = 1;

        Clearing(Books books) {
            this.books = books;
        }

        /** Clears as if the house told had no cash; NONE: as things are. */
        void settle(int without) {
            penniless = without;
            lastRound = 0;
            below = 1;
            for (int i = 0; i < MOST_HOUSES; i++) {
                put(fallRow, i, 0);
                putLong(shareRow, i, 1);
            }
            for (int round = 1; round <= MOST_HOUSES; round++) {
                if (!anyFallIn(round)) {
                    break;
                }
                lastRound = round;
                solveShares();
            }
        }

        private boolean anyFallIn(int round) {
            boolean any = false;
            for (int i = 0; i < MOST_HOUSES; i++) {
                if (!isFallen(i) && grossAbove(i) < below * books.allOwedBy(i)) {
                    put(fallRow, i, round);
                    any = true;
                }
            }
            return any;
        }

        private boolean isFallen(int i) {
            return roundOfFall(i) > 0;
        }

        private int usableCoins(int i) {
            return i == penniless ? 0 : books.coins(i);
        }

        // Cramer's rule: a house that falls has less cash than it owes (at most 200), so every
        // determinant here stays under 10 to the 15th, and a sum of gross well inside a long
        private void solveShares() {
            for (int i = 0; i < MOST_HOUSES; i++) {
                writeEquation(i);
            }
            below = determinant(NONE);
            for (int i = 0; i < MOST_HOUSES; i++) {
                putLong(shareRow, i, determinant(i));
            }
        }

        private void writeEquation(int i) {
            boolean fallen = isFallen(i);
            int kept = TENTHS - books.tollTenths;
            for (int j = 0; j < MOST_HOUSES; j++) {
                putLong(matrix, i * MOST_HOUSES + j, fallen ? -kept * books.owed(j, i) : 0);
            }
            int diagonal = i * MOST_HOUSES + i;
            putLong(matrix, diagonal, fallen ? TENTHS * books.allOwedBy(i) : 1);
            putLong(rightSide, i, fallen ? kept * usableCoins(i) : 1);
        }

        /** Of the matrix, its column told replaced by the right side; NONE: of the matrix as it is. */
        private long determinant(int replaced) {
            return minor(0, 0, 1, replaced) * minor(2, 2, 3, replaced)
                    - minor(0, 0, 2, replaced) * minor(2, 1, 3, replaced)
                    + minor(0, 0, 3, replaced) * minor(2, 1, 2, replaced)
                    + minor(0, 1, 2, replaced) * minor(2, 0, 3, replaced)
                    - minor(0, 1, 3, replaced) * minor(2, 0, 2, replaced)
                    + minor(0, 2, 3, replaced) * minor(2, 0, 1, replaced);
        }

        private long minor(int row, int j, int k, int replaced) {
            return entry(row, j, replaced) * entry(row + 1, k, replaced)
                    - entry(row, k, replaced) * entry(row + 1, j, replaced);
        }

        private long entry(int row, int column, int replaced) {
            return column == replaced
                    ? longAt(rightSide, row)
                    : longAt(matrix, row * MOST_HOUSES + column);
        }

        int roundOfFall(int i) {
            return at(fallRow, i);
        }

        int fallenCount() {
            int fallen = 0;
            for (int i = 0; i < MOST_HOUSES; i++) {
                if (isFallen(i)) {
                    fallen++;
                }
            }
            return fallen;
        }

        long shareAbove(int i) {
            return longAt(shareRow, i);
        }

        long grossAbove(int i) {
            long above = below * usableCoins(i);
            for (int j = 0; j < MOST_HOUSES; j++) {
                above += shareAbove(j) * books.owed(j, i);
            }
            return above;
        }

        long leftAbove(int i) {
            return isFallen(i) ? 0 : grossAbove(i) - below * books.allOwedBy(i);
        }

        /** Over ten times the number below, as the toll is told in tenths. */
        long lostAbove() {
            long above = 0;
            for (int i = 0; i < MOST_HOUSES; i++) {
                if (isFallen(i)) {
                    above += grossAbove(i) * books.tollTenths;
                }
            }
            return above;
        }
    }

    /** The rings of debts, each told by the figures of its houses, each house and 1. */
    private static final class Rings {
        // every ring that four houses can make, in order
        private static final int[] ALL = {
            12, 13, 14, 23, 24, 34,
            123, 124, 132, 134, 142, 143, 234, 243,
            1234, 1243, 1324, 1342, 1423, 1432
        };

        private final Books books;

        Rings(Books books) {
            this.books = books;
        }

        int howMany() {
            int found = 0;
            for (int k = 0; k < ALL.length; k++) {
                if (leastDebt(at(ALL, k)) > 0) {
                    found++;
                }
            }
            return found;
        }

        int figuresOf(int wanted) {
            int found = 0;
            for (int k = 0; k < ALL.length; k++) {
                int figures = at(ALL, k);
                if (leastDebt(figures) > 0) {
                    if (found == wanted) {
                        return figures;
                    }
                    found++;
                }
            }
            return NONE;
        }

        int sizeOf(int figures) {
            return figures < 100 ? 2 : figures < 1000 ? 3 : 4;
        }

        private int firstOf(int figures) {
            return (figures < 100 ? figures / 10 : figures < 1000 ? figures / 100 : figures / 1000) - 1;
        }

        // a ring is walked from its last house back, as that is how its figures come off

        private int leastDebt(int figures) {
            int least = MOST_DEBT;
            int payee = firstOf(figures);
            int rest = figures;
            for (int step = 0; step < sizeOf(figures); step++) {
                int payer = rest % 10 - 1;
                least = Math.min(least, books.owed(payer, payee));
                payee = payer;
                rest /= 10;
            }
            return least;
        }

        /** Cancels the ring: by how much each of its debts has lessened. */
        int lessen(int figures) {
            int least = leastDebt(figures);
            int payee = firstOf(figures);
            int rest = figures;
            for (int step = 0; step < sizeOf(figures); step++) {
                int payer = rest % 10 - 1;
                books.setOwed(payer, payee, books.owed(payer, payee) - least);
                payee = payer;
                rest /= 10;
            }
            return least;
        }
    }
}

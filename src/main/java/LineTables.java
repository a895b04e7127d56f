import java.util.Arrays;

/**
 * Eight tables of numbers over the rationals or a prime field, reduced exactly: turned from one set
 * of places to another one, with their duals, and what is left without some columns.
 */
public final class LineTables {
    public static final int NONE = -1;

    private static final int TABLES = 8;
    /** The most rows, and the most columns, that a table has. */
    private static final int MOST = 12;
    private static final int LARGEST_FIELD = 251;
    private static final int LARGEST_PUT = 999;
    private static final int EVERY_COLUMN = (1 << MOST) - 1;

    private final Table[] tables;
    private final Rationals rationals;
    private final Residues residues;
    /**
     * A result is made here and then changes places with the table that it becomes: so a table can
     * be made of itself, and no call makes a new one.
     */
    private Table spare;

    public LineTables() {
        tables = new Table[TABLES];
        for (int t = 0; t < TABLES; t++) {
            tables[t] = new Table();
        }
        spare = new Table();
        rationals = new Rationals();
        residues = new Residues();
    }

    public boolean begin(int t, int field, int rows, int columns) {
        if (!isTable(t) || !isField(field) || !isAmount(rows) || !isAmount(columns)) {
            return false;
        }
        tables[t].start(field, rows, columns);
        return true;
    }

    public boolean put(int t, int row, int column, int v) {
        if (!hasNumber(t, row, column) || tables[t].reduced || v < -LARGEST_PUT || v > LARGEST_PUT) {
            return false;
        }
        int field = tables[t].field;
        tables[t].setSmall(row, column, field == 0 ? v : Math.floorMod(v, field));
        return true;
    }

    public int reduce(int t) {
        if (!isTable(t)) {
            return NONE;
        }
        Table table = tables[t];
        if (!table.reduced) {
            table.rows = sweep(table, EVERY_COLUMN);
            table.reduced = true;
        }
        return table.rows;
    }

    public int turn(int t, int r, int column) {
        if (!hasNumber(t, r, column) || !tables[t].reduced || tables[t].isZero(r, column)) {
            return NONE;
        }
        int before = tables[t].places[r];
        pivot(tables[t], r, column);
        return before;
    }

    public int dual(int to, int t) {
        if (!isTable(to) || !isReduced(t)) {
            return NONE;
        }
        Table from = tables[t];
        spare.start(from.field, from.columns - from.rows, from.columns);
        int row = 0;
        for (int column = 0; column < from.columns; column++) {
            if (!from.hasPlace(column) && row < spare.rows) {
                kindOf(from).fillDual(spare, row, from, column);
                row++;
            }
        }
        return keepSpare(to, sweep(spare, EVERY_COLUMN));
    }

    public int leave(int to, int t, int set, boolean zero) {
        if (!isTable(to) || !isReduced(t) || set < 0 || set >> tables[t].columns != 0) {
            return NONE;
        }
        Table from = tables[t];
        spare.start(from.field, from.rows, from.columns);
        spare.copyNumbers(from, 0, 0);
        if (zero) {
            // Rows with places in the set have no part in a row that is 0 there, and the other
            // rows are 0 there once no more of the set's columns can become places.
            spare.dropFirstRows(sweep(spare, set));
        }
        spare.dropColumns(set);
        return keepSpare(to, sweep(spare, EVERY_COLUMN));
    }

    public int sum(int to, int a, int b) {
        if (!isTable(to) || !isReduced(a) || !isReduced(b)) {
            return NONE;
        }
        Table first = tables[a];
        Table second = tables[b];
        if (first.field != second.field || first.columns + second.columns > MOST) {
            return NONE;
        }
        spare.start(first.field, first.rows + second.rows, first.columns + second.columns);
        spare.copyNumbers(first, 0, 0);
        spare.copyNumbers(second, first.rows, first.columns);
        return keepSpare(to, sweep(spare, EVERY_COLUMN));
    }

    public int of(int t, int what) {
        if (!isTable(t)) {
            return NONE;
        }
        switch (what) {
            case 0:
                return tables[t].field;
            case 1:
                return tables[t].rows;
            case 2:
                return tables[t].columns;
            case 3:
                return tables[t].reduced ? 1 : 0;
            default:
                return NONE;
        }
    }

    public int place(int t, int r) {
        if (!isReduced(t) || r < 0 || r >= tables[t].rows) {
            return NONE;
        }
        return tables[t].places[r];
    }

    public int sign(int t, int row, int column) {
        if (!hasNumber(t, row, column)) {
            return 0;
        }
        return Integer.signum(tables[t].head(row, column));
    }

    public int digit(int t, int row, int column, int i) {
        if (!hasNumber(t, row, column) || i < 0) {
            return NONE;
        }
        return tables[t].toldDigit(row, column, i);
    }

    private static boolean isTable(int t) {
        return t >= 0 && t < TABLES;
    }

    private static boolean isAmount(int n) {
        return n >= 0 && n <= MOST;
    }

    private static boolean isField(int field) {
        if (field == 0) {
            return true;
        }
        if (field < 2 || field > LARGEST_FIELD) {
            return false;
        }
        for (int d = 2; d * d <= field; d++) {
            if (field % d == 0) {
                return false;
            }
        }
        return true;
    }

    private boolean isReduced(int t) {
        return isTable(t) && tables[t].reduced;
    }

    private boolean hasNumber(int t, int row, int column) {
        return isTable(t) && tables[t].has(row, column);
    }

    private Kind kindOf(Table table) {
        return table.field == 0 ? rationals : residues;
    }

    /** The spare table becomes table to, reduced, with its first rows alone; answers how many. */
    private int keepSpare(int to, int rows) {
        Table made = spare;
        spare = tables[to];
        tables[to] = made;
        made.rows = rows;
        made.reduced = true;
        return rows;
    }

    /**
     * Goes through the set's columns from the left; each in which a row that has no place yet is
     * not 0 becomes the place of the next row. Answers how many rows have got places: the first ones.
     */
    private int sweep(Table table, int set) {
        int next = 0;
        for (int column = 0; column < table.columns; column++) {
            int row = (set >> column & 1) == 0 ? NONE : table.findRow(next, column);
            if (row != NONE) {
                table.swapRows(next, row);
                pivot(table, next, column);
                next++;
            }
        }
        return next;
    }

    /** Makes a column in which the row is not 0 its place: all other rows become 0 there. */
    private void pivot(Table table, int row, int column) {
        Kind kind = kindOf(table);
        kind.lead(table, row, column);
        for (int other = 0; other < table.rows; other++) {
            if (other != row && !table.isZero(other, column)) {
                kind.clear(table, other, row, column);
            }
        }
        table.places[row] = column;
    }

    /** What reducing asks of a field's numbers. */
    private abstract static class Kind {
        /** Scales a row to what is told of it when its place is the column, where it is not 0. */
        abstract void lead(Table table, int row, int column);

        /** Makes a row 0 in the column by taking the leader, which was scaled for it, from it. */
        abstract void clear(Table table, int row, int leader, int column);

        /**
         * Makes a row of zeros the one that has the product 0 with each row of a reduced table and,
         * of all columns that are no places there, is not 0 in this one alone.
         */
        abstract void fillDual(Table to, int row, Table from, int column);
    }

    /** Rows of residues, which have 1 at their places. */
    private static final class Residues extends Kind {
        void lead(Table table, int row, int column) {
            int factor = inverse(table.small(row, column), table.field);
            for (int j = 0; j < table.columns; j++) {
                table.setSmall(row, j, Math.floorMod(factor * table.small(row, j), table.field));
            }
        }

        void clear(Table table, int row, int leader, int column) {
            int times = table.small(row, column);
            for (int j = 0; j < table.columns; j++) {
                int v = table.small(row, j) - times * table.small(leader, j);
                table.setSmall(row, j, Math.floorMod(v, table.field));
            }
        }

        void fillDual(Table to, int row, Table from, int column) {
            to.setSmall(row, column, 1);
            for (int r = 0; r < from.rows; r++) {
                int v = Math.floorMod(-from.small(r, column), from.field);
                to.setSmall(row, from.places[r], v);
            }
        }

        private static int inverse(int v, int field) {
            for (int candidate = 1; candidate < field; candidate++) {
                if (candidate * v % field == 1) {
                    return candidate;
                }
            }
            return 1;
        }
    }

    /**
     * Rows of rational numbers, held as they are told: whole numbers that have no divisor in common,
     * above 0 at the place. So no number outgrows the minors of the tables that were put.
     */
    private static final class Rationals extends Kind {
        /** A row at work: products, before their common divisor is taken out. */
        private final Whole[] line;
        private final Whole number;
        private final Whole product;
        private final Whole rowFactor;
        private final Whole leaderFactor;
        private final Whole quotient;
        private Whole common;
        private Whole rest;

        Rationals() {
            line = new Whole[MOST];
            for (int j = 0; j < MOST; j++) {
                line[j] = new Whole();
            }
            number = new Whole();
            product = new Whole();
            rowFactor = new Whole();
            leaderFactor = new Whole();
            quotient = new Whole();
            common = new Whole();
            rest = new Whole();
        }

        void lead(Table table, int row, int column) {
            for (int j = 0; j < table.columns; j++) {
                table.load(row, j, line[j]);
            }
            findCommon(table.columns);
            storeLine(table, row);
            if (table.head(row, column) < 0) {
                table.negateRow(row);
            }
        }

        void clear(Table table, int row, int leader, int column) {
            // The row's factor is above 0, so what the row has at its own place stays above 0.
            table.load(leader, column, rowFactor);
            table.load(row, column, leaderFactor);
            for (int j = 0; j < table.columns; j++) {
                table.load(row, j, number);
                line[j].setProduct(number, rowFactor);
                table.load(leader, j, number);
                product.setProduct(number, leaderFactor);
                line[j].subtract(product);
            }
            findCommon(table.columns);
            storeLine(table, row);
        }

        void fillDual(Table to, int row, Table from, int column) {
            to.setSmall(row, column, 1);
            for (int r = 0; r < from.rows; r++) {
                if (!from.isZero(r, column)) {
                    balance(to, row, from, r, column);
                }
            }
        }

        /** Gives the dual's row, scaled as needed, at the place of row r what makes their product 0. */
        private void balance(Table to, int row, Table from, int r, int column) {
            int place = from.places[r];
            from.load(r, place, rowFactor);
            from.load(r, column, leaderFactor);
            for (int j = 0; j < to.columns; j++) {
                to.load(row, j, number);
                line[j].setProduct(number, rowFactor);
            }
            to.load(row, column, number);
            line[place].setProduct(number, leaderFactor);
            line[place].negate();
            findCommon(to.columns);
            storeLine(to, row);
        }

        /** The greatest common divisor of the line's numbers, by Euclid; 0 if they are all 0. */
        private void findCommon(int columns) {
            common.setZero();
            for (int j = 0; j < columns && !common.isOne(); j++) {
                rest.setSize(line[j]);
                for (int step = 0; step < Whole.EUCLID_STEPS && rest.signum != 0; step++) {
                    common.divide(rest, quotient);
                    Whole remainder = common;
                    common = rest;
                    rest = remainder;
                }
            }
        }

        private void storeLine(Table table, int row) {
            for (int j = 0; j < table.columns; j++) {
                if (common.isOne()) {
                    table.store(row, j, line[j]);
                } else {
                    line[j].divide(common, quotient);
                    table.store(row, j, quotient);
                }
            }
        }
    }

    /** A table's numbers and places. Those who call it have looked at rows and columns before. */
    private static final class Table {
        /**
         * A number that is kept is at most a minor of 11 rows of numbers up to 999, for with 12
         * places in 12 columns all rows have a single 1: by Hadamard's bound it is below 2^129.
         */
        private static final int KEPT_LIMBS = 5;
        /** A number's head (how many limbs it has, below 0 if the number is) and its limbs. */
        private static final int STEP = KEPT_LIMBS + 1;
        private static final int DIGIT_BITS = 16;
        private static final int DIGIT_MASK = (1 << DIGIT_BITS) - 1;

        int field;
        int rows;
        int columns;
        boolean reduced;
        final int[] places;
        private final int[][] numbers;

        Table() {
            reduced = true;
            places = new int[MOST];
            numbers = new int[MOST][MOST * STEP];
        }

        /** Becomes a loose table of zeros. */
        void start(int newField, int newRows, int newColumns) {
            field = newField;
            rows = newRows;
            columns = newColumns;
            reduced = false;
            for (int row = 0; row < newRows; row++) {
                Arrays.fill(numbers[row], 0);
            }
        }

        boolean has(int row, int column) {
            return row >= 0 && row < rows && column >= 0 && column < columns;
        }

        boolean hasPlace(int column) {
            for (int row = 0; row < rows; row++) {
                if (places[row] == column) {
                    return true;
                }
            }
            return false;
        }

        /** The first row from one on that is not 0 in the column. */
        int findRow(int from, int column) {
            for (int row = from; row < rows; row++) {
                if (!isZero(row, column)) {
                    return row;
                }
            }
            return NONE;
        }

        int head(int row, int column) {
            return numbers[row][column * STEP];
        }

        boolean isZero(int row, int column) {
            return head(row, column) == 0;
        }

        /** A number that has one limb at most. */
        int small(int row, int column) {
            return head(row, column) * numbers[row][column * STEP + 1];
        }

        void setSmall(int row, int column, int v) {
            numbers[row][column * STEP] = Integer.signum(v);
            numbers[row][column * STEP + 1] = Math.abs(v);
        }

        void load(int row, int column, Whole to) {
            int head = head(row, column);
            to.count = Math.abs(head);
            to.signum = Integer.signum(head);
            System.arraycopy(numbers[row], column * STEP + 1, to.limbs, 0, to.count);
        }

        void store(int row, int column, Whole from) {
            int count = Math.min(from.count, KEPT_LIMBS);
            numbers[row][column * STEP] = from.signum * count;
            System.arraycopy(from.limbs, 0, numbers[row], column * STEP + 1, count);
        }

        int toldDigit(int row, int column, int i) {
            int count = Math.abs(head(row, column));
            if (i > count * Whole.BITS / DIGIT_BITS) {
                return 0;
            }
            int limb = i * DIGIT_BITS / Whole.BITS;
            int shift = i * DIGIT_BITS % Whole.BITS;
            int first = column * STEP + 1;
            long low = limb < count ? numbers[row][first + limb] : 0;
            long high = limb + 1 < count ? numbers[row][first + limb + 1] : 0;
            return (int) ((high << Whole.BITS | low) >> shift) & DIGIT_MASK;
        }

        void negateRow(int row) {
            for (int column = 0; column < columns; column++) {
                numbers[row][column * STEP] = -numbers[row][column * STEP];
            }
        }

        void swapRows(int a, int b) {
            int[] row = numbers[a];
            numbers[a] = numbers[b];
            numbers[b] = row;
        }

        void copyNumbers(Table from, int firstRow, int firstColumn) {
            for (int row = 0; row < from.rows; row++) {
                int[] target = numbers[firstRow + row];
                System.arraycopy(from.numbers[row], 0, target, firstColumn * STEP, from.columns * STEP);
            }
        }

        void dropFirstRows(int dropped) {
            rows -= dropped;
            for (int row = 0; row < rows; row++) {
                swapRows(row, row + dropped);
            }
        }

        void dropColumns(int set) {
            int kept = 0;
            for (int column = 0; column < columns; column++) {
                if ((set >> column & 1) == 0) {
                    for (int row = 0; row < rows; row++) {
                        int[] line = numbers[row];
                        System.arraycopy(line, column * STEP, line, kept * STEP, STEP);
                    }
                    kept++;
                }
            }
            columns = kept;
        }
    }

    /** A whole number of a fixed room, changed in place; limbs are to the base 2^30, lowest first. */
    private static final class Whole {
        static final int BITS = 30;
        private static final int INT_BITS = 32;
        private static final int MASK = (1 << BITS) - 1;
        /** Room for the product of two kept numbers, what a sum carries, and what a division needs. */
        private static final int LIMBS = 2 * Table.KEPT_LIMBS + 2;
        /** Far above what numbers of so many limbs can need. */
        static final int EUCLID_STEPS = 10000;

        final int[] limbs;
        /** How many limbs are in use; the highest of them is not 0. */
        int count;
        /** -1, 0 or 1. */
        int signum;

        Whole() {
            limbs = new int[LIMBS];
        }

        boolean isOne() {
            return count == 1 && limbs[0] == 1 && signum == 1;
        }

        void setZero() {
            count = 0;
            signum = 0;
        }

        void setSize(Whole other) {
            System.arraycopy(other.limbs, 0, limbs, 0, other.count);
            count = other.count;
            signum = Math.abs(other.signum);
        }

        void negate() {
            signum = -signum;
        }

        /** Becomes the product of two other numbers. */
        void setProduct(Whole a, Whole b) {
            setZero();
            if (a.signum == 0 || b.signum == 0 || a.count + b.count > LIMBS) {
                return;
            }
            count = a.count + b.count;
            signum = a.signum * b.signum;
            Arrays.fill(limbs, 0, count, 0);
            for (int i = 0; i < a.count; i++) {
                long factor = a.limbs[i];
                long carry = 0;
                for (int j = 0; j < b.count; j++) {
                    carry += limbs[i + j] + factor * b.limbs[j];
                    limbs[i + j] = (int) (carry & MASK);
                    carry >>= BITS;
                }
                limbs[i + b.count] = (int) carry;
            }
            trim();
        }

        void subtract(Whole other) {
            if (signum * other.signum < 0) {
                addSize(other);
            } else if (compareSize(other) >= 0) {
                setDifference(this, other);
            } else {
                setDifference(other, this);
                signum = -other.signum;
            }
            trim();
        }

        /**
         * Leaves the remainder, which has the sign of what was here, and makes the quotient, another
         * number, how often the divisor goes in. A divisor 0 goes in 0 times.
         */
        void divide(Whole divisor, Whole quotient) {
            int size = divisor.count;
            quotient.setZero();
            if (size == 0 || count < size || count >= LIMBS) {
                return;
            }
            int shift = Integer.numberOfLeadingZeros(divisor.limbs[size - 1]) - (INT_BITS - BITS);
            long top = Math.max(1, divisor.topBelow(size, shift) >> BITS);
            quotient.count = count - size + 1;
            quotient.signum = signum * divisor.signum;
            limbs[count] = 0;
            for (int at = count - size; at >= 0; at--) {
                // With the divisor's top bit in the limb's top bit, this is at most 2 too large.
                long guess = Math.min(topBelow(at + size + 1, shift) / top, MASK);
                quotient.limbs[at] = takeAway(divisor, guess, at);
            }
            quotient.trim();
            count = size;
            trim();
        }

        /** The two limbs below an end, moved up by some bits, which the limb below them gives. */
        private long topBelow(int end, int shift) {
            long high = end >= 1 ? limbs[end - 1] : 0;
            long low = end >= 2 ? limbs[end - 2] : 0;
            long below = end >= 3 ? limbs[end - 3] : 0;
            return (high << BITS | low) << shift | below >> (BITS - shift);
        }

        /**
         * Takes the divisor, moved up to a limb, away as often as was guessed, or less often where
         * that is too often; answers how often.
         */
        private int takeAway(Whole divisor, long guess, int at) {
            int end = at + divisor.count;
            long carry = 0;
            for (int i = 0; i < divisor.count; i++) {
                carry += limbs[at + i] - guess * divisor.limbs[i];
                limbs[at + i] = (int) (carry & MASK);
                carry >>= BITS;
            }
            int high = (int) (limbs[end] + carry);
            int times = (int) guess;
            for (int again = 0; again < 2 && high < 0; again++) {
                carry = 0;
                for (int i = 0; i < divisor.count; i++) {
                    carry += limbs[at + i] + divisor.limbs[i];
                    limbs[at + i] = (int) (carry & MASK);
                    carry >>= BITS;
                }
                high += (int) carry;
                times--;
            }
            limbs[end] = high;
            return times;
        }

        private int limbAt(int i) {
            return i < count ? limbs[i] : 0;
        }

        private int compareSize(Whole other) {
            if (count != other.count) {
                return Integer.compare(count, other.count);
            }
            for (int i = count - 1; i >= 0; i--) {
                if (limbs[i] != other.limbs[i]) {
                    return Integer.compare(limbs[i], other.limbs[i]);
                }
            }
            return 0;
        }

        private void addSize(Whole other) {
            int end = Math.min(Math.max(count, other.count), LIMBS - 1);
            int carry = 0;
            for (int i = 0; i < end; i++) {
                carry += limbAt(i) + other.limbAt(i);
                limbs[i] = carry & MASK;
                carry >>= BITS;
            }
            limbs[end] = carry;
            count = end + 1;
        }

        /** The size becomes that of the larger less that of the smaller; this may be one of them. */
        private void setDifference(Whole larger, Whole smaller) {
            int carry = 0;
            for (int i = 0; i < larger.count; i++) {
                carry += larger.limbs[i] - smaller.limbAt(i);
                limbs[i] = carry & MASK;
                carry >>= BITS;
            }
            count = larger.count;
        }

        private void trim() {
            while (count > 0 && limbs[count - 1] == 0) {
                count--;
            }
            if (count == 0) {
                signum = 0;
            }
        }
    }
}

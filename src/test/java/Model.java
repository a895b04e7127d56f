import java.math.BigInteger;
import java.util.ArrayList;
import java.util.Arrays;
import java.util.List;

/**
 * The document's tables once more, with fractions of BigIntegers and by other ways than the program:
 * a turned table is solved anew for its places, and rows with zeros are found through the dual.
 */
final class Model {
    static final int NONE = -1;

    private static final class Table {
        int field = 0;
        int columns = 0;
        boolean reduced = true;
        List<Fraction[]> rows = new ArrayList<>();
        List<Integer> places = new ArrayList<>();
    }

    /** A rational number; a residue has the denominator 1. */
    private record Fraction(BigInteger over, BigInteger under) {
        static final Fraction ZERO = whole(0);
        static final Fraction ONE = whole(1);

        static Fraction whole(long v) {
            return new Fraction(BigInteger.valueOf(v), BigInteger.ONE);
        }

        boolean isZero() {
            return over.signum() == 0;
        }

        Fraction in(int field) {
            if (field != 0) {
                BigInteger p = BigInteger.valueOf(field);
                return new Fraction(over.multiply(under.modInverse(p)).mod(p), BigInteger.ONE);
            }
            BigInteger common = over.gcd(under);
            if (under.signum() < 0) {
                common = common.negate();
            }
            return new Fraction(over.divide(common), under.divide(common));
        }

        Fraction times(Fraction b, int field) {
            return new Fraction(over.multiply(b.over), under.multiply(b.under)).in(field);
        }

        Fraction minus(Fraction b, int field) {
            BigInteger top = over.multiply(b.under).subtract(b.over.multiply(under));
            return new Fraction(top, under.multiply(b.under)).in(field);
        }

        Fraction by(Fraction b, int field) {
            if (field != 0) {
                BigInteger p = BigInteger.valueOf(field);
                return new Fraction(over.multiply(b.over.modInverse(p)).mod(p), BigInteger.ONE);
            }
            return new Fraction(over.multiply(b.under), under.multiply(b.over)).in(field);
        }
    }

    private final Table[] tables = new Table[8];

    Model() {
        for (int t = 0; t < 8; t++) {
            tables[t] = new Table();
        }
    }

    private Table table(int t) {
        return t >= 0 && t < 8 ? tables[t] : null;
    }

    private Table reducedTable(int t) {
        Table table = table(t);
        return table != null && table.reduced ? table : null;
    }

    private Fraction told(int t, int row, int column) {
        Table table = table(t);
        if (table == null || row < 0 || row >= table.rows.size() || column < 0 || column >= table.columns) {
            return null;
        }
        Fraction[] numbers = table.rows.get(row);
        BigInteger least = BigInteger.ONE;
        for (Fraction number : numbers) {
            least = least.divide(least.gcd(number.under)).multiply(number.under);
        }
        return numbers[column].times(new Fraction(least, BigInteger.ONE), table.field);
    }

    /** The one table of the rows' space with these places in this order. */
    private static List<Fraction[]> solve(List<Fraction[]> rows, List<Integer> places, int field) {
        List<Fraction[]> work = new ArrayList<>();
        for (Fraction[] row : rows) {
            work.add(row.clone());
        }
        for (int r = 0; r < places.size(); r++) {
            int c = places.get(r);
            int found = r;
            while (work.get(found)[c].isZero()) {
                found++;
            }
            Fraction[] leader = work.remove(found);
            Fraction lead = leader[c];
            for (int j = 0; j < leader.length; j++) {
                leader[j] = leader[j].by(lead, field);
            }
            for (Fraction[] row : work) {
                Fraction times = row[c];
                for (int j = 0; j < row.length; j++) {
                    row[j] = row[j].minus(leader[j].times(times, field), field);
                }
            }
            work.add(r, leader);
        }
        return new ArrayList<>(work.subList(0, places.size()));
    }

    /** The columns that are no combination of the columns before them. */
    private static List<Integer> leftPlaces(List<Fraction[]> rows, int columns, int field) {
        List<Integer> places = new ArrayList<>();
        List<Fraction[]> work = new ArrayList<>(rows);
        for (int c = 0; c < columns; c++) {
            Fraction[] leader = null;
            for (Fraction[] row : work) {
                if (!row[c].isZero()) {
                    leader = row;
                    break;
                }
            }
            if (leader == null) {
                continue;
            }
            places.add(c);
            List<Fraction[]> next = new ArrayList<>();
            for (Fraction[] row : work) {
                if (row != leader) {
                    Fraction times = row[c].by(leader[c], field);
                    Fraction[] less = new Fraction[columns];
                    for (int j = 0; j < columns; j++) {
                        less[j] = row[j].minus(leader[j].times(times, field), field);
                    }
                    next.add(less);
                }
            }
            work = next;
        }
        return places;
    }

    private static Table reducedOf(int field, int columns, List<Fraction[]> rows) {
        Table made = new Table();
        made.field = field;
        made.columns = columns;
        made.places = leftPlaces(rows, columns, field);
        made.rows = solve(rows, made.places, field);
        return made;
    }

    private static Table dualOf(Table from) {
        Table left = reducedOf(from.field, from.columns, from.rows);
        List<Fraction[]> rows = new ArrayList<>();
        for (int c = 0; c < from.columns; c++) {
            if (!left.places.contains(c)) {
                Fraction[] row = new Fraction[from.columns];
                for (int j = 0; j < from.columns; j++) {
                    int r = left.places.indexOf(j);
                    Fraction other = r < 0 ? Fraction.ZERO : Fraction.ZERO.minus(left.rows.get(r)[c], from.field);
                    row[j] = j == c ? Fraction.ONE : other;
                }
                rows.add(row);
            }
        }
        return reducedOf(from.field, from.columns, rows);
    }

    private static Table without(Table from, int set) {
        int columns = from.columns - Integer.bitCount(set);
        List<Fraction[]> rows = new ArrayList<>();
        for (Fraction[] row : from.rows) {
            Fraction[] less = new Fraction[columns];
            int k = 0;
            for (int j = 0; j < from.columns; j++) {
                if ((set >> j & 1) == 0) {
                    less[k++] = row[j];
                }
            }
            rows.add(less);
        }
        return reducedOf(from.field, columns, rows);
    }

    int begin(int t, int field, int rows, int columns) {
        boolean isField = field == 0
                || field >= 2 && field <= 251 && BigInteger.valueOf(field).isProbablePrime(30);
        if (table(t) == null || !isField || rows < 0 || rows > 12 || columns < 0 || columns > 12) {
            return 0;
        }
        Table made = new Table();
        made.field = field;
        made.columns = columns;
        made.reduced = false;
        for (int r = 0; r < rows; r++) {
            Fraction[] row = new Fraction[columns];
            Arrays.fill(row, Fraction.ZERO);
            made.rows.add(row);
        }
        tables[t] = made;
        return 1;
    }

    int put(int t, int row, int column, int v) {
        if (told(t, row, column) == null || tables[t].reduced || Math.abs((long) v) > 999) {
            return 0;
        }
        tables[t].rows.get(row)[column] = Fraction.whole(v).in(tables[t].field);
        return 1;
    }

    int reduce(int t) {
        Table table = table(t);
        if (table == null) {
            return NONE;
        }
        if (!table.reduced) {
            tables[t] = reducedOf(table.field, table.columns, table.rows);
        }
        return tables[t].rows.size();
    }

    int turn(int t, int r, int column) {
        Table table = reducedTable(t);
        if (table == null || told(t, r, column) == null || told(t, r, column).isZero()) {
            return NONE;
        }
        int before = table.places.set(r, column);
        table.rows = solve(table.rows, table.places, table.field);
        return before;
    }

    int dual(int to, int t) {
        Table from = reducedTable(t);
        if (from == null || table(to) == null) {
            return NONE;
        }
        tables[to] = dualOf(from);
        return tables[to].rows.size();
    }

    int leave(int to, int t, int set, boolean zero) {
        Table from = reducedTable(t);
        if (from == null || table(to) == null || set < 0 || set >= 1 << from.columns) {
            return NONE;
        }
        tables[to] = zero ? dualOf(without(dualOf(from), set)) : without(from, set);
        return tables[to].rows.size();
    }

    int sum(int to, int a, int b) {
        Table first = reducedTable(a);
        Table second = reducedTable(b);
        if (first == null || second == null || table(to) == null || first.field != second.field
                || first.columns + second.columns > 12) {
            return NONE;
        }
        int columns = first.columns + second.columns;
        List<Fraction[]> rows = new ArrayList<>();
        for (int r = 0; r < first.rows.size() + second.rows.size(); r++) {
            Fraction[] row = new Fraction[columns];
            Arrays.fill(row, Fraction.ZERO);
            boolean isFirst = r < first.rows.size();
            Fraction[] from = isFirst ? first.rows.get(r) : second.rows.get(r - first.rows.size());
            System.arraycopy(from, 0, row, isFirst ? 0 : first.columns, from.length);
            rows.add(row);
        }
        tables[to] = reducedOf(first.field, columns, rows);
        return tables[to].rows.size();
    }

    int of(int t, int what) {
        Table table = table(t);
        if (table == null || what < 0 || what > 3) {
            return NONE;
        }
        return new int[] {table.field, table.rows.size(), table.columns, table.reduced ? 1 : 0}[what];
    }

    int place(int t, int r) {
        Table table = reducedTable(t);
        return table == null || r < 0 || r >= table.rows.size() ? NONE : table.places.get(r);
    }

    int sign(int t, int row, int column) {
        Fraction told = told(t, row, column);
        return told == null ? 0 : told.over.signum();
    }

    int digit(int t, int row, int column, int i) {
        Fraction told = told(t, row, column);
        if (told == null || i < 0) {
            return NONE;
        }
        return i > 1000 ? 0 : told.over.abs().shiftRight(16 * i).intValue() & 65535;
    }

    /** The most bits of a number that the table tells. */
    int bits(int t) {
        int most = 0;
        for (int r = 0; r < of(t, 1); r++) {
            for (int c = 0; c < of(t, 2); c++) {
                most = Math.max(most, told(t, r, c).over.bitLength());
            }
        }
        return most;
    }
}

import java.math.BigInteger;
import java.util.function.Function;

/** Each promise by hand: ordinary inputs, the edges that the document names, and wrong inputs. */
public final class PromisesTest {
    private static final String EMPTY = "field 0, 0 x 0, reduced";
    private static final int[] OUTSIDE = {-1, 8, 9, Integer.MIN_VALUE, Integer.MAX_VALUE};
    private static final int[] BAD_COLUMNS = {-1, 4, 12, 13, Integer.MIN_VALUE, Integer.MAX_VALUE};

    public static void main(String[] args) {
        newObject();
        begin();
        put();
        reduce();
        turn();
        dual();
        leave();
        sum();
        of();
        place();
        sign();
        digit();
        largeNumbers();
        Check.end();
    }

    /** Table 0 rational and reduced, 1 rational and loose, 2 of residues and reduced, 3 rational, turned. */
    private static LineTables sample() {
        LineTables x = new LineTables();
        Check.fill(x, 0, 0, 4, new int[][] {{2, 4, -6, 1}, {1, 2, 3, -5}, {3, 6, -3, -4}});
        x.reduce(0);
        Check.fill(x, 1, 0, 3, new int[][] {{0, -5, 7}, {1, 0, 999}});
        Check.fill(x, 2, 7, 4, new int[][] {{2, 1, 0, 3}, {0, 0, 1, 5}});
        x.reduce(2);
        Check.fill(x, 3, 0, 3, new int[][] {{2, 0, 3}, {0, 1, 5}});
        x.reduce(3);
        x.turn(3, 0, 2);
        return x;
    }

    private static <A> void refused(String what, Function<LineTables, A> call, A want) {
        LineTables x = sample();
        String before = Check.state(x);
        Check.due(what, call.apply(x), want);
        Check.due(what + ", and what it changed", Check.state(x), before);
    }

    private static void newObject() {
        LineTables x = new LineTables();
        for (int t = 0; t < 8; t++) {
            Check.due("a new table", Check.table(x, t), EMPTY);
        }
        Check.due("reduce a new table", x.reduce(7), 0);
        Check.due("dual of a new table", x.dual(6, 7), 0);
        Check.due("sum of new tables", x.sum(5, 6, 7), 0);
        Check.due("leave of a new table", x.leave(5, 6, 0, false), 0);
        Check.due("put into a new table", x.put(0, 0, 0, 0), false);
        Check.due("turn a new table", x.turn(0, 0, 0), LineTables.NONE);
        LineTables other = new LineTables();
        Check.fill(other, 0, 3, 1, new int[][] {{1}});
        Check.due("another object is another", Check.table(x, 0), EMPTY);
    }

    private static void begin() {
        LineTables x = sample();
        Check.due("begin over a reduced table", x.begin(0, 5, 2, 3), true);
        Check.due("begin", Check.table(x, 0), "field 5, 2 x 3, loose: 0 0 0 | 0 0 0");
        Check.due("begin over a loose table", x.begin(1, 0, 1, 4), true);
        Check.due("begin again", Check.table(x, 1), "field 0, 1 x 4, loose: 0 0 0 0");
        Check.due("begin with nothing", x.begin(7, 2, 0, 0), true);
        Check.due("nothing is loose too", Check.table(x, 7), "field 2, 0 x 0, loose");
        Check.due("the most", x.begin(6, 251, 12, 12), true);
        Check.due("the most rows", x.of(6, 1), 12);
        Check.due("the most columns", x.of(6, 2), 12);
        for (int field = -3; field <= 260; field++) {
            boolean prime = field > 1 && field <= 251 && BigInteger.valueOf(field).isProbablePrime(30);
            Check.due("field " + field, new LineTables().begin(0, field, 1, 1), field == 0 || prime);
        }
        for (int t : OUTSIDE) {
            refused("begin table " + t, y -> y.begin(t, 0, 1, 1), false);
        }
        for (int field : new int[] {1, 4, -2, 9, 249, 253, 257, Integer.MIN_VALUE, Integer.MAX_VALUE}) {
            refused("begin field " + field, y -> y.begin(0, field, 1, 1), false);
        }
        for (int amount : new int[] {-1, 13, Integer.MIN_VALUE, Integer.MAX_VALUE}) {
            refused("begin rows " + amount, y -> y.begin(0, 0, amount, 1), false);
            refused("begin columns " + amount, y -> y.begin(0, 0, 1, amount), false);
        }
    }

    private static void put() {
        LineTables x = new LineTables();
        x.begin(0, 0, 1, 3);
        Check.due("put 999", x.put(0, 0, 0, 999), true);
        Check.due("put -999", x.put(0, 0, 1, -999), true);
        Check.due("put 6", x.put(0, 0, 2, 6), true);
        Check.due("put 0 over it", x.put(0, 0, 2, 0), true);
        Check.due("what was put", Check.table(x, 0), "field 0, 1 x 3, loose: 999 -999 0");
        x.begin(1, 251, 1, 4);
        x.put(1, 0, 0, -1);
        x.put(1, 0, 1, 999);
        x.put(1, 0, 2, -999);
        x.put(1, 0, 3, 502);
        Check.due("residues", Check.table(x, 1), "field 251, 1 x 4, loose: 250 246 5 0");
        for (int v : new int[] {1000, -1000, Integer.MIN_VALUE, Integer.MAX_VALUE}) {
            refused("put " + v, y -> y.put(1, 0, 0, v), false);
        }
        for (int t : OUTSIDE) {
            refused("put into table " + t, y -> y.put(t, 0, 0, 1), false);
        }
        for (int n : new int[] {-1, 3, 12, Integer.MIN_VALUE, Integer.MAX_VALUE}) {
            refused("put into row " + n, y -> y.put(1, n, 0, 1), false);
            refused("put into column " + n, y -> y.put(1, 0, n, 1), false);
        }
        refused("put into row 2", y -> y.put(1, 2, 0, 1), false);
        refused("put into a reduced table", y -> y.put(0, 0, 0, 1), false);
        refused("put into a reduced table of residues", y -> y.put(2, 0, 0, 1), false);
    }

    private static void reduce() {
        LineTables x = sample();
        Check.due("a row too many", Check.table(x, 0), "field 0, 2 x 4, reduced: at 0: 4 8 0 -9 | at 2: 0 0 12 -11");
        Check.due("reduce", x.reduce(1), 2);
        Check.due("rows change places", Check.table(x, 1), "field 0, 2 x 3, reduced: at 0: 1 0 999 | at 1: 0 5 -7");
        Check.due("residues", Check.table(x, 2), "field 7, 2 x 4, reduced: at 0: 1 4 0 5 | at 2: 0 0 1 5");
        String turned = Check.table(x, 3);
        Check.due("reduce a reduced table", x.reduce(3), 2);
        Check.due("it stays as it was turned", Check.table(x, 3), turned);
        Check.fill(x, 4, 0, 3, new int[][] {{0, 0, 0}, {0, -6, 9}, {0, 4, -6}});
        Check.due("one row of three", x.reduce(4), 1);
        Check.due("without a common divisor", Check.table(x, 4), "field 0, 1 x 3, reduced: at 1: 0 2 -3");
        x.begin(5, 3, 4, 5);
        Check.due("reduce zeros", x.reduce(5), 0);
        Check.due("no rows, all columns", Check.table(x, 5), "field 3, 0 x 5, reduced");
        x.begin(6, 3, 4, 0);
        Check.due("reduce without columns", x.reduce(6), 0);
        Check.due("no rows and no columns", Check.table(x, 6), "field 3, 0 x 0, reduced");
        Check.fill(x, 7, 2, 2, new int[][] {{1, 1}, {3, 5}, {-1, 2}});
        Check.due("more rows than columns", x.reduce(7), 2);
        Check.due("all of the plane", Check.table(x, 7), "field 2, 2 x 2, reduced: at 0: 1 0 | at 1: 0 1");
        for (int t : OUTSIDE) {
            refused("reduce table " + t, y -> y.reduce(t), LineTables.NONE);
        }
    }

    private static void turn() {
        LineTables x = sample();
        Check.due("turn", x.turn(0, 0, 3), 0);
        Check.due("rows stay in order", Check.table(x, 0),
                "field 0, 2 x 4, reduced: at 3: -4 -8 0 9 | at 2: -11 -22 27 0");
        Check.due("turn to a place of its own", x.turn(0, 1, 2), 2);
        Check.due("which changes nothing", Check.table(x, 0),
                "field 0, 2 x 4, reduced: at 3: -4 -8 0 9 | at 2: -11 -22 27 0");
        Check.due("turn the other row", x.turn(0, 1, 1), 2);
        Check.due("both are turned", Check.table(x, 0),
                "field 0, 2 x 4, reduced: at 3: 0 0 -12 11 | at 1: 11 22 -27 0");
        Check.due("turn residues", x.turn(2, 1, 3), 2);
        Check.due("turned residues", Check.table(x, 2), "field 7, 2 x 4, reduced: at 0: 1 4 6 0 | at 3: 0 0 3 1");
        Check.due("a turned table", Check.table(x, 3), "field 0, 2 x 3, reduced: at 2: 2 0 3 | at 1: -10 3 0");
        refused("turn to a zero", y -> y.turn(0, 0, 2), LineTables.NONE);
        refused("turn to a zero that is no place", y -> y.turn(0, 1, 1), LineTables.NONE);
        refused("turn a loose table", y -> y.turn(1, 0, 1), LineTables.NONE);
        for (int t : OUTSIDE) {
            refused("turn table " + t, y -> y.turn(t, 0, 0), LineTables.NONE);
        }
        for (int n : BAD_COLUMNS) {
            refused("turn row " + n, y -> y.turn(0, n, 0), LineTables.NONE);
            refused("turn to column " + n, y -> y.turn(0, 0, n), LineTables.NONE);
        }
        refused("turn row 2", y -> y.turn(0, 2, 0), LineTables.NONE);
    }

    private static void dual() {
        LineTables x = sample();
        Check.due("dual", x.dual(4, 0), 2);
        Check.due("the dual", Check.table(x, 4), "field 0, 2 x 4, reduced: at 0: 27 0 11 12 | at 1: 0 27 22 24");
        Check.due("dual of residues into a rational table", x.dual(1, 2), 2);
        Check.due("the dual of residues", Check.table(x, 1), "field 7, 2 x 4, reduced: at 0: 1 0 1 4 | at 1: 0 1 4 2");
        Check.due("dual of a turned table", x.dual(3, 3), 1);
        Check.due("dual of itself", Check.table(x, 3), "field 0, 1 x 3, reduced: at 0: 3 10 -2");
        Check.due("dual of the dual", x.dual(3, 3), 2);
        Check.due("from the left again", Check.table(x, 3), "field 0, 2 x 3, reduced: at 0: 2 0 3 | at 1: 0 1 5");
        x.begin(5, 0, 0, 2);
        x.reduce(5);
        Check.due("dual of no rows", x.dual(6, 5), 2);
        Check.due("all rows", Check.table(x, 6), "field 0, 2 x 2, reduced: at 0: 1 0 | at 1: 0 1");
        Check.due("dual of all rows", x.dual(6, 6), 0);
        Check.due("no rows", Check.table(x, 6), "field 0, 0 x 2, reduced");
        Check.due("dual of a new table", x.dual(0, 7), 0);
        Check.due("nothing at all", Check.table(x, 0), EMPTY);
        refused("dual of a loose table", y -> y.dual(4, 1), LineTables.NONE);
        for (int t : OUTSIDE) {
            refused("dual of table " + t, y -> y.dual(4, t), LineTables.NONE);
            refused("dual to table " + t, y -> y.dual(t, 0), LineTables.NONE);
        }
    }

    private static void leave() {
        LineTables x = sample();
        Check.due("leave column 0", x.leave(4, 0, 1, false), 2);
        Check.due("without column 0", Check.table(x, 4), "field 0, 2 x 3, reduced: at 0: 8 0 -9 | at 1: 0 12 -11");
        Check.due("leave zeros of column 0", x.leave(4, 0, 1, true), 1);
        Check.due("with 0 in column 0", Check.table(x, 4), "field 0, 1 x 3, reduced: at 1: 0 12 -11");
        Check.due("leave zeros of column 3", x.leave(4, 0, 8, true), 1);
        Check.due("with 0 in column 3", Check.table(x, 4), "field 0, 1 x 3, reduced: at 0: 11 22 -27");
        Check.due("leave two columns", x.leave(4, 0, 10, false), 2);
        Check.due("columns 0 and 2", Check.table(x, 4), "field 0, 2 x 2, reduced: at 0: 1 0 | at 1: 0 1");
        Check.due("leave fewer rows", x.leave(4, 0, 12, false), 1);
        Check.due("columns 0 and 1", Check.table(x, 4), "field 0, 1 x 2, reduced: at 0: 1 2");
        Check.due("no set, of a turned table", x.leave(4, 3, 0, false), 2);
        Check.due("reduced from the left", Check.table(x, 4), "field 0, 2 x 3, reduced: at 0: 2 0 3 | at 1: 0 1 5");
        Check.due("no set has zeros", x.leave(4, 3, 0, true), 2);
        Check.due("all have them", Check.table(x, 4), "field 0, 2 x 3, reduced: at 0: 2 0 3 | at 1: 0 1 5");
        Check.due("leave nothing", x.leave(4, 2, 15, false), 0);
        Check.due("nothing of the field", Check.table(x, 4), "field 7, 0 x 0, reduced");
        Check.due("leave nothing with zeros", x.leave(4, 2, 15, true), 0);
        Check.due("residues to a loose table, zeros", x.leave(1, 2, 8, true), 1);
        Check.due("residues with 0 in column 3", Check.table(x, 1), "field 7, 1 x 3, reduced: at 0: 1 4 6");
        Check.due("leave of itself", x.leave(2, 2, 8, false), 2);
        Check.due("residues without column 3", Check.table(x, 2), "field 7, 2 x 3, reduced: at 0: 1 4 0 | at 2: 0 0 1");
        refused("leave of a loose table", y -> y.leave(4, 1, 1, true), LineTables.NONE);
        for (int set : new int[] {-1, 16, 17, 4096, Integer.MIN_VALUE, Integer.MAX_VALUE}) {
            refused("leave the set " + set, y -> y.leave(4, 0, set, false), LineTables.NONE);
            refused("leave zeros of the set " + set, y -> y.leave(4, 0, set, true), LineTables.NONE);
        }
        refused("leave a column of no columns", y -> y.leave(0, 7, 1, true), LineTables.NONE);
        for (int t : OUTSIDE) {
            refused("leave of table " + t, y -> y.leave(4, t, 0, true), LineTables.NONE);
            refused("leave to table " + t, y -> y.leave(t, 0, 0, true), LineTables.NONE);
        }
    }

    private static void sum() {
        LineTables x = sample();
        Check.due("sum", x.sum(1, 0, 3), 4);
        Check.due("from the left, though one was turned", Check.table(x, 1), "field 0, 4 x 7, reduced: "
                + "at 0: 4 8 0 -9 0 0 0 | at 2: 0 0 12 -11 0 0 0 | at 4: 0 0 0 0 2 0 3 | at 5: 0 0 0 0 0 1 5");
        Check.due("sum the other way", x.sum(3, 3, 3), 4);
        Check.due("of itself, twice", Check.table(x, 3), "field 0, 4 x 6, reduced: "
                + "at 0: 2 0 3 0 0 0 | at 1: 0 1 5 0 0 0 | at 3: 0 0 0 2 0 3 | at 4: 0 0 0 0 1 5");
        Check.due("sum to 12 columns", x.sum(4, 3, 3), 8);
        Check.due("12 columns", x.of(4, 2), 12);
        Check.due("the last place", x.place(4, 7), 10);
        Check.due("sum with nothing", x.sum(5, 7, 0), 2);
        Check.due("is the same", Check.table(x, 5), Check.table(x, 0));
        Check.due("sum of residues", x.sum(2, 2, 2), 4);
        Check.due("residues twice", Check.table(x, 2), "field 7, 4 x 8, reduced: at 0: 1 4 0 5 0 0 0 0 | "
                + "at 2: 0 0 1 5 0 0 0 0 | at 4: 0 0 0 0 1 4 0 5 | at 6: 0 0 0 0 0 0 1 5");
        Check.due("16 columns", x.sum(5, 2, 2), LineTables.NONE);
        Check.due("13 columns", x.sum(5, 1, 3), LineTables.NONE);
        Check.due("nothing has changed", Check.table(x, 5), Check.table(x, 0));
        refused("sum of two fields", y -> y.sum(4, 0, 2), LineTables.NONE);
        refused("sum of two fields, one table without columns", y -> y.sum(4, 2, 7), LineTables.NONE);
        refused("sum of a loose first", y -> y.sum(4, 1, 0), LineTables.NONE);
        refused("sum of a loose second", y -> y.sum(4, 0, 1), LineTables.NONE);
        for (int t : OUTSIDE) {
            refused("sum to table " + t, y -> y.sum(t, 0, 0), LineTables.NONE);
            refused("sum of first table " + t, y -> y.sum(4, t, 0), LineTables.NONE);
            refused("sum of second table " + t, y -> y.sum(4, 0, t), LineTables.NONE);
        }
    }

    private static void of() {
        LineTables x = sample();
        int[][] all = {{0, 2, 4, 1}, {0, 2, 3, 0}, {7, 2, 4, 1}, {0, 2, 3, 1}, {0, 0, 0, 1}};
        for (int t = 0; t < all.length; t++) {
            for (int what = 0; what < 4; what++) {
                Check.due("of " + t + ", " + what, x.of(t, what), all[t][what]);
            }
        }
        for (int what : new int[] {-1, 4, Integer.MIN_VALUE, Integer.MAX_VALUE}) {
            refused("of what " + what, y -> y.of(0, what), LineTables.NONE);
        }
        for (int t : OUTSIDE) {
            refused("of table " + t, y -> y.of(t, 0), LineTables.NONE);
        }
    }

    private static void place() {
        LineTables x = sample();
        Check.due("place of row 0", x.place(0, 0), 0);
        Check.due("place of row 1", x.place(0, 1), 2);
        Check.due("place of a turned row", x.place(3, 0), 2);
        refused("place of row 2", y -> y.place(0, 2), LineTables.NONE);
        refused("place in a loose table", y -> y.place(1, 0), LineTables.NONE);
        refused("place in a new table", y -> y.place(7, 0), LineTables.NONE);
        for (int n : BAD_COLUMNS) {
            refused("place of row " + n, y -> y.place(0, n), LineTables.NONE);
        }
        for (int t : OUTSIDE) {
            refused("place in table " + t, y -> y.place(t, 0), LineTables.NONE);
        }
    }

    private static void sign() {
        LineTables x = sample();
        Check.due("sign above 0", x.sign(0, 0, 0), 1);
        Check.due("sign of 0", x.sign(0, 0, 2), 0);
        Check.due("sign below 0", x.sign(0, 0, 3), -1);
        Check.due("sign in a loose table", x.sign(1, 0, 1), -1);
        Check.due("sign of a residue", x.sign(2, 0, 3), 1);
        Check.due("the place is above 0", x.sign(3, 0, 2), 1);
        refused("sign in row 2", y -> y.sign(0, 2, 0), 0);
        for (int n : BAD_COLUMNS) {
            refused("sign in row " + n, y -> y.sign(0, n, 0), 0);
            refused("sign in column " + n, y -> y.sign(0, 0, n), 0);
        }
        for (int t : OUTSIDE) {
            refused("sign in table " + t, y -> y.sign(t, 0, 0), 0);
        }
    }

    private static void digit() {
        LineTables x = sample();
        Check.due("digit of a size", x.digit(0, 0, 3, 0), 9);
        Check.due("digit of 0", x.digit(0, 0, 2, 0), 0);
        Check.due("digit of a loose table", x.digit(1, 1, 2, 0), 999);
        for (int i : new int[] {1, 2, 9, 10, 1 << 28, Integer.MAX_VALUE}) {
            Check.due("digit behind the end, " + i, x.digit(0, 0, 3, i), 0);
        }
        for (int i : new int[] {-1, Integer.MIN_VALUE}) {
            refused("digit " + i, y -> y.digit(0, 0, 0, i), LineTables.NONE);
        }
        refused("digit in row 2", y -> y.digit(0, 2, 0, 0), LineTables.NONE);
        for (int n : BAD_COLUMNS) {
            refused("digit in row " + n, y -> y.digit(0, n, 0, 0), LineTables.NONE);
            refused("digit in column " + n, y -> y.digit(0, 0, n, 0), LineTables.NONE);
        }
        for (int t : OUTSIDE) {
            refused("digit in table " + t, y -> y.digit(t, 0, 0, 0), LineTables.NONE);
        }
    }

    /** Rows 999, -998 one step on from each other: reduced, they have powers of both. */
    private static void largeNumbers() {
        LineTables x = new LineTables();
        x.begin(0, 0, 11, 12);
        for (int row = 0; row < 11; row++) {
            x.put(0, row, row, 999);
            x.put(0, row, row + 1, -998);
        }
        Check.due("reduce powers", x.reduce(0), 11);
        for (int row = 0; row < 11; row++) {
            int power = 11 - row;
            Check.due("at the place", Check.number(x, 0, row, row), BigInteger.valueOf(999).pow(power));
            Check.due("in the last column", Check.number(x, 0, row, 11), BigInteger.valueOf(998).pow(power).negate());
        }
        Check.due("sign of many digits above 0", x.sign(0, 0, 0), 1);
        Check.due("sign of many digits below 0", x.sign(0, 0, 11), -1);
        Check.due("the dual of powers", x.dual(1, 0), 1);
        BigInteger last = BigInteger.valueOf(999).pow(11);
        Check.due("its last number", Check.number(x, 1, 0, 11), last);
        Check.due("its first number", Check.number(x, 1, 0, 0), BigInteger.valueOf(998).pow(11));
    }
}

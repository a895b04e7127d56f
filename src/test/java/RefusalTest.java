import java.util.function.Function;
import java.util.function.IntFunction;

/**
 * Each way in which a call is refused: what it answers, and that nothing has changed, neither in what
 * is told of all tables nor in what later calls make of them.
 */
public final class RefusalTest {
    private static final String NOTHING = "A call that is refused changes nothing.";
    private static final String BEGIN = "Answers true; false when t, the field, rows or columns are not such.";
    private static final String PUT = "Answers true; false when it is not such, or the table is reduced.";
    private static final String REDUCE = "Answers how many rows it has; NONE when there is none such.";
    private static final String TURN =
            "Answers that one; NONE when the table is loose, there are none such, or the row has 0 there.";
    private static final String DUAL = "Answers how many rows it has; NONE when t is loose, or there is none such.";
    private static final String LEAVE = "Answers how many rows it has; NONE when t is loose, there are none such, "
            + "or the set has other columns or is below 0.";
    private static final String SUM = "Answers how many rows it has; NONE when one is loose, there are none such, "
            + "their fields differ, or there would be more than 12 columns.";
    private static final String OF = "What = 0 the field, 1 rows, 2 columns, 3: 1 when it is reduced, else 0; "
            + "NONE when there is none such, or for another what.";
    private static final String PLACE = "The place of a row of a reduced table; NONE when there is none such.";
    private static final String SIGN = "-1, 0, 1: the sign of a number as it is told; 0 also when there is none such.";
    private static final String DIGIT = "NONE when there is none such, or i is below 0.";

    private static final int NONE = LineTables.NONE;
    private static final int LEAST = Integer.MIN_VALUE;
    private static final int MOST = Integer.MAX_VALUE;
    private static final int[] BELOW = {-1, -2, -8, -12, -65536, LEAST + 1, LEAST};
    /** Behind the last table; 256 and the like are 0 to those who keep too few bits. */
    private static final int[] NO_TABLE = {8, 9, 12, 256, 65536, 1 << 30, MOST};
    /** Behind the sample's rows, of which no table has more than two. */
    private static final int[] NO_ROW = {2, 3, 4, 11, 12, 13, 256, 1 << 28, 1 << 30, MOST};
    /** Behind the four columns of tables 0 and 2. */
    private static final int[] NO_COLUMN = {4, 5, 8, 11, 12, 13, 256, 1 << 28, 1 << 30, MOST};
    private static final int REDUCED = 0;
    private static final int LOOSE = 1;
    private static final int RESIDUES = 2;
    private static final int TURNED = 3;
    private static final int LOOSE_RESIDUES = 4;
    private static final int NINE_COLUMNS = 6;
    private static final int NEW = 7;
    /** Where a result that should not be made would show: its field, size and numbers are like no other's. */
    private static final int FILLED = LOOSE_RESIDUES;

    public static void main(String[] args) {
        Check.sentences(RefusalTest.class);
    }

    private static <A> void refused(String call, Function<Run, A> made, A answer) {
        Run x = Sample.make();
        Check.due(call, made.apply(x), answer);
        Check.due(call + ", and what is told then", x.state(), Sample.STATE);
        Sample.goOn(x);
        Check.due(call + ", and what is told later", x.state(), Sample.LATER);
    }

    private static <A> void refusedEach(String call, int[] values, IntFunction<Function<Run, A>> made, A answer) {
        for (int value : values) {
            refused(call + ", " + value, made.apply(value), answer);
        }
    }

    @Sentence(NOTHING)
    static void theSampleAlone() {
        Run x = Sample.make();
        Check.due("the sample", x.state(), Sample.STATE);
        Sample.goOn(x);
        Check.due("the sample later", x.state(), Sample.LATER);
    }

    /** A table of 12 rows and 12 columns, where nothing of an array is left behind the last. */
    private static Run full() {
        Run x = new Run().noRows(0, 0, 12);
        x.dual(0, 0);
        return x;
    }

    @Sentence({TURN, LEAVE, SUM, PLACE, SIGN, DIGIT, NOTHING})
    static void behindAFullTable() {
        Run x = full();
        Check.due("turn row 12", x.turn(0, 12, 11), NONE);
        Check.due("turn to column 12", x.turn(0, 11, 12), NONE);
        Check.due("leave column 12", x.leave(0, 0, 4096, false), NONE);
        Check.due("leave zeros of column 12", x.leave(0, 0, 4096, true), NONE);
        Check.due("sum to 24 columns", x.sum(0, 0, 0), NONE);
        Check.due("place of row 12", x.place(0, 12), NONE);
        Check.due("sign in row 12", x.sign(0, 12, 11), 0);
        Check.due("sign in column 12", x.sign(0, 11, 12), 0);
        Check.due("digit in row 12", x.digit(0, 12, 11, 0), NONE);
        Check.due("digit in column 12", x.digit(0, 11, 12, 0), NONE);
        Check.due("what these changed", x.table(0), full().table(0));
    }

    @Sentence({PUT, NOTHING})
    static void putBehindAFullTable() {
        Run x = new Run();
        x.begin(0, 0, 12, 12);
        Check.due("put into row 12", x.put(0, 12, 11, 1), false);
        Check.due("put into column 12", x.put(0, 11, 12, 1), false);
        Check.due("put into column 12 of row 0", x.put(0, 0, 12, 1), false);
        Run twin = new Run();
        twin.begin(0, 0, 12, 12);
        Check.due("what these changed", x.table(0), twin.table(0));
    }

    // begin

    @Sentence({BEGIN, NOTHING})
    static void beginTableBelow() {
        refusedEach("begin, table below 0", BELOW, t -> x -> x.begin(t, 0, 1, 1), false);
    }

    @Sentence({BEGIN, NOTHING})
    static void beginTableAbove() {
        refusedEach("begin, table above 7", NO_TABLE, t -> x -> x.begin(t, 0, 1, 1), false);
    }

    @Sentence({BEGIN, NOTHING})
    static void beginFieldBelow() {
        int[] fields = {-1, -2, -3, -251, LEAST, LEAST + 1};
        refusedEach("begin, field below 0", fields, field -> x -> x.begin(0, field, 1, 1), false);
    }

    @Sentence({BEGIN, NOTHING})
    static void beginFieldOne() {
        refused("begin, field 1", x -> x.begin(0, 1, 1, 1), false);
    }

    @Sentence({BEGIN, NOTHING})
    static void beginFieldNoPrime() {
        for (int d = 2; d * d <= 251; d++) {
            for (int field = d * d; field <= 251; field += d) {
                int product = field;
                Check.due("begin, field " + product, new Run().begin(0, product, 1, 1), false);
            }
        }
        int[] fields = {4, 6, 9, 25, 49, 121, 169, 221, 247, 249, 250};
        refusedEach("begin, field that is no prime", fields, field -> x -> x.begin(1, field, 2, 3), false);
    }

    @Sentence({BEGIN, NOTHING})
    static void beginFieldAbove() {
        int[] fields = {252, 253, 256, 257, 258, 263, 65537, 65536 + 7, MOST};
        refusedEach("begin, field above 251", fields, field -> x -> x.begin(0, field, 1, 1), false);
    }

    @Sentence({BEGIN, NOTHING})
    static void beginRowsBelow() {
        refusedEach("begin, rows below 0", BELOW, rows -> x -> x.begin(0, 0, rows, 1), false);
    }

    @Sentence({BEGIN, NOTHING})
    static void beginRowsAbove() {
        int[] amounts = {13, 14, 256, 65536 + 3, MOST};
        refusedEach("begin, rows above 12", amounts, rows -> x -> x.begin(0, 0, rows, 1), false);
    }

    @Sentence({BEGIN, NOTHING})
    static void beginColumnsBelow() {
        refusedEach("begin, columns below 0", BELOW, columns -> x -> x.begin(1, 0, 1, columns), false);
    }

    @Sentence({BEGIN, NOTHING})
    static void beginColumnsAbove() {
        int[] amounts = {13, 14, 256, 65536 + 3, MOST};
        refusedEach("begin, columns above 12", amounts, columns -> x -> x.begin(1, 0, 1, columns), false);
    }

    // put

    @Sentence({PUT, NOTHING})
    static void putTableBelow() {
        refusedEach("put, table below 0", BELOW, t -> x -> x.put(t, 0, 0, 1), false);
    }

    @Sentence({PUT, NOTHING})
    static void putTableAbove() {
        refusedEach("put, table above 7", NO_TABLE, t -> x -> x.put(t, 0, 0, 1), false);
    }

    @Sentence({PUT, NOTHING})
    static void putRowBelow() {
        refusedEach("put, row below 0", BELOW, row -> x -> x.put(LOOSE, row, 0, 1), false);
    }

    @Sentence({PUT, NOTHING})
    static void putRowBehind() {
        refusedEach("put, row behind the last", NO_ROW, row -> x -> x.put(LOOSE, row, 0, 1), false);
        refused("put, row behind the only one", x -> x.put(LOOSE_RESIDUES, 1, 0, 1), false);
    }

    @Sentence({PUT, NOTHING})
    static void putColumnBelow() {
        refusedEach("put, column below 0", BELOW, column -> x -> x.put(LOOSE, 1, column, 1), false);
    }

    @Sentence({PUT, NOTHING})
    static void putColumnBehind() {
        int[] behind = {3, 4, 5, 11, 12, 13, 256, 1 << 28, MOST};
        refusedEach("put, column behind the last", behind, column -> x -> x.put(LOOSE, 0, column, 1), false);
        refused("put, column behind the second", x -> x.put(LOOSE_RESIDUES, 0, 2, 1), false);
    }

    @Sentence({PUT, NOTHING})
    static void putAbove999() {
        int[] values = {1000, 1001, 65536, 1 << 30, MOST};
        refusedEach("put, above 999", values, v -> x -> x.put(LOOSE, 0, 0, v), false);
        refusedEach("put a residue, above 999", values, v -> x -> x.put(LOOSE_RESIDUES, 0, 0, v), false);
    }

    @Sentence({PUT, NOTHING})
    static void putBelow999() {
        int[] values = {-1000, -1001, -65536, LEAST + 1, LEAST};
        refusedEach("put, below -999", values, v -> x -> x.put(LOOSE, 1, 2, v), false);
        refusedEach("put a residue, below -999", values, v -> x -> x.put(LOOSE_RESIDUES, 0, 1, v), false);
    }

    @Sentence({PUT, NOTHING})
    static void putIntoReduced() {
        refused("put into a reduced table", x -> x.put(REDUCED, 0, 0, 1), false);
        refused("put what is there into a reduced table", x -> x.put(REDUCED, 0, 0, 4), false);
        refused("put into a reduced table of residues", x -> x.put(RESIDUES, 1, 3, 2), false);
        refused("put into a turned table", x -> x.put(TURNED, 1, 1, 0), false);
        refused("put into a table without rows", x -> x.put(NINE_COLUMNS, 0, 0, 1), false);
        refused("put into a new table", x -> x.put(NEW, 0, 0, 1), false);
    }

    // reduce

    @Sentence({REDUCE, NOTHING})
    static void reduceTableBelow() {
        refusedEach("reduce, table below 0", BELOW, t -> x -> x.reduce(t), NONE);
    }

    @Sentence({REDUCE, NOTHING})
    static void reduceTableAbove() {
        refusedEach("reduce, table above 7", NO_TABLE, t -> x -> x.reduce(t), NONE);
    }

    // turn

    @Sentence({TURN, NOTHING})
    static void turnTableBelow() {
        refusedEach("turn, table below 0", BELOW, t -> x -> x.turn(t, 0, 1), NONE);
    }

    @Sentence({TURN, NOTHING})
    static void turnTableAbove() {
        refusedEach("turn, table above 7", NO_TABLE, t -> x -> x.turn(t, 0, 1), NONE);
    }

    @Sentence({TURN, NOTHING})
    static void turnLoose() {
        refused("turn a loose table", x -> x.turn(LOOSE, 0, 1), NONE);
        refused("turn a loose table, a number 1", x -> x.turn(LOOSE, 1, 0), NONE);
        refused("turn a loose table of residues", x -> x.turn(LOOSE_RESIDUES, 0, 1), NONE);
    }

    @Sentence({TURN, NOTHING})
    static void turnRowBelow() {
        refusedEach("turn, row below 0", BELOW, r -> x -> x.turn(REDUCED, r, 3), NONE);
    }

    @Sentence({TURN, NOTHING})
    static void turnRowBehind() {
        refusedEach("turn, row behind the last", NO_ROW, r -> x -> x.turn(REDUCED, r, 3), NONE);
        refused("turn a row of a table without rows", x -> x.turn(NINE_COLUMNS, 0, 0), NONE);
        refused("turn a row of a new table", x -> x.turn(NEW, 0, 0), NONE);
    }

    @Sentence({TURN, NOTHING})
    static void turnColumnBelow() {
        refusedEach("turn, column below 0", BELOW, column -> x -> x.turn(RESIDUES, 1, column), NONE);
    }

    @Sentence({TURN, NOTHING})
    static void turnColumnBehind() {
        refusedEach("turn, column behind the last", NO_COLUMN, column -> x -> x.turn(RESIDUES, 0, column), NONE);
        refused("turn, column behind the third", x -> x.turn(TURNED, 0, 3), NONE);
    }

    @Sentence({TURN, NOTHING})
    static void turnToZero() {
        refused("turn to another row's place", x -> x.turn(REDUCED, 0, 2), NONE);
        refused("turn to another row's place, the first", x -> x.turn(REDUCED, 1, 0), NONE);
        refused("turn to a 0 that is no place", x -> x.turn(REDUCED, 1, 1), NONE);
        refused("turn to a residue 0", x -> x.turn(RESIDUES, 1, 1), NONE);
        refused("turn to a residue 0 at a place", x -> x.turn(RESIDUES, 0, 2), NONE);
        refused("turn a turned table to a 0", x -> x.turn(TURNED, 0, 1), NONE);
    }

    // dual

    @Sentence({DUAL, NOTHING})
    static void dualOfLoose() {
        refused("dual of a loose table", x -> x.dual(FILLED, LOOSE), NONE);
        refused("dual of a loose table to a new one", x -> x.dual(NEW, LOOSE), NONE);
        refused("dual of a loose table to itself", x -> x.dual(LOOSE, LOOSE), NONE);
        refused("dual of a loose table of residues", x -> x.dual(RESIDUES, LOOSE_RESIDUES), NONE);
    }

    @Sentence({DUAL, NOTHING})
    static void dualTableBelow() {
        refusedEach("dual of a table below 0", BELOW, t -> x -> x.dual(FILLED, t), NONE);
    }

    @Sentence({DUAL, NOTHING})
    static void dualTableAbove() {
        refusedEach("dual of a table above 7", NO_TABLE, t -> x -> x.dual(FILLED, t), NONE);
    }

    @Sentence({DUAL, NOTHING})
    static void dualToBelow() {
        refusedEach("dual to a table below 0", BELOW, to -> x -> x.dual(to, TURNED), NONE);
    }

    @Sentence({DUAL, NOTHING})
    static void dualToAbove() {
        refusedEach("dual to a table above 7", NO_TABLE, to -> x -> x.dual(to, TURNED), NONE);
    }

    // leave

    private static void refusedLeave(String call, int[] values, IntFunction<LeaveCall> made) {
        for (boolean zero : new boolean[] {false, true}) {
            refusedEach("leave, " + zero + ", " + call, values, v -> x -> made.apply(v).on(x, zero), NONE);
        }
    }

    private interface LeaveCall {
        int on(Run x, boolean zero);
    }

    @Sentence({LEAVE, NOTHING})
    static void leaveOfLoose() {
        int[] loose = {LOOSE, LOOSE_RESIDUES};
        refusedLeave("of a loose table", loose, t -> (x, zero) -> x.leave(FILLED, t, 1, zero));
        refusedLeave("of a loose table to itself", loose, t -> (x, zero) -> x.leave(t, t, 0, zero));
    }

    @Sentence({LEAVE, NOTHING})
    static void leaveTableBelow() {
        refusedLeave("of a table below 0", BELOW, t -> (x, zero) -> x.leave(FILLED, t, 0, zero));
    }

    @Sentence({LEAVE, NOTHING})
    static void leaveTableAbove() {
        refusedLeave("of a table above 7", NO_TABLE, t -> (x, zero) -> x.leave(FILLED, t, 0, zero));
    }

    @Sentence({LEAVE, NOTHING})
    static void leaveToBelow() {
        refusedLeave("to a table below 0", BELOW, to -> (x, zero) -> x.leave(to, TURNED, 1, zero));
    }

    @Sentence({LEAVE, NOTHING})
    static void leaveToAbove() {
        refusedLeave("to a table above 7", NO_TABLE, to -> (x, zero) -> x.leave(to, TURNED, 1, zero));
    }

    @Sentence({LEAVE, NOTHING})
    static void leaveSetOfOtherColumns() {
        int[] sets = {16, 17, 31, 32, 4096, 65536 + 1, 1 << 30, MOST};
        refusedLeave("a set of other columns", sets, set -> (x, zero) -> x.leave(FILLED, REDUCED, set, zero));
        int[] three = {8, 9, 16, 4096};
        refusedLeave("a set behind three columns", three, set -> (x, zero) -> x.leave(FILLED, TURNED, set, zero));
        int[] nine = {1 << 9, 1 << 10, 1 << 12, (1 << 10) - 1};
        refusedLeave("a set behind nine columns", nine, set -> (x, zero) -> x.leave(REDUCED, NINE_COLUMNS, set, zero));
        int[] none = {1, 2, 4096, MOST};
        refusedLeave("a set of no columns", none, set -> (x, zero) -> x.leave(REDUCED, NEW, set, zero));
    }

    @Sentence({LEAVE, NOTHING})
    static void leaveSetBelow() {
        int[] sets = {-1, -2, -16, LEAST, LEAST + 1, LEAST + 15};
        refusedLeave("a set below 0", sets, set -> (x, zero) -> x.leave(FILLED, REDUCED, set, zero));
        refusedLeave("a set below 0, no columns", sets, set -> (x, zero) -> x.leave(REDUCED, NEW, set, zero));
    }

    // sum

    @Sentence({SUM, NOTHING})
    static void sumOfLooseFirst() {
        refused("sum of a loose table", x -> x.sum(FILLED, LOOSE, TURNED), NONE);
        refused("sum of a loose table to itself", x -> x.sum(LOOSE, LOOSE, TURNED), NONE);
    }

    @Sentence({SUM, NOTHING})
    static void sumOfLooseSecond() {
        refused("sum with a loose table", x -> x.sum(FILLED, TURNED, LOOSE), NONE);
        refused("sum of two loose tables", x -> x.sum(FILLED, LOOSE, LOOSE), NONE);
        refused("sum of loose residues", x -> x.sum(FILLED, LOOSE_RESIDUES, LOOSE_RESIDUES), NONE);
    }

    @Sentence({SUM, NOTHING})
    static void sumToBelow() {
        refusedEach("sum to a table below 0", BELOW, to -> x -> x.sum(to, TURNED, REDUCED), NONE);
    }

    @Sentence({SUM, NOTHING})
    static void sumToAbove() {
        refusedEach("sum to a table above 7", NO_TABLE, to -> x -> x.sum(to, TURNED, REDUCED), NONE);
    }

    @Sentence({SUM, NOTHING})
    static void sumFirstBelow() {
        refusedEach("sum of a table below 0", BELOW, a -> x -> x.sum(FILLED, a, TURNED), NONE);
    }

    @Sentence({SUM, NOTHING})
    static void sumFirstAbove() {
        refusedEach("sum of a table above 7", NO_TABLE, a -> x -> x.sum(FILLED, a, TURNED), NONE);
    }

    @Sentence({SUM, NOTHING})
    static void sumSecondBelow() {
        refusedEach("sum with a table below 0", BELOW, b -> x -> x.sum(FILLED, TURNED, b), NONE);
    }

    @Sentence({SUM, NOTHING})
    static void sumSecondAbove() {
        refusedEach("sum with a table above 7", NO_TABLE, b -> x -> x.sum(FILLED, TURNED, b), NONE);
    }

    @Sentence({SUM, NOTHING})
    static void sumOfTwoFields() {
        refused("sum of rationals and residues", x -> x.sum(FILLED, REDUCED, RESIDUES), NONE);
        refused("sum of residues and rationals", x -> x.sum(RESIDUES, RESIDUES, REDUCED), NONE);
        refused("sum of a turned table and residues", x -> x.sum(FILLED, TURNED, RESIDUES), NONE);
        refused("sum of residues and a turned table", x -> x.sum(TURNED, RESIDUES, TURNED), NONE);
        refused("sum of residues and no rational columns", x -> x.sum(REDUCED, RESIDUES, NEW), NONE);
        refused("sum of no rational columns and residues", x -> x.sum(REDUCED, NEW, RESIDUES), NONE);
    }

    @Sentence({SUM, NOTHING})
    static void sumOfTwoPrimes() {
        Run x = new Run().reduced(0, 5, "1 2").reduced(1, 7, "1 3").noRows(2, 11, 0);
        String before = x.state();
        Check.due("sum of 5 and 7", x.sum(3, 0, 1), NONE);
        Check.due("sum of 7 and 5", x.sum(0, 1, 0), NONE);
        Check.due("sum of 5 and 11, no columns", x.sum(0, 0, 2), NONE);
        Check.due("what these changed", x.state(), before);
    }

    @Sentence({SUM, NOTHING})
    static void sumOfTooManyColumns() {
        refused("sum of 9 and 4 columns", x -> x.sum(FILLED, NINE_COLUMNS, REDUCED), NONE);
        refused("sum of 4 and 9 columns", x -> x.sum(REDUCED, REDUCED, NINE_COLUMNS), NONE);
        refused("sum of 9 and 9 columns", x -> x.sum(FILLED, NINE_COLUMNS, NINE_COLUMNS), NONE);
        Run x = new Run().noRows(0, 3, 12).noRows(1, 3, 1);
        String before = x.state();
        Check.due("sum of 12 and 1 columns", x.sum(2, 0, 1), NONE);
        Check.due("sum of 1 and 12 columns", x.sum(2, 1, 0), NONE);
        Check.due("sum of 12 and 12 columns", x.sum(0, 0, 0), NONE);
        Check.due("what these changed", x.state(), before);
    }

    // of, place, sign, digit

    @Sentence({OF, NOTHING})
    static void ofTableBelow() {
        for (int what = 0; what < 4; what++) {
            int asked = what;
            refusedEach("of a table below 0, " + asked, BELOW, t -> x -> x.of(t, asked), NONE);
        }
    }

    @Sentence({OF, NOTHING})
    static void ofTableAbove() {
        for (int what = 0; what < 4; what++) {
            int asked = what;
            refusedEach("of a table above 7, " + asked, NO_TABLE, t -> x -> x.of(t, asked), NONE);
        }
    }

    @Sentence({OF, NOTHING})
    static void ofAnotherWhat() {
        int[] others = {-1, -4, LEAST, 4, 5, 256, 65536, MOST};
        refusedEach("of, another what", others, what -> x -> x.of(REDUCED, what), NONE);
        refusedEach("of a loose table, another what", others, what -> x -> x.of(LOOSE, what), NONE);
    }

    @Sentence({PLACE, NOTHING})
    static void placeTableBelow() {
        refusedEach("place, table below 0", BELOW, t -> x -> x.place(t, 0), NONE);
    }

    @Sentence({PLACE, NOTHING})
    static void placeTableAbove() {
        refusedEach("place, table above 7", NO_TABLE, t -> x -> x.place(t, 0), NONE);
    }

    @Sentence({PLACE, NOTHING})
    static void placeRowBelow() {
        refusedEach("place, row below 0", BELOW, r -> x -> x.place(REDUCED, r), NONE);
    }

    @Sentence({PLACE, NOTHING})
    static void placeRowBehind() {
        refusedEach("place, row behind the last", NO_ROW, r -> x -> x.place(REDUCED, r), NONE);
        refused("place in a table without rows", x -> x.place(NINE_COLUMNS, 0), NONE);
        refused("place in a new table", x -> x.place(NEW, 0), NONE);
    }

    @Sentence({PLACE, NOTHING})
    static void placeInLoose() {
        refused("place in a loose table", x -> x.place(LOOSE, 0), NONE);
        refused("place in a loose table, the last row", x -> x.place(LOOSE, 1), NONE);
        refused("place in a loose table of residues", x -> x.place(LOOSE_RESIDUES, 0), NONE);
    }

    @Sentence({SIGN, NOTHING})
    static void signTableBelow() {
        refusedEach("sign, table below 0", BELOW, t -> x -> x.sign(t, 0, 0), 0);
    }

    @Sentence({SIGN, NOTHING})
    static void signTableAbove() {
        refusedEach("sign, table above 7", NO_TABLE, t -> x -> x.sign(t, 0, 0), 0);
    }

    @Sentence({SIGN, NOTHING})
    static void signRowBelow() {
        refusedEach("sign, row below 0", BELOW, row -> x -> x.sign(REDUCED, row, 0), 0);
    }

    @Sentence({SIGN, NOTHING})
    static void signRowBehind() {
        refusedEach("sign, row behind the last", NO_ROW, row -> x -> x.sign(REDUCED, row, 3), 0);
        refused("sign in a table without rows", x -> x.sign(NINE_COLUMNS, 0, 0), 0);
        refused("sign in a new table", x -> x.sign(NEW, 0, 0), 0);
    }

    @Sentence({SIGN, NOTHING})
    static void signColumnBelow() {
        refusedEach("sign, column below 0", BELOW, column -> x -> x.sign(RESIDUES, 1, column), 0);
    }

    @Sentence({SIGN, NOTHING})
    static void signColumnBehind() {
        refusedEach("sign, column behind the last", NO_COLUMN, column -> x -> x.sign(REDUCED, 0, column), 0);
        refused("sign in a loose table, column behind the third", x -> x.sign(LOOSE, 0, 3), 0);
    }

    @Sentence({DIGIT, NOTHING})
    static void digitTableBelow() {
        refusedEach("digit, table below 0", BELOW, t -> x -> x.digit(t, 0, 0, 0), NONE);
    }

    @Sentence({DIGIT, NOTHING})
    static void digitTableAbove() {
        refusedEach("digit, table above 7", NO_TABLE, t -> x -> x.digit(t, 0, 0, 0), NONE);
    }

    @Sentence({DIGIT, NOTHING})
    static void digitRowBelow() {
        refusedEach("digit, row below 0", BELOW, row -> x -> x.digit(REDUCED, row, 0, 0), NONE);
    }

    @Sentence({DIGIT, NOTHING})
    static void digitRowBehind() {
        refusedEach("digit, row behind the last", NO_ROW, row -> x -> x.digit(REDUCED, row, 0, 0), NONE);
        refused("digit in a table without rows", x -> x.digit(NINE_COLUMNS, 0, 0, 0), NONE);
        refused("digit in a new table", x -> x.digit(NEW, 0, 0, 0), NONE);
    }

    @Sentence({DIGIT, NOTHING})
    static void digitColumnBelow() {
        refusedEach("digit, column below 0", BELOW, column -> x -> x.digit(LOOSE, 1, column, 0), NONE);
    }

    @Sentence({DIGIT, NOTHING})
    static void digitColumnBehind() {
        refusedEach("digit, column behind the last", NO_COLUMN, column -> x -> x.digit(REDUCED, 0, column, 0), NONE);
        refused("digit behind its end, column behind the third", x -> x.digit(LOOSE, 0, 3, 9), NONE);
    }

    @Sentence({DIGIT, NOTHING})
    static void digitBelow() {
        refusedEach("digit below 0", BELOW, i -> x -> x.digit(REDUCED, 0, 3, i), NONE);
        refusedEach("digit below 0 of a number 0", BELOW, i -> x -> x.digit(LOOSE, 0, 0, i), NONE);
    }
}

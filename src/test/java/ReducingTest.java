import java.math.BigInteger;

/** Promises 4 and 5: reduce and turn, at their edges. */
public final class ReducingTest {
    private static final String REDUCE = "The table is reduced (if it is loose).";
    private static final String REDUCE_ANSWERS = "Answers how many rows it has; NONE when there is none such.";
    private static final String TURN =
            "Row r of a reduced table gets a column as its place, in the stead of the one that it had.";
    private static final String TURN_ANSWERS =
            "Answers that one; NONE when the table is loose, there are none such, or the row has 0 there.";

    public static void main(String[] args) {
        Check.sentences(ReducingTest.class);
    }

    @Sentence(REDUCE)
    static void aLooseTable() {
        Run x = new Run().loose(0, 0, "0 -5 7 | 1 0 999");
        Check.due("reduce", x.reduce(0), 2);
        Check.due("reduced", x.table(0), "field 0, 2 x 3, reduced: at 0: 1 0 999 | at 1: 0 5 -7");
    }

    @Sentence(REDUCE)
    static void aTurnedTableStays() {
        Run x = new Run().reduced(0, 0, "2 0 3 | 0 1 5").reduced(1, 7, "2 0 3 | 0 1 5");
        x.turn(0, 0, 2);
        x.turn(1, 0, 2);
        Check.due("reduce", x.reduce(0), 2);
        Check.due("reduce residues", x.reduce(1), 2);
        Check.due("as it was turned", x.table(0), "field 0, 2 x 3, reduced: at 2: 2 0 3 | at 1: -10 3 0");
        Check.due("as residues were turned", x.table(1), "field 7, 2 x 3, reduced: at 2: 3 0 1 | at 1: 6 1 0");
    }

    @Sentence({REDUCE, REDUCE_ANSWERS})
    static void aTableWithoutRows() {
        Run x = new Run();
        x.begin(0, 3, 0, 5);
        Check.due("reduce", x.reduce(0), 0);
        Check.due("reduced", x.table(0), "field 3, 0 x 5, reduced");
        Check.due("reduce again", x.reduce(0), 0);
    }

    @Sentence({REDUCE, REDUCE_ANSWERS})
    static void aTableWithoutColumns() {
        Run x = new Run();
        x.begin(0, 0, 12, 0);
        Check.due("reduce", x.reduce(0), 0);
        Check.due("reduced", x.table(0), "field 0, 0 x 0, reduced");
    }

    @Sentence(REDUCE)
    static void otherTablesStay() {
        Run x = new Run().loose(0, 0, "2 4").loose(1, 0, "2 4").loose(2, 0, "2 4");
        x.reduce(1);
        Check.due("before it", x.table(0), "field 0, 1 x 2, loose: 2 4");
        Check.due("it", x.table(1), "field 0, 1 x 2, reduced: at 0: 1 2");
        Check.due("behind it", x.table(2), "field 0, 1 x 2, loose: 2 4");
    }

    @Sentence(REDUCE_ANSWERS)
    static void rowsThatAreLeft() {
        Run x = new Run().loose(0, 0, "1 2 3 | 2 4 6 | 0 0 1");
        Check.due("reduce", x.reduce(0), 2);
        Check.due("reduce again", x.reduce(0), 2);
        Check.due("rows", x.of(0, 1), 2);
        Check.due("there is no third", x.place(0, 2), LineTables.NONE);
        Check.due("nor a number of it", x.digit(0, 2, 2, 0), LineTables.NONE);
    }

    /** Rows 999, -998, each one column on: reduced, they have powers of both. */
    @Sentence(REDUCE)
    static void exactWithLargeNumbers() {
        Run x = new Run();
        x.begin(0, 0, 11, 12);
        for (int row = 0; row < 11; row++) {
            x.put(0, row, row, 999);
            x.put(0, row, row + 1, -998);
        }
        Check.due("reduce", x.reduce(0), 11);
        for (int row = 0; row < 11; row++) {
            int power = 11 - row;
            Check.due("at the place", x.number(0, row, row), BigInteger.valueOf(999).pow(power));
            Check.due("in the last column", x.number(0, row, 11), BigInteger.valueOf(998).pow(power).negate());
        }
    }

    @Sentence(TURN)
    static void exactWithLargeTurns() {
        Run x = new Run();
        x.begin(0, 0, 11, 12);
        for (int row = 0; row < 11; row++) {
            x.put(0, row, row, 999);
            x.put(0, row, row + 1, -998);
        }
        x.reduce(0);
        Check.due("turn the first row to the last column", x.turn(0, 0, 11), 0);
        BigInteger large = BigInteger.valueOf(998).pow(11);
        Check.due("at its place", x.number(0, 0, 11), large);
        Check.due("where it was", x.number(0, 0, 0), BigInteger.valueOf(999).pow(11).negate());
        for (int row = 1; row < 11; row++) {
            Check.due("at the place of row " + row, x.number(0, row, row), BigInteger.valueOf(998).pow(row));
            Check.due("in column 0", x.number(0, row, 0), BigInteger.valueOf(999).pow(row).negate());
            Check.due("in the last column", x.sign(0, row, 11), 0);
        }
    }

    @Sentence({TURN, TURN_ANSWERS})
    static void rowsKeepTheirNumbers() {
        Run x = new Run().reduced(0, 0, "1 0 2 3 | 0 1 4 5");
        Check.due("turn row 0 behind row 1", x.turn(0, 0, 3), 0);
        Check.due("row 0 is row 0", x.table(0), "field 0, 2 x 4, reduced: at 3: 1 0 2 3 | at 1: -5 3 2 0");
        Check.due("turn row 1 before", x.turn(0, 1, 0), 1);
        Check.due("row 1 is row 1", x.table(0), "field 0, 2 x 4, reduced: at 3: 0 1 4 5 | at 0: 5 -3 -2 0");
    }

    @Sentence({TURN, TURN_ANSWERS})
    static void toThePlaceThatItHas() {
        Run x = new Run().reduced(0, 0, "2 0 3 | 0 1 5").reduced(1, 5, "2 0 3 | 0 1 4");
        Check.due("turn", x.turn(0, 0, 0), 0);
        Check.due("turn the last", x.turn(0, 1, 1), 1);
        Check.due("it stays", x.table(0), "field 0, 2 x 3, reduced: at 0: 2 0 3 | at 1: 0 1 5");
        Check.due("turn residues", x.turn(1, 1, 1), 1);
        Check.due("they stay", x.table(1), "field 5, 2 x 3, reduced: at 0: 1 0 4 | at 1: 0 1 4");
    }

    @Sentence({TURN, TURN_ANSWERS})
    static void thereAndBack() {
        Run x = new Run().reduced(0, 0, "4 8 0 -9 | 0 0 12 -11").reduced(1, 251, "4 8 0 -9 | 0 0 12 -11");
        String rationals = x.table(0);
        String residues = x.table(1);
        for (int t = 0; t < 2; t++) {
            Check.due("there", x.turn(t, 1, 3), 2);
            Check.due("its place", x.place(t, 1), 3);
            Check.due("the other's place", x.place(t, 0), 0);
            Check.due("and back", x.turn(t, 1, 2), 3);
        }
        Check.due("rationals as they were", x.table(0), rationals);
        Check.due("residues as they were", x.table(1), residues);
    }

    @Sentence(TURN)
    static void theLastRowToTheLastColumn() {
        Run x = new Run();
        x.begin(0, 0, 11, 12);
        for (int row = 0; row < 11; row++) {
            x.put(0, row, row, 1);
            x.put(0, row, 11, row + 1);
        }
        x.reduce(0);
        Check.due("turn", x.turn(0, 10, 11), 10);
        Check.due("its place", x.place(0, 10), 11);
        Check.due("at its place", x.number(0, 10, 11), BigInteger.valueOf(11));
        Check.due("where it was", x.number(0, 10, 10), BigInteger.ONE);
        Check.due("row 0 in column 0", x.number(0, 0, 0), BigInteger.valueOf(11));
        Check.due("row 0 in column 10", x.number(0, 0, 10), BigInteger.valueOf(-1));
        Check.due("row 0 in column 11", x.sign(0, 0, 11), 0);
    }

    @Sentence(TURN)
    static void rowsWithZeroThereStay() {
        Run x = new Run().reduced(0, 0, "3 0 0 2 0 | 0 5 0 0 1 | 0 0 7 4 0");
        x.turn(0, 0, 3);
        Check.due("row 1 has 0 there", x.table(0),
                "field 0, 3 x 5, reduced: at 3: 3 0 0 2 0 | at 1: 0 5 0 0 1 | at 2: -6 0 7 0 0");
    }

    @Sentence(TURN)
    static void residuesHaveOneAtTheNewPlace() {
        Run x = new Run().reduced(0, 251, "1 0 250 | 0 1 249");
        Check.due("turn", x.turn(0, 0, 2), 0);
        Check.due("turned", x.table(0), "field 251, 2 x 3, reduced: at 2: 250 0 1 | at 1: 249 1 0");
        x.reduced(0, 2, "1 0 1 | 0 1 1");
        Check.due("turn 2", x.turn(0, 1, 2), 1);
        Check.due("turned 2", x.table(0), "field 2, 2 x 3, reduced: at 0: 1 1 0 | at 2: 0 1 1");
    }

    @Sentence(TURN_ANSWERS)
    static void whatWasLeftCanBeTurnedTo() {
        Run x = new Run().reduced(0, 0, "1 2 0 | 0 0 1");
        Check.due("0 at another's place", x.turn(0, 0, 2), LineTables.NONE);
        Check.due("not 0 in column 1", x.turn(0, 0, 1), 0);
        Check.due("not 0 in the old place", x.turn(0, 0, 0), 1);
        Check.due("as it was", x.table(0), "field 0, 2 x 3, reduced: at 0: 1 2 0 | at 2: 0 0 1");
    }
}

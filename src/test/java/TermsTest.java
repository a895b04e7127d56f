import java.math.BigInteger;
import java.util.Arrays;
import java.util.TreeSet;

/** The document's terms and their edges. */
public final class TermsTest {
    private static final String CALLS =
            "An object is used for at most 512 calls after it has been made; what later calls answer is free.";
    private static final String TABLES = "There are eight TABLES, 0 .. 7, each of a FIELD: 0 for the rational numbers, "
            + "or a prime 2 .. 251 for its residues; with ROWS and COLUMNS, 0 .. 12 of each, none at first (of field 0).";
    private static final String LOOSE = "A table is LOOSE or REDUCED; at first they are reduced.";
    private static final String SETS = "SETS of columns are told as sums of 2^j for columns j.";
    private static final String REDUCED = "REDUCED: its rows are so that each has a PLACE, a column in which it has 1 and "
            + "all other rows have 0; there are as many rows as the space of rows has dimensions.";
    private static final String ONE_TABLE = "For a set of columns that can be the places there is just one such table "
            + "but for the order of rows.";
    private static final String TOLD = "Of a reduced table over the rationals each row is told times the least number "
            + "above 0 by which all its numbers become whole (so what it has at its place is a whole number above 0); "
            + "of residues each is told as 0 .. p - 1.";
    private static final String FROM_LEFT = "Reducing goes through columns from the left: a column becomes the place of "
            + "the next row if some row of the space that has 0 in all columns before is not 0 there; rows are in the "
            + "order of their places.";

    public static void main(String[] args) {
        Check.sentences(TermsTest.class);
    }

    @Sentence(CALLS)
    static void rightToTheLastCall() {
        Run x = new Run();
        x.begin(7, 0, 11, 12);
        for (int row = 0; row < 11; row++) {
            x.put(7, row, row, 1);
            x.put(7, row, row + 1, row == 0 ? -512 : 512);
        }
        x.reduce(7);
        // The last number of row 0 has the size 2^99, so its highest digit is 2^3.
        while (x.calls() < Run.CALLS - 2) {
            Check.due("call " + (x.calls() + 1), x.digit(7, 0, 11, 6), 8);
        }
        Check.due("call 511", x.turn(7, 0, 11), 0);
        Check.due("call 512", x.digit(7, 0, 0, 0), 1);
        Check.due("calls made", x.calls(), Run.CALLS);
    }

    @Sentence(TABLES)
    static void eightTablesEachForItself() {
        int[] fields = {0, 2, 3, 0, 251, 127, 0, 5};
        Run x = new Run();
        for (int t = 0; t < 8; t++) {
            Check.due("begin " + t, x.begin(t, fields[t], 1, t), true);
            if (t > 0) {
                Check.due("put " + t, x.put(t, 0, t - 1, t), true);
            }
        }
        Check.due("eight tables", x.state(), ""
                + "0: field 0, 1 x 0, loose: \n1: field 2, 1 x 1, loose: 1\n2: field 3, 1 x 2, loose: 0 2\n"
                + "3: field 0, 1 x 3, loose: 0 0 3\n4: field 251, 1 x 4, loose: 0 0 0 4\n"
                + "5: field 127, 1 x 5, loose: 0 0 0 0 5\n6: field 0, 1 x 6, loose: 0 0 0 0 0 6\n"
                + "7: field 5, 1 x 7, loose: 0 0 0 0 0 0 2\n");
    }

    @Sentence(TABLES)
    static void everyPrimeIsAField() {
        for (int p = 2; p <= 251; p++) {
            if (BigInteger.valueOf(p).isProbablePrime(30)) {
                Run x = new Run();
                Check.due("begin field " + p, x.begin(0, p, 1, 2), true);
                x.put(0, 0, 0, -1);
                x.put(0, 0, 1, 1);
                x.reduce(0);
                Check.due("1 by -1 of field " + p, x.table(0), "field " + p + ", 1 x 2, reduced: at 0: 1 " + (p - 1));
            }
        }
    }

    @Sentence(TABLES)
    static void everyResidueHasAnInverse() {
        for (int p : new int[] {2, 3, 131, 251}) {
            for (int v = 1; v < p; v++) {
                Run x = new Run().reduced(0, p, v + " 1");
                int inverse = BigInteger.valueOf(v).modInverse(BigInteger.valueOf(p)).intValue();
                Check.due("1 by " + v + " of field " + p, x.table(0), "field " + p + ", 1 x 2, reduced: at 0: 1 " + inverse);
            }
        }
    }

    @Sentence(TABLES)
    static void theSmallestPrime() {
        Run x = new Run().reduced(0, 2, "1 1 0 | 0 1 1 | 1 0 1");
        Check.due("1 + 1 is 0", x.table(0), "field 2, 2 x 3, reduced: at 0: 1 0 1 | at 1: 0 1 1");
    }

    @Sentence(TABLES)
    static void theLargestPrime() {
        Run x = new Run().reduced(0, 251, "250 250 | 1 250");
        Check.due("products up to 250 times 250", x.table(0), "field 251, 2 x 2, reduced: at 0: 1 0 | at 1: 0 1");
        x.reduced(0, 251, "2 250 1 | 250 250 250");
        Check.due("thirds of 251", x.table(0), "field 251, 2 x 3, reduced: at 0: 1 0 168 | at 1: 0 1 84");
    }

    @Sentence(TABLES)
    static void theFieldZeroIsTheRationals() {
        Run x = new Run().reduced(0, 0, "1 1 0 | 0 1 1 | 1 0 1");
        Check.due("1 + 1 is not 0", x.table(0), "field 0, 3 x 3, reduced: at 0: 1 0 0 | at 1: 0 1 0 | at 2: 0 0 1");
    }

    @Sentence(TABLES)
    static void twelveRowsAndTwelveColumns() {
        Run x = new Run();
        Check.due("begin 12 x 12", x.begin(7, 0, 12, 12), true);
        Check.due("put in the last corner", x.put(7, 11, 11, -999), true);
        Check.due("rows", x.of(7, 1), 12);
        Check.due("columns", x.of(7, 2), 12);
        Check.due("the last corner", x.number(7, 11, 11), BigInteger.valueOf(-999));
        Check.due("the first corner", x.number(7, 0, 0), BigInteger.ZERO);
        Check.due("no row 12", x.put(7, 12, 11, 1), false);
        Check.due("no column 12", x.put(7, 11, 12, 1), false);
    }

    @Sentence(TABLES)
    static void rowsWithoutColumnsAndColumnsWithoutRows() {
        Run x = new Run();
        Check.due("begin 12 x 0", x.begin(0, 0, 12, 0), true);
        Check.due("12 x 0", x.of(0, 1), 12);
        Check.due("no column", x.put(0, 0, 0, 1), false);
        Check.due("begin 0 x 12", x.begin(1, 2, 0, 12), true);
        Check.due("0 x 12", x.table(1), "field 2, 0 x 12, loose");
        Check.due("no row", x.put(1, 0, 0, 1), false);
    }

    @Sentence({TABLES, LOOSE})
    static void atFirst() {
        Run x = new Run();
        for (int t = 0; t < 8; t++) {
            Check.due("table " + t + " at first", x.table(t), "field 0, 0 x 0, reduced");
        }
    }

    @Sentence(LOOSE)
    static void looseUntilReduced() {
        Run x = new Run().loose(0, 0, "1 2").loose(1, 3, "1 2");
        Check.due("loose", x.of(0, 3), 0);
        Check.due("reduce", x.reduce(0), 1);
        Check.due("reduced", x.of(0, 3), 1);
        Check.due("the other one is loose", x.of(1, 3), 0);
        x.begin(0, 0, 1, 1);
        Check.due("loose again", x.of(0, 3), 0);
    }

    /** Column j of the only row has j + 1, so what is left shows which column went. */
    @Sentence(SETS)
    static void aSetOfEachColumn() {
        for (int j = 0; j < 12; j++) {
            Run x = new Run().reduced(0, 0, "1 2 3 4 5 6 7 8 9 10 11 12");
            Check.due("leave column " + j, x.leave(1, 0, 1 << j, false), 1);
            StringBuilder left = new StringBuilder("field 0, 1 x 11, reduced: at 0:");
            for (int column = 0; column < 12; column++) {
                left.append(column == j ? "" : " " + (column + 1));
            }
            Check.due("without column " + j, x.table(1), left.toString());
        }
    }

    @Sentence(SETS)
    static void aSetIsASum() {
        Run x = new Run().reduced(0, 0, "1 2 3 4 5 6 7 8 9 10 11 12");
        Check.due("leave 2^0 + 2^2 + 2^11", x.leave(1, 0, 1 + 4 + 2048, false), 1);
        Check.due("without 0, 2, 11", x.table(1), "field 0, 1 x 9, reduced: at 0: 2 4 5 6 7 8 9 10 11");
    }

    @Sentence(SETS)
    static void theEmptySet() {
        Run x = new Run().reduced(0, 0, "1 2 3");
        for (boolean zero : new boolean[] {false, true}) {
            Check.due("leave no column", x.leave(1, 0, 0, zero), 1);
            Check.due("all columns", x.table(1), "field 0, 1 x 3, reduced: at 0: 1 2 3");
        }
    }

    @Sentence(SETS)
    static void theFullSet() {
        Run x = new Run().reduced(0, 0, "1 2 3 4 5 6 7 8 9 10 11 12");
        for (boolean zero : new boolean[] {false, true}) {
            Check.due("leave each column", x.leave(1, 0, 4095, zero), 0);
            Check.due("no column", x.table(1), "field 0, 0 x 0, reduced");
        }
    }

    /** What a reduced table of either kind has at places, whatever made it. */
    @Sentence(REDUCED)
    static void placesAreNotZeroInOneRowAlone() {
        for (int field : new int[] {0, 2, 251}) {
            Run x = new Run().reduced(0, field, "3 5 7 1 0 | 1 9 2 8 4 | 4 6 6 1 3");
            x.dual(1, 0);
            x.leave(2, 0, 2, false);
            x.leave(3, 0, 4, true);
            x.sum(4, 1, 2);
            x.turn(0, 1, 4);
            for (int t = 0; t < 5; t++) {
                placesOf(x, t, field);
            }
        }
    }

    private static void placesOf(Run x, int t, int field) {
        int rows = x.of(t, 1);
        for (int r = 0; r < rows; r++) {
            int place = x.place(t, r);
            for (int row = 0; row < rows; row++) {
                Check.due("sign at a place", x.sign(t, row, place), row == r ? 1 : 0);
            }
            if (field != 0) {
                Check.due("a residue at its place", x.digit(t, r, place, 0), 1);
            }
        }
    }

    @Sentence(REDUCED)
    static void noDimension() {
        Run x = new Run();
        x.begin(0, 0, 12, 12);
        Check.due("rows of zeros", x.reduce(0), 0);
        Check.due("none is left", x.table(0), "field 0, 0 x 12, reduced");
        x.begin(0, 2, 1, 1);
        x.put(0, 0, 0, 2);
        Check.due("a residue that is 0", x.reduce(0), 0);
        x.begin(0, 3, 12, 0);
        Check.due("rows without columns", x.reduce(0), 0);
        Check.due("none is left of them", x.table(0), "field 3, 0 x 0, reduced");
    }

    @Sentence(REDUCED)
    static void oneDimensionOfTwelveRows() {
        Run x = new Run();
        x.begin(0, 0, 12, 3);
        for (int row = 0; row < 12; row++) {
            x.put(0, row, 0, 2 * row - 22);
            x.put(0, row, 2, 33 - 3 * row);
        }
        Check.due("rows that are multiples of one", x.reduce(0), 1);
        Check.due("the one", x.table(0), "field 0, 1 x 3, reduced: at 0: 2 0 -3");
    }

    @Sentence(REDUCED)
    static void asManyDimensionsAsColumns() {
        for (int field : new int[] {0, 2, 251}) {
            Run x = new Run();
            x.begin(0, field, 12, 12);
            for (int row = 0; row < 12; row++) {
                for (int column = 0; column <= row; column++) {
                    x.put(0, row, 11 - column, column == row ? 1 : 2 * column - 21);
                }
            }
            Check.due("twelve dimensions", x.reduce(0), 12);
            for (int row = 0; row < 12; row++) {
                Check.due("place " + row, x.place(0, row), row);
                for (int column = 0; column < 12; column++) {
                    Check.due("1 or 0", x.sign(0, row, column), row == column ? 1 : 0);
                }
                Check.due("1", x.digit(0, row, row, 0), 1);
            }
        }
    }

    @Sentence(REDUCED)
    static void moreRowsThanColumns() {
        Run x = new Run().reduced(0, 0, "2 4 | 3 6 | 5 7 | 1 1");
        Check.due("two dimensions of four rows", x.table(0), "field 0, 2 x 2, reduced: at 0: 1 0 | at 1: 0 1");
    }

    /** The rows of a table with two places, sorted, told without their order. */
    private static TreeSet<String> rowsOf(Run x, int t) {
        return new TreeSet<>(Arrays.asList(x.table(t).split(": ", 2)[1].split(" \\| ")));
    }

    @Sentence(ONE_TABLE)
    static void oneTableForItsPlaces() {
        String numbers = "2 3 5 7 | 1 -4 6 9";
        Run x = new Run().reduced(0, 0, numbers).reduced(1, 0, numbers);
        x.turn(0, 0, 2);
        x.turn(0, 1, 3);
        x.turn(1, 0, 3);
        x.turn(1, 1, 2);
        x.reduced(2, 0, "1 -4 6 9 | 3 -1 11 16 | 2 3 5 7");
        x.turn(2, 1, 2);
        x.turn(2, 0, 1);
        x.turn(2, 0, 3);
        Check.due("places 2 and 3 by another way", rowsOf(x, 1), rowsOf(x, 0));
        Check.due("places 2 and 3 of another basis", rowsOf(x, 2), rowsOf(x, 0));
        x.turn(0, 0, 0);
        x.turn(0, 1, 1);
        Check.due("and back", x.table(0), "field 0, 2 x 4, reduced: at 0: 11 0 38 55 | at 1: 0 11 -7 -11");
    }

    @Sentence(TOLD)
    static void timesTheLeastNumber() {
        Run x = new Run().reduced(0, 0, "12 8 -6 4 | 0 0 0 0");
        Check.due("less than what was put", x.table(0), "field 0, 1 x 4, reduced: at 0: 6 4 -3 2");
        x.reduced(0, 0, "999 999 999");
        Check.due("1 where all are whole", x.table(0), "field 0, 1 x 3, reduced: at 0: 1 1 1");
        x.reduced(0, 0, "7 0 0");
        Check.due("1 where no other number is", x.table(0), "field 0, 1 x 3, reduced: at 0: 1 0 0");
        x.reduced(0, 0, "4 0 1 0 | 0 6 0 1");
        Check.due("each row for itself", x.table(0), "field 0, 2 x 4, reduced: at 0: 4 0 1 0 | at 1: 0 6 0 1");
        x.reduced(0, 0, "12 9 10 0");
        Check.due("of quarters and sixths", x.table(0), "field 0, 1 x 4, reduced: at 0: 12 9 10 0");
    }

    @Sentence(TOLD)
    static void aboveZeroAtThePlace() {
        Run x = new Run().reduced(0, 0, "-3 6 -5 | 0 -1 2");
        Check.due("though below 0 was put", x.table(0), "field 0, 2 x 3, reduced: at 0: 3 0 -7 | at 1: 0 1 -2");
        x.turn(0, 0, 2);
        Check.due("though below 0 was there", x.table(0), "field 0, 2 x 3, reduced: at 2: -3 0 7 | at 1: -6 7 0");
    }

    @Sentence(TOLD)
    static void residuesFromZeroToTheLast() {
        Run x = new Run().reduced(0, 251, "1 0 1 -1 | 0 1 -250 250");
        Check.due("251", x.table(0), "field 251, 2 x 4, reduced: at 0: 1 0 1 250 | at 1: 0 1 1 250");
        x.reduced(0, 2, "1 -1 2 | 0 0 -999");
        Check.due("2", x.table(0), "field 2, 2 x 3, reduced: at 0: 1 1 0 | at 2: 0 0 1");
        x.reduced(0, 7, "2 1 -4");
        Check.due("not made whole but divided", x.table(0), "field 7, 1 x 3, reduced: at 0: 1 4 5");
    }

    @Sentence(FROM_LEFT)
    static void columnsOfZerosAreNoPlaces() {
        Run x = new Run().reduced(0, 0, "0 0 0 2 | 0 3 0 1");
        Check.due("the first and one between", x.table(0), "field 0, 2 x 4, reduced: at 1: 0 1 0 0 | at 3: 0 0 0 1");
    }

    @Sentence(FROM_LEFT)
    static void theLastColumnCanBeAPlace() {
        Run x = new Run();
        x.begin(0, 0, 12, 12);
        x.put(0, 11, 11, -7);
        Check.due("one row", x.reduce(0), 1);
        Check.due("its place", x.place(0, 0), 11);
        Check.due("1 there", x.number(0, 0, 11), BigInteger.ONE);
    }

    @Sentence(FROM_LEFT)
    static void columnsThatHangOnEarlierOnes() {
        Run x = new Run().reduced(0, 0, "1 2 1 | 2 4 3");
        Check.due("column 1 is no place", x.table(0), "field 0, 2 x 3, reduced: at 0: 1 2 0 | at 2: 0 0 1");
        x.reduced(0, 5, "1 2 1 | 2 4 3");
        Check.due("of residues too", x.table(0), "field 5, 2 x 3, reduced: at 0: 1 2 0 | at 2: 0 0 1");
    }

    @Sentence(FROM_LEFT)
    static void rowsInTheOrderOfTheirPlaces() {
        Run x = new Run().reduced(0, 0, "0 0 5 1 | 0 2 0 3 | 3 0 0 2");
        Check.due("turned upside down", x.table(0),
                "field 0, 3 x 4, reduced: at 0: 3 0 0 2 | at 1: 0 2 0 3 | at 2: 0 0 5 1");
        x.reduced(0, 3, "0 0 2 1 | 0 2 0 1 | 2 0 0 1");
        Check.due("of residues too", x.table(0),
                "field 3, 3 x 4, reduced: at 0: 1 0 0 2 | at 1: 0 1 0 2 | at 2: 0 0 1 2");
    }
}

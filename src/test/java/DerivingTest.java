import java.math.BigInteger;

/** Promises 6 to 8: dual, leave and sum, at their edges. */
public final class DerivingTest {
    private static final String DUAL = "Table to becomes the reduced one of all rows that have the product 0 with each "
            + "row of t (the sum of the products in each column).";
    private static final String DUAL_ANSWERS =
            "Answers how many rows it has; NONE when t is loose, or there is none such.";
    private static final String LEAVE = "Table to becomes the reduced one of what rows of t's space have in the columns "
            + "that are not in the set; if zero, only of those rows of its space that have 0 in all columns of the set.";
    private static final String LEAVE_ANSWERS = "Answers how many rows it has; NONE when t is loose, there are none such, "
            + "or the set has other columns or is below 0.";
    private static final String SUM = "Table to becomes the reduced one with the columns of a, then those of b: of a's "
            + "rows with 0 in the latter, and of b's with 0 in the former.";
    private static final String SUM_ANSWERS = "Answers how many rows it has; NONE when one is loose, there are none such, "
            + "their fields differ, or there would be more than 12 columns.";

    public static void main(String[] args) {
        Check.sentences(DerivingTest.class);
    }

    // dual

    @Sentence({DUAL, DUAL_ANSWERS})
    static void dualOfNoRows() {
        Run x = new Run().noRows(0, 0, 3).noRows(1, 2, 2);
        Check.due("dual", x.dual(2, 0), 3);
        Check.due("all rows", x.table(2), "field 0, 3 x 3, reduced: at 0: 1 0 0 | at 1: 0 1 0 | at 2: 0 0 1");
        Check.due("dual of residues", x.dual(2, 1), 2);
        Check.due("all rows of residues", x.table(2), "field 2, 2 x 2, reduced: at 0: 1 0 | at 1: 0 1");
    }

    @Sentence({DUAL, DUAL_ANSWERS})
    static void dualOfNoRowsOfTwelveColumns() {
        Run x = new Run().noRows(0, 0, 12);
        Check.due("dual", x.dual(7, 0), 12);
        for (int row = 0; row < 12; row++) {
            Check.due("place", x.place(7, row), row);
            for (int column = 0; column < 12; column++) {
                Check.due("1 or 0", x.digit(7, row, column, 0), row == column ? 1 : 0);
            }
        }
        Check.due("dual of the dual", x.dual(7, 7), 0);
        Check.due("no rows again", x.table(7), "field 0, 0 x 12, reduced");
    }

    @Sentence({DUAL, DUAL_ANSWERS})
    static void dualOfAllRows() {
        Run x = new Run().reduced(0, 0, "1 2 | 3 4").reduced(1, 5, "1 2 | 3 4");
        Check.due("dual", x.dual(2, 0), 0);
        Check.due("no rows", x.table(2), "field 0, 0 x 2, reduced");
        Check.due("dual of residues", x.dual(2, 1), 0);
        Check.due("no rows of residues", x.table(2), "field 5, 0 x 2, reduced");
    }

    @Sentence({DUAL, DUAL_ANSWERS})
    static void dualOfNothing() {
        Run x = new Run().loose(0, 3, "1 2");
        Check.due("dual", x.dual(0, 7), 0);
        Check.due("nothing", x.table(0), "field 0, 0 x 0, reduced");
    }

    @Sentence(DUAL)
    static void dualOfEachSide() {
        Run x = new Run().reduced(0, 0, "4 8 0 -9 | 0 0 12 -11");
        Check.due("dual", x.dual(1, 0), 2);
        Check.due("the dual", x.table(1), "field 0, 2 x 4, reduced: at 0: 27 0 11 12 | at 1: 0 27 22 24");
        Check.due("dual of the dual", x.dual(2, 1), 2);
        Check.due("what was there", x.table(2), x.table(0));
    }

    @Sentence(DUAL)
    static void dualReducesFromTheLeft() {
        Run x = new Run().reduced(0, 0, "2 0 3 | 0 1 5").reduced(3, 7, "1 0 3 | 0 1 0");
        x.turn(0, 0, 2);
        x.dual(1, 0);
        Check.due("of a turned table", x.table(1), "field 0, 1 x 3, reduced: at 0: 3 10 -2");
        x.turn(1, 0, 2);
        Check.due("the dual turned", x.table(1), "field 0, 1 x 3, reduced: at 2: -3 -10 2");
        x.dual(1, 1);
        Check.due("and its dual", x.table(1), "field 0, 2 x 3, reduced: at 0: 2 0 3 | at 1: 0 1 5");
        x.turn(3, 0, 2);
        x.dual(3, 3);
        Check.due("of turned residues", x.table(3), "field 7, 1 x 3, reduced: at 0: 1 0 2");
    }

    @Sentence(DUAL)
    static void dualToItself() {
        Run x = new Run().reduced(5, 0, "1 2 3");
        Check.due("dual", x.dual(5, 5), 2);
        Check.due("in its own table", x.table(5), "field 0, 2 x 3, reduced: at 0: 3 0 -1 | at 1: 0 3 -2");
    }

    /** Rows whose product with themselves is 0 are in the dual too. */
    @Sentence(DUAL)
    static void dualOfResidues() {
        Run x = new Run().reduced(0, 2, "1 1").reduced(1, 5, "1 2").reduced(2, 251, "1 250 2");
        x.dual(3, 0);
        Check.due("of 2", x.table(3), "field 2, 1 x 2, reduced: at 0: 1 1");
        x.dual(3, 1);
        Check.due("of 5", x.table(3), "field 5, 1 x 2, reduced: at 0: 1 2");
        x.dual(3, 2);
        Check.due("of 251", x.table(3), "field 251, 2 x 3, reduced: at 0: 1 0 125 | at 1: 0 1 126");
    }

    @Sentence(DUAL)
    static void dualReplacesWhatWasThere() {
        Run x = new Run().reduced(0, 0, "1 2").loose(1, 7, "1 2 3 | 4 5 6 | 1 1 1").reduced(2, 3, "1 1 0 | 0 1 1");
        String before = x.table(0);
        x.dual(1, 0);
        Check.due("a loose table", x.table(1), "field 0, 1 x 2, reduced: at 0: 2 -1");
        x.dual(2, 0);
        Check.due("a reduced table", x.table(2), "field 0, 1 x 2, reduced: at 0: 2 -1");
        Check.due("what it was made of", x.table(0), before);
        x.turn(1, 0, 1);
        Check.due("each for itself", x.table(2), "field 0, 1 x 2, reduced: at 0: 2 -1");
    }

    @Sentence(DUAL)
    static void dualWithLargeNumbers() {
        Run x = new Run();
        x.begin(0, 0, 11, 12);
        for (int row = 0; row < 11; row++) {
            x.put(0, row, row, 999);
            x.put(0, row, row + 1, -998);
        }
        x.reduce(0);
        Check.due("dual", x.dual(0, 0), 1);
        for (int column = 0; column < 12; column++) {
            BigInteger due = BigInteger.valueOf(998).pow(11 - column).multiply(BigInteger.valueOf(999).pow(column));
            Check.due("column " + column, x.number(0, 0, column), due);
        }
    }

    // leave

    @Sentence({LEAVE, LEAVE_ANSWERS})
    static void leaveWithoutZero() {
        Run x = new Run().reduced(0, 0, "4 8 0 -9 | 0 0 12 -11");
        Check.due("leave the first column", x.leave(1, 0, 1, false), 2);
        Check.due("the others", x.table(1), "field 0, 2 x 3, reduced: at 0: 8 0 -9 | at 1: 0 12 -11");
        Check.due("leave the last column", x.leave(1, 0, 8, false), 2);
        Check.due("with new divisors", x.table(1), "field 0, 2 x 3, reduced: at 0: 1 2 0 | at 2: 0 0 1");
        Check.due("leave two", x.leave(1, 0, 12, false), 1);
        Check.due("rows become fewer", x.table(1), "field 0, 1 x 2, reduced: at 0: 1 2");
    }

    @Sentence({LEAVE, LEAVE_ANSWERS})
    static void leaveWithZero() {
        Run x = new Run().reduced(0, 0, "4 8 0 -9 | 0 0 12 -11");
        Check.due("zeros in the first column", x.leave(1, 0, 1, true), 1);
        Check.due("one row", x.table(1), "field 0, 1 x 3, reduced: at 1: 0 12 -11");
        Check.due("zeros in the last column", x.leave(1, 0, 8, true), 1);
        Check.due("a row that is no row of the table", x.table(1), "field 0, 1 x 3, reduced: at 0: 11 22 -27");
        Check.due("zeros in two columns", x.leave(1, 0, 9, true), 0);
        Check.due("no row", x.table(1), "field 0, 0 x 2, reduced");
        Check.due("zeros in two columns that hang together", x.leave(1, 0, 3, true), 1);
        Check.due("one row of two columns", x.table(1), "field 0, 1 x 2, reduced: at 0: 12 -11");
    }

    @Sentence(LEAVE)
    static void leaveColumnsOfZeros() {
        Run x = new Run().reduced(0, 0, "1 0 2 | 0 0 0");
        Check.due("all rows have zeros there", x.leave(1, 0, 2, true), 1);
        Check.due("with zero", x.table(1), "field 0, 1 x 2, reduced: at 0: 1 2");
        Check.due("and without", x.leave(2, 0, 2, false), 1);
        Check.due("it is the same", x.table(2), x.table(1));
    }

    @Sentence({LEAVE, LEAVE_ANSWERS})
    static void leaveNoColumnOut() {
        Run x = new Run().reduced(0, 0, "2 0 3 | 0 1 5").reduced(1, 7, "2 0 3 | 0 1 5");
        x.turn(0, 0, 2);
        x.turn(1, 0, 2);
        for (boolean zero : new boolean[] {false, true}) {
            Check.due("leave no column out", x.leave(2, 0, 0, zero), 2);
            Check.due("from the left", x.table(2), "field 0, 2 x 3, reduced: at 0: 2 0 3 | at 1: 0 1 5");
            Check.due("leave no column of residues out", x.leave(2, 1, 0, zero), 2);
            Check.due("residues from the left", x.table(2), "field 7, 2 x 3, reduced: at 0: 1 0 5 | at 1: 0 1 5");
        }
    }

    @Sentence({LEAVE, LEAVE_ANSWERS})
    static void leaveAllColumnsOut() {
        Run x = new Run().reduced(0, 7, "1 0 3 | 0 1 5");
        for (boolean zero : new boolean[] {false, true}) {
            x.loose(1, 0, "9 9");
            Check.due("leave all columns out", x.leave(1, 0, 7, zero), 0);
            Check.due("nothing of the field", x.table(1), "field 7, 0 x 0, reduced");
        }
    }

    @Sentence({LEAVE, LEAVE_ANSWERS})
    static void leaveOfNoRows() {
        Run x = new Run().noRows(0, 3, 12);
        for (boolean zero : new boolean[] {false, true}) {
            Check.due("leave of no rows", x.leave(1, 0, 1 + 2048, zero), 0);
            Check.due("ten columns", x.table(1), "field 3, 0 x 10, reduced");
            Check.due("leave of nothing", x.leave(1, 7, 0, zero), 0);
            Check.due("nothing", x.table(1), "field 0, 0 x 0, reduced");
        }
    }

    @Sentence({LEAVE, LEAVE_ANSWERS})
    static void leaveOfAllRows() {
        Run x = new Run().reduced(0, 0, "1 2 3 | 4 5 6 | 7 8 8");
        Check.due("leave one of three", x.leave(1, 0, 2, false), 2);
        Check.due("all rows of two columns", x.table(1), "field 0, 2 x 2, reduced: at 0: 1 0 | at 1: 0 1");
        Check.due("zeros in one of three", x.leave(1, 0, 2, true), 2);
        Check.due("all rows of two columns too", x.table(1), "field 0, 2 x 2, reduced: at 0: 1 0 | at 1: 0 1");
    }

    @Sentence(LEAVE)
    static void leaveToItself() {
        Run x = new Run().reduced(2, 7, "1 4 0 5 | 0 0 1 5").reduced(3, 0, "1 4 0 5 | 0 0 1 5");
        Check.due("residues with zeros", x.leave(2, 2, 8, true), 1);
        Check.due("in their own table", x.table(2), "field 7, 1 x 3, reduced: at 0: 1 4 6");
        Check.due("rationals", x.leave(3, 3, 8, false), 2);
        Check.due("in their own table too", x.table(3), "field 0, 2 x 3, reduced: at 0: 1 4 0 | at 2: 0 0 1");
    }

    @Sentence(LEAVE)
    static void leaveOfATurnedTable() {
        Run x = new Run().reduced(0, 0, "1 0 2 3 | 0 1 4 5");
        x.turn(0, 0, 3);
        x.turn(0, 1, 2);
        String before = x.table(0);
        Check.due("zeros at the turned places", x.leave(1, 0, 4, true), 1);
        Check.due("one row", x.table(1), "field 0, 1 x 3, reduced: at 0: 2 -1 1");
        Check.due("leave both turned places", x.leave(1, 0, 12, false), 2);
        Check.due("two rows", x.table(1), "field 0, 2 x 2, reduced: at 0: 1 0 | at 1: 0 1");
        Check.due("what it was made of", x.table(0), before);
    }

    @Sentence(LEAVE)
    static void leaveTheLastOfTwelve() {
        Run x = new Run();
        x.begin(0, 0, 11, 12);
        for (int row = 0; row < 11; row++) {
            x.put(0, row, row, 1);
            x.put(0, row, 11, row + 1);
        }
        x.reduce(0);
        Check.due("leave column 11", x.leave(1, 0, 2048, false), 11);
        Check.due("the last row", x.number(1, 10, 10), BigInteger.ONE);
        Check.due("zeros in column 11", x.leave(1, 0, 2048, true), 10);
        for (int row = 0; row < 10; row++) {
            Check.due("at the place", x.number(1, row, row), BigInteger.valueOf(11));
            Check.due("in the last column", x.number(1, row, 10), BigInteger.valueOf(-(row + 1)));
        }
    }

    /** Leaving with zero is the dual of leaving without it, of the dual. */
    @Sentence({DUAL, LEAVE})
    static void leaveAndDual() {
        for (int field : new int[] {0, 2, 251}) {
            for (int set = 0; set < 32; set++) {
                Run x = new Run().reduced(0, field, "3 5 7 1 0 | 1 9 2 8 4 | 4 6 6 1 3");
                x.leave(1, 0, set, true);
                x.dual(2, 0);
                x.leave(2, 2, set, false);
                x.dual(2, 2);
                Check.due("field " + field + ", set " + set, x.table(1), x.table(2));
            }
        }
    }

    // sum

    @Sentence({SUM, SUM_ANSWERS})
    static void sumOfTwo() {
        Run x = new Run().reduced(0, 0, "4 8 0 -9 | 0 0 12 -11").reduced(1, 0, "2 3").loose(2, 7, "1 2 3");
        Check.due("sum", x.sum(2, 0, 1), 3);
        Check.due("a, then b", x.table(2),
                "field 0, 3 x 6, reduced: at 0: 4 8 0 -9 0 0 | at 2: 0 0 12 -11 0 0 | at 4: 0 0 0 0 2 3");
        Check.due("sum the other way", x.sum(2, 1, 0), 3);
        Check.due("b, then a", x.table(2),
                "field 0, 3 x 6, reduced: at 0: 2 3 0 0 0 0 | at 2: 0 0 4 8 0 -9 | at 4: 0 0 0 0 12 -11");
    }

    @Sentence(SUM)
    static void sumReducesFromTheLeft() {
        Run x = new Run().reduced(0, 0, "2 0 3 | 0 1 5").reduced(1, 7, "2 0 3 | 0 1 5");
        x.turn(0, 0, 2);
        x.turn(1, 0, 2);
        x.sum(2, 0, 7);
        Check.due("of a turned table", x.table(2), "field 0, 2 x 3, reduced: at 0: 2 0 3 | at 1: 0 1 5");
        x.sum(2, 1, 1);
        Check.due("of turned residues", x.table(2), "field 7, 4 x 6, reduced: at 0: 1 0 5 0 0 0 | "
                + "at 1: 0 1 5 0 0 0 | at 3: 0 0 0 1 0 5 | at 4: 0 0 0 0 1 5");
    }

    @Sentence({SUM, SUM_ANSWERS})
    static void sumWithNothing() {
        Run x = new Run().reduced(0, 0, "2 3").reduced(1, 5, "2 3").noRows(2, 5, 0);
        Check.due("nothing behind", x.sum(3, 0, 7), 1);
        Check.due("the same", x.table(3), x.table(0));
        Check.due("nothing before", x.sum(3, 7, 0), 1);
        Check.due("the same again", x.table(3), x.table(0));
        Check.due("nothing of residues", x.sum(3, 2, 1), 1);
        Check.due("the same residues", x.table(3), x.table(1));
        Check.due("nothing with nothing", x.sum(3, 7, 7), 0);
        Check.due("nothing", x.table(3), "field 0, 0 x 0, reduced");
    }

    @Sentence({SUM, SUM_ANSWERS})
    static void sumWithColumnsAlone() {
        Run x = new Run().reduced(0, 0, "2 3").noRows(1, 0, 2);
        Check.due("columns behind", x.sum(2, 0, 1), 1);
        Check.due("zeros behind", x.table(2), "field 0, 1 x 4, reduced: at 0: 2 3 0 0");
        Check.due("columns before", x.sum(2, 1, 0), 1);
        Check.due("zeros before", x.table(2), "field 0, 1 x 4, reduced: at 2: 0 0 2 3");
    }

    @Sentence({SUM, SUM_ANSWERS})
    static void sumToTwelveColumns() {
        Run x = new Run().noRows(0, 3, 11).noRows(1, 3, 1).noRows(2, 3, 12).noRows(3, 3, 0);
        Check.due("11 and 1", x.sum(4, 0, 1), 0);
        Check.due("12 columns", x.table(4), "field 3, 0 x 12, reduced");
        Check.due("12 and 0", x.sum(5, 2, 3), 0);
        Check.due("12 columns too", x.table(5), "field 3, 0 x 12, reduced");
        Check.due("0 and 12", x.sum(5, 3, 2), 0);
        Check.due("12 columns again", x.table(5), "field 3, 0 x 12, reduced");
    }

    @Sentence({SUM, SUM_ANSWERS})
    static void sumToTwelveRows() {
        for (int field : new int[] {0, 2}) {
            Run x = new Run().noRows(0, field, 6);
            x.dual(0, 0);
            Check.due("6 and 6", x.sum(0, 0, 0), 12);
            Check.due("rows", x.of(0, 1), 12);
            for (int row = 0; row < 12; row++) {
                for (int column = 0; column < 12; column++) {
                    Check.due("1 or 0", x.digit(0, row, column, 0), row == column ? 1 : 0);
                }
            }
        }
    }

    @Sentence(SUM)
    static void sumToOneOfThem() {
        Run x = new Run().reduced(0, 0, "1 2").reduced(1, 0, "3 4 5").reduced(2, 5, "1 3");
        x.sum(0, 0, 1);
        Check.due("to the first", x.table(0), "field 0, 2 x 5, reduced: at 0: 1 2 0 0 0 | at 2: 0 0 3 4 5");
        Check.due("the second stays", x.table(1), "field 0, 1 x 3, reduced: at 0: 3 4 5");
        x.sum(1, 0, 1);
        Check.due("to the second", x.table(1), "field 0, 3 x 8, reduced: at 0: 1 2 0 0 0 0 0 0 | "
                + "at 2: 0 0 3 4 5 0 0 0 | at 5: 0 0 0 0 0 3 4 5");
        x.sum(2, 2, 2);
        Check.due("of one, to itself", x.table(2), "field 5, 2 x 4, reduced: at 0: 1 3 0 0 | at 2: 0 0 1 3");
    }

    @Sentence(SUM)
    static void sumLeavesBothAsTheyWere() {
        Run x = new Run().reduced(0, 0, "2 0 3 | 0 1 5").reduced(1, 0, "1 999");
        x.turn(0, 0, 2);
        String first = x.table(0);
        String second = x.table(1);
        x.sum(2, 0, 1);
        x.turn(2, 0, 2);
        Check.due("the first", x.table(0), first);
        Check.due("the second", x.table(1), second);
    }
}

/** Promises 1 to 3: a new object, begin and put, at their edges. */
public final class MakingTest {
    private static final String NEW = "All tables without rows and columns.";
    private static final String BEGIN = "Table t becomes a loose one with numbers that are all 0.";
    private static final String BEGIN_ANSWERS = "Answers true; false when t, the field, rows or columns are not such.";
    private static final String PUT = "A number of a loose table becomes v, -999 .. 999 (as a residue).";
    private static final String PUT_ANSWERS = "Answers true; false when it is not such, or the table is reduced.";
    private static final int NONE = LineTables.NONE;

    public static void main(String[] args) {
        Check.sentences(MakingTest.class);
    }

    @Sentence(NEW)
    static void newTablesAreEmpty() {
        Run x = new Run();
        for (int t = 0; t < 8; t++) {
            Check.due("rows of " + t, x.of(t, 1), 0);
            Check.due("columns of " + t, x.of(t, 2), 0);
            Check.due("place in " + t, x.place(t, 0), NONE);
            Check.due("sign in " + t, x.sign(t, 0, 0), 0);
            Check.due("digit in " + t, x.digit(t, 0, 0, 0), NONE);
            Check.due("put into " + t, x.put(t, 0, 0, 0), false);
            Check.due("turn " + t, x.turn(t, 0, 0), NONE);
        }
    }

    @Sentence(NEW)
    static void newTablesAreReducedOnes() {
        Run x = new Run();
        Check.due("reduce", x.reduce(7), 0);
        Check.due("dual", x.dual(0, 7), 0);
        Check.due("leave", x.leave(1, 7, 0, false), 0);
        Check.due("leave zeros", x.leave(1, 7, 0, true), 0);
        Check.due("sum", x.sum(2, 7, 7), 0);
        Check.due("all are as they were", x.state(), new Run().state());
    }

    @Sentence(NEW)
    static void oneObjectIsNotAnother() {
        Run before = new Run();
        new Run().reduced(0, 3, "1 2");
        Check.due("an older object", before.table(0), "field 0, 0 x 0, reduced");
        Check.due("a newer object", new Run().table(0), "field 0, 0 x 0, reduced");
    }

    @Sentence(BEGIN)
    static void beginOverALooseTable() {
        Run x = new Run().loose(0, 0, "1 2 3 | 4 5 6");
        Check.due("begin", x.begin(0, 0, 2, 3), true);
        Check.due("zeros", x.table(0), "field 0, 2 x 3, loose: 0 0 0 | 0 0 0");
    }

    @Sentence(BEGIN)
    static void beginOverAReducedTable() {
        Run x = new Run().reduced(0, 0, "1 2 3 | 4 5 6");
        Check.due("begin", x.begin(0, 5, 2, 3), true);
        Check.due("loose, of the new field", x.table(0), "field 5, 2 x 3, loose: 0 0 0 | 0 0 0");
        Check.due("no place is left", x.place(0, 0), NONE);
    }

    @Sentence(BEGIN)
    static void oldNumbersDoNotComeBack() {
        Run x = new Run().loose(0, 0, "1 2 3 | 4 5 6 | 7 8 9");
        x.begin(0, 0, 1, 1);
        x.begin(0, 0, 3, 3);
        Check.due("after a smaller one", x.table(0), "field 0, 3 x 3, loose: 0 0 0 | 0 0 0 | 0 0 0");
        x.reduced(0, 0, "1 2 3 | 2 4 6 | 3 6 9");
        x.begin(0, 0, 3, 3);
        Check.due("after one that lost rows", x.table(0), "field 0, 3 x 3, loose: 0 0 0 | 0 0 0 | 0 0 0");
        x.reduced(1, 0, "5 0 0 | 0 5 0 | 0 0 5");
        x.leave(1, 1, 7, true);
        x.begin(1, 0, 3, 3);
        Check.due("after one that lost all", x.table(1), "field 0, 3 x 3, loose: 0 0 0 | 0 0 0 | 0 0 0");
    }

    @Sentence(BEGIN)
    static void largeNumbersDoNotComeBack() {
        Run x = new Run().reduced(0, 0, "999 -998 0 | 0 997 996");
        x.begin(0, 0, 2, 3);
        x.put(0, 0, 0, 1);
        x.put(0, 0, 2, -1);
        Check.due("of several digits", x.table(0), "field 0, 2 x 3, loose: 1 0 -1 | 0 0 0");
    }

    @Sentence(BEGIN)
    static void otherTablesStay() {
        Run x = new Run().loose(0, 0, "1 2").reduced(1, 3, "1 2").loose(2, 0, "3 4");
        x.begin(1, 0, 1, 1);
        Check.due("table 0", x.table(0), "field 0, 1 x 2, loose: 1 2");
        Check.due("table 2", x.table(2), "field 0, 1 x 2, loose: 3 4");
    }

    @Sentence({BEGIN, BEGIN_ANSWERS})
    static void nothingIsLooseToo() {
        Run x = new Run();
        Check.due("begin 0 x 0", x.begin(0, 2, 0, 0), true);
        Check.due("0 x 0", x.table(0), "field 2, 0 x 0, loose");
        Check.due("dual of it", x.dual(1, 0), NONE);
        Check.due("begin 0 x 3", x.begin(1, 0, 0, 3), true);
        Check.due("0 x 3", x.table(1), "field 0, 0 x 3, loose");
        Check.due("leave of it", x.leave(2, 1, 0, true), NONE);
        Check.due("begin 3 x 0", x.begin(2, 0, 3, 0), true);
        Check.due("3 rows", x.of(2, 1), 3);
        Check.due("loose", x.of(2, 3), 0);
        Check.due("sum of it", x.sum(3, 2, 2), NONE);
    }

    @Sentence(BEGIN_ANSWERS)
    static void beginAtTheEdges() {
        for (int t : new int[] {0, 7}) {
            for (int field : new int[] {0, 2, 251}) {
                for (int rows : new int[] {0, 12}) {
                    for (int columns : new int[] {0, 12}) {
                        Run x = new Run();
                        Check.due("begin at the edges", x.begin(t, field, rows, columns), true);
                        Check.due("its field", x.of(t, 0), field);
                        Check.due("its rows", x.of(t, 1), rows);
                        Check.due("its columns", x.of(t, 2), columns);
                        Check.due("it is loose", x.of(t, 3), 0);
                    }
                }
            }
        }
    }

    @Sentence(BEGIN)
    static void allOfTheLargestAreZeros() {
        Run x = new Run();
        x.begin(3, 0, 12, 12);
        for (int row = 0; row < 12; row++) {
            for (int column = 0; column < 12; column++) {
                Check.due("sign of " + row + ", " + column, x.sign(3, row, column), 0);
                Check.due("digit of " + row + ", " + column, x.digit(3, row, column, 0), 0);
            }
        }
    }

    @Sentence(PUT)
    static void theLargestAndTheLeast() {
        Run x = new Run();
        x.begin(0, 0, 1, 4);
        Check.due("put 999", x.put(0, 0, 0, 999), true);
        Check.due("put -999", x.put(0, 0, 1, -999), true);
        Check.due("put 998", x.put(0, 0, 2, 998), true);
        Check.due("put -998", x.put(0, 0, 3, -998), true);
        Check.due("what was put", x.table(0), "field 0, 1 x 4, loose: 999 -999 998 -998");
    }

    @Sentence(PUT)
    static void overWhatWasThere() {
        Run x = new Run().loose(0, 0, "5 -5 5").loose(1, 7, "5 5 5");
        for (int t = 0; t < 2; t++) {
            Check.due("put 0", x.put(t, 0, 0, 0), true);
            Check.due("put 3", x.put(t, 0, 1, 3), true);
        }
        Check.due("rationals", x.table(0), "field 0, 1 x 3, loose: 0 3 5");
        Check.due("residues", x.table(1), "field 7, 1 x 3, loose: 0 3 5");
    }

    @Sentence(PUT)
    static void oneNumberAlone() {
        Run x = new Run();
        x.begin(0, 0, 3, 3);
        x.begin(1, 0, 3, 3);
        x.put(0, 0, 2, 4);
        Check.due("the end of a row", x.table(0), "field 0, 3 x 3, loose: 0 0 4 | 0 0 0 | 0 0 0");
        x.put(0, 1, 0, 5);
        Check.due("the start of the next", x.table(0), "field 0, 3 x 3, loose: 0 0 4 | 5 0 0 | 0 0 0");
        Check.due("another table", x.table(1), "field 0, 3 x 3, loose: 0 0 0 | 0 0 0 | 0 0 0");
    }

    @Sentence(PUT)
    static void everyNumberOfTheLargest() {
        Run x = new Run();
        x.begin(0, 0, 12, 12);
        for (int row = 0; row < 12; row++) {
            for (int column = 0; column < 12; column++) {
                Check.due("put", x.put(0, row, column, -1 - 12 * row - column), true);
            }
        }
        for (int row = 0; row < 12; row++) {
            for (int column = 0; column < 12; column++) {
                Check.due("sign", x.sign(0, row, column), -1);
                Check.due("digit", x.digit(0, row, column, 0), 1 + 12 * row + column);
            }
        }
    }

    @Sentence(PUT)
    static void asAResidue() {
        Run x = new Run().loose(0, 251, "999 -999 250 251 252 -1 -250 -251 -252 502");
        Check.due("of 251", x.table(0), "field 251, 1 x 10, loose: 246 5 250 0 1 250 1 0 250 0");
        x.loose(1, 2, "999 -999 998 -998 1 -1 2 -2");
        Check.due("of 2", x.table(1), "field 2, 1 x 8, loose: 1 1 0 0 1 1 0 0");
        x.loose(2, 3, "-1 -2 -3 -4");
        Check.due("of 3", x.table(2), "field 3, 1 x 4, loose: 2 1 0 2");
    }

    @Sentence(PUT_ANSWERS)
    static void putAfterReducing() {
        Run x = new Run().loose(0, 0, "1 2");
        Check.due("put into a loose one", x.put(0, 0, 1, 3), true);
        x.reduce(0);
        Check.due("put into a reduced one", x.put(0, 0, 1, 4), false);
        Check.due("it stays", x.table(0), "field 0, 1 x 2, reduced: at 0: 1 3");
        x.begin(0, 0, 1, 2);
        Check.due("put into a new one", x.put(0, 0, 1, 4), true);
    }
}

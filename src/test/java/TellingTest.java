import java.math.BigInteger;

/** Promises 9 to 12: of, place, sign and digit, at their edges. */
public final class TellingTest {
    private static final String OF = "What = 0 the field, 1 rows, 2 columns, 3: 1 when it is reduced, else 0; "
            + "NONE when there is none such, or for another what.";
    private static final String PLACE = "The place of a row of a reduced table; NONE when there is none such.";
    private static final String SIGN = "-1, 0, 1: the sign of a number as it is told; 0 also when there is none such.";
    private static final String DIGIT = "Digit i (from 0, the lowest first) of a number's size as it is told, "
            + "to the base 65536; 0 behind its end.";
    private static final String NO_DIGIT = "NONE when there is none such, or i is below 0.";
    /** From 2^27 on, sixteen bits for each digit are more than an int can count. */
    private static final int[] BEHIND = {7, 8, 9, 10, 11, 100, 65536, 1 << 26, 1 << 27, (1 << 27) + 1, 1 << 28,
        (1 << 28) + 1, 1 << 30, Integer.MAX_VALUE};

    public static void main(String[] args) {
        Check.sentences(TellingTest.class);
    }

    @Sentence(OF)
    static void ofEachSort() {
        int[][] all = {{0, 2, 4, 1}, {0, 2, 3, 0}, {7, 2, 4, 1}, {0, 2, 3, 1}, {251, 1, 2, 0}, {0, 2, 3, 1},
            {0, 0, 9, 1}, {0, 0, 0, 1}};
        Run x = Sample.make();
        for (int t = 0; t < 8; t++) {
            for (int what = 0; what < 4; what++) {
                Check.due("of " + t + ", " + what, x.of(t, what), all[t][what]);
            }
        }
    }

    @Sentence(OF)
    static void ofTheLargest() {
        Run x = new Run();
        x.begin(7, 251, 12, 12);
        int[] due = {251, 12, 12, 0};
        for (int what = 0; what < 4; what++) {
            Check.due("of the largest, " + what, x.of(7, what), due[what]);
        }
        Check.due("no more than that", x.of(7, 4), LineTables.NONE);
    }

    @Sentence(OF)
    static void ofWhatReducingLeft() {
        Run x = new Run().loose(0, 3, "1 2 0 | 2 1 0");
        Check.due("rows that were put", x.of(0, 1), 2);
        x.reduce(0);
        Check.due("rows that are left", x.of(0, 1), 1);
        Check.due("columns stay", x.of(0, 2), 3);
        Check.due("the field stays", x.of(0, 0), 3);
        Check.due("it is reduced", x.of(0, 3), 1);
    }

    @Sentence(PLACE)
    static void placesFromTheFirstToTheLast() {
        Run x = new Run().reduced(0, 0, "3 1 0 | 0 0 2");
        Check.due("place of the first row", x.place(0, 0), 0);
        Check.due("place of the last row", x.place(0, 1), 2);
        Check.due("behind the last row", x.place(0, 2), LineTables.NONE);
        Check.due("before the first row", x.place(0, -1), LineTables.NONE);
        x.turn(0, 0, 1);
        Check.due("place of a turned row", x.place(0, 0), 1);
    }

    @Sentence(PLACE)
    static void twelvePlaces() {
        Run x = new Run().noRows(0, 2, 12);
        x.dual(0, 0);
        for (int r = 0; r < 12; r++) {
            Check.due("place of row " + r, x.place(0, r), r);
        }
        Check.due("place of row 12", x.place(0, 12), LineTables.NONE);
    }

    @Sentence(PLACE)
    static void noPlaceWhileLoose() {
        Run x = new Run().reduced(0, 0, "0 1 | 1 0");
        x.loose(0, 0, "0 1 | 1 0");
        Check.due("row 0 of a loose table", x.place(0, 0), LineTables.NONE);
        Check.due("row 1 of a loose table", x.place(0, 1), LineTables.NONE);
        x.reduce(0);
        Check.due("row 1 of a reduced table", x.place(0, 1), 1);
    }

    @Sentence(SIGN)
    static void signsOfALooseTable() {
        Run x = new Run().loose(0, 0, "-999 -1 0 1 999").loose(1, 251, "-999 -1 0 1 251");
        int[] rationals = {-1, -1, 0, 1, 1};
        int[] residues = {1, 1, 0, 1, 0};
        for (int column = 0; column < 5; column++) {
            Check.due("sign of a rational number", x.sign(0, 0, column), rationals[column]);
            Check.due("sign of a residue", x.sign(1, 0, column), residues[column]);
        }
        Check.due("behind the last column", x.sign(0, 0, 5), 0);
        Check.due("behind the last row", x.sign(0, 1, 0), 0);
    }

    @Sentence(SIGN)
    static void signsOfAReducedTable() {
        Run x = new Run().reduced(0, 0, "-2 3 0").reduced(1, 5, "-2 3 0");
        Check.due("above 0 at the place", x.sign(0, 0, 0), 1);
        Check.due("so below 0 beside it", x.sign(0, 0, 1), -1);
        Check.due("0", x.sign(0, 0, 2), 0);
        Check.due("a residue at its place", x.sign(1, 0, 0), 1);
        Check.due("a residue beside it", x.sign(1, 0, 1), 1);
        Check.due("a residue 0", x.sign(1, 0, 2), 0);
    }

    @Sentence(SIGN)
    static void signsOfManyDigits() {
        for (int sign : new int[] {-1, 1}) {
            for (int bits = 10; bits < 99; bits++) {
                Check.due("sign of 2^" + bits, power(bits, sign, 0).sign(0, 0, last(bits)), sign);
            }
        }
    }

    /**
     * A table whose row 0 has, in its last column, sign 2^bits + more: rows 1, factor, each one column
     * on, give the product of the factors.
     */
    private static Run power(int bits, int sign, int more) {
        int rows = last(bits);
        Run x = new Run();
        x.begin(0, 0, rows, rows + 1);
        for (int row = 0; row < rows; row++) {
            int factor = 1 << Math.min(9, bits - 9 * row);
            boolean below = row == 0 && (rows % 2 == 0) == (sign > 0);
            int last = row == 0 ? more : 0;
            x.put(0, row, row, 1);
            x.put(0, row, rows, last);
            x.put(0, row, row + 1, (below ? -factor : factor) + (row + 1 == rows ? last : 0));
        }
        x.reduce(0);
        return x;
    }

    private static int last(int bits) {
        return Math.max(1, (bits + 8) / 9);
    }

    @Sentence(DIGIT)
    static void digitsAroundEachPowerOfTwo() {
        for (int bits = 0; bits < 99; bits++) {
            for (int sign : new int[] {-1, 1}) {
                for (int more = -1; more <= 1; more++) {
                    Run x = power(bits, sign, more);
                    BigInteger due = BigInteger.ONE.shiftLeft(bits).multiply(BigInteger.valueOf(sign))
                            .add(BigInteger.valueOf(more));
                    for (int i = 0; i < 8; i++) {
                        int digit = due.abs().shiftRight(16 * i).intValue() & 65535;
                        Check.due("digit " + i + " of " + due, x.digit(0, 0, last(bits), i), digit);
                    }
                    Check.due("sign of " + due, x.sign(0, 0, last(bits)), due.signum());
                }
            }
        }
    }

    @Sentence(DIGIT)
    static void theBase() {
        Run x = new Run().reduced(0, 0, "1 255 0 | 0 1 257").reduced(1, 0, "1 256 0 | 0 1 256");
        Check.due("65535 has one digit", x.digit(0, 0, 2, 0), 65535);
        Check.due("and 0 behind it", x.digit(0, 0, 2, 1), 0);
        Check.due("65536 has 0 first", x.digit(1, 0, 2, 0), 0);
        Check.due("and 1 behind it", x.digit(1, 0, 2, 1), 1);
        Check.due("both are below 0", x.sign(0, 0, 2) + x.sign(1, 0, 2), -2);
    }

    @Sentence({DIGIT, NO_DIGIT})
    static void behindTheEnd() {
        Run x = power(98, -1, -1).loose(1, 0, "0 -999").reduced(2, 251, "1 250");
        for (int i : BEHIND) {
            Check.due("of seven digits, " + i, x.digit(0, 0, 11, i), 0);
            Check.due("of 0, " + i, x.digit(1, 0, 0, i), 0);
            Check.due("of one digit, " + i, x.digit(1, 0, 1, i), 0);
            Check.due("of a residue, " + i, x.digit(2, 0, 1, i), 0);
        }
        Check.due("the first behind one digit", x.digit(1, 0, 1, 1), 0);
        Check.due("the first of 0", x.digit(1, 0, 0, 0), 0);
        Check.due("below the first of 0", x.digit(1, 0, 0, -1), LineTables.NONE);
    }

    @Sentence(DIGIT)
    static void sizesAreWithoutSign() {
        Run x = new Run().loose(0, 0, "-999 999").loose(1, 251, "-1 999");
        Check.due("of -999", x.digit(0, 0, 0, 0), 999);
        Check.due("of 999", x.digit(0, 0, 1, 0), 999);
        Check.due("of the residue of -1", x.digit(1, 0, 0, 0), 250);
        Check.due("of the residue of 999", x.digit(1, 0, 1, 0), 246);
    }

    @Sentence(NO_DIGIT)
    static void behindTheLastNumber() {
        Run x = new Run().loose(0, 0, "1 2 | 3 4").reduced(1, 5, "1 2 | 2 4");
        Check.due("the last number", x.digit(0, 1, 1, 0), 4);
        Check.due("behind the last row", x.digit(0, 2, 1, 0), LineTables.NONE);
        Check.due("behind the last column", x.digit(0, 0, 2, 0), LineTables.NONE);
        Check.due("a row that reducing took", x.digit(1, 1, 0, 0), LineTables.NONE);
        Check.due("the least digit", x.digit(0, 0, 0, Integer.MIN_VALUE), LineTables.NONE);
    }
}

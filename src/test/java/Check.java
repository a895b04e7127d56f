import java.math.BigInteger;

/** What the project's own tests share: counting wrong answers, and telling tables as text. */
final class Check {
    private static int wrong = 0;
    private static int asked = 0;

    private Check() {
    }

    static void due(String what, Object got, Object want) {
        asked++;
        if (!got.equals(want)) {
            wrong++;
            System.out.println(what + ": answered " + got + ", due is " + want);
        }
    }

    /** Ends the test: with exit code 1 if an answer was not the one that is due. */
    static void end() {
        System.out.println(asked + " answers looked at, " + wrong + " not as due");
        if (wrong != 0 || asked == 0) {
            System.exit(1);
        }
    }

    /** A number as sign and digits tell it; ten digits are more than any table has. */
    static BigInteger number(LineTables x, int t, int row, int column) {
        BigInteger size = BigInteger.ZERO;
        for (int i = 9; i >= 0; i--) {
            size = size.shiftLeft(16).add(BigInteger.valueOf(x.digit(t, row, column, i)));
        }
        int sign = x.sign(t, row, column);
        due("sign and digits of " + row + ", " + column + " agree", sign == 0, size.signum() == 0);
        return sign < 0 ? size.negate() : size;
    }

    /** A number that is known to have one digit, in few calls. */
    private static int small(LineTables x, int t, int row, int column) {
        return x.sign(t, row, column) * x.digit(t, row, column, 0);
    }

    /** All that is told of a table whose numbers have one digit. */
    static String table(LineTables x, int t) {
        StringBuilder text = new StringBuilder();
        int rows = x.of(t, 1);
        int columns = x.of(t, 2);
        text.append("field ").append(x.of(t, 0)).append(", ").append(rows).append(" x ").append(columns);
        text.append(x.of(t, 3) == 1 ? ", reduced" : ", loose");
        for (int row = 0; row < rows; row++) {
            text.append(row == 0 ? ": " : " | ");
            int place = x.place(t, row);
            if (place != LineTables.NONE) {
                text.append("at ").append(place).append(":");
            }
            for (int column = 0; column < columns; column++) {
                text.append(column == 0 && place == LineTables.NONE ? "" : " ").append(small(x, t, row, column));
            }
        }
        return text.toString();
    }

    /** All that is told of all tables. */
    static String state(LineTables x) {
        StringBuilder text = new StringBuilder();
        for (int t = 0; t < 8; t++) {
            text.append(t).append(": ").append(table(x, t)).append('\n');
        }
        return text.toString();
    }

    /** A new loose table with these numbers. */
    static void fill(LineTables x, int t, int field, int columns, int[][] numbers) {
        due("begin", x.begin(t, field, numbers.length, columns), true);
        for (int row = 0; row < numbers.length; row++) {
            for (int column = 0; column < columns; column++) {
                if (numbers[row][column] != 0) {
                    due("put", x.put(t, row, column, numbers[row][column]), true);
                }
            }
        }
    }
}

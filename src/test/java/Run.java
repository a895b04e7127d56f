import java.math.BigInteger;

/** One object of the program, its calls counted, with short ways to fill and to tell tables. */
final class Run {
    /** What an object answers after so many calls is free, so no test may look at it. */
    static final int CALLS = 512;
    /** More digits than any number has. */
    private static final int ALL_DIGITS = 10;

    private final LineTables x = new LineTables();
    private int calls = 0;

    private void count() {
        calls++;
        if (calls > CALLS) {
            Check.due("calls of one object", calls, "at most " + CALLS);
        }
    }

    int calls() {
        return calls;
    }

    boolean begin(int t, int field, int rows, int columns) {
        count();
        return x.begin(t, field, rows, columns);
    }

    boolean put(int t, int row, int column, int v) {
        count();
        return x.put(t, row, column, v);
    }

    int reduce(int t) {
        count();
        return x.reduce(t);
    }

    int turn(int t, int r, int column) {
        count();
        return x.turn(t, r, column);
    }

    int dual(int to, int t) {
        count();
        return x.dual(to, t);
    }

    int leave(int to, int t, int set, boolean zero) {
        count();
        return x.leave(to, t, set, zero);
    }

    int sum(int to, int a, int b) {
        count();
        return x.sum(to, a, b);
    }

    int of(int t, int what) {
        count();
        return x.of(t, what);
    }

    int place(int t, int r) {
        count();
        return x.place(t, r);
    }

    int sign(int t, int row, int column) {
        count();
        return x.sign(t, row, column);
    }

    int digit(int t, int row, int column, int i) {
        count();
        return x.digit(t, row, column, i);
    }

    /** Table t becomes a loose one of these numbers, told as "1 0 -5 | 0 1 999". */
    Run loose(int t, int field, String numbers) {
        String[] rows = numbers.split(" \\| ");
        int columns = rows[0].split(" ").length;
        Check.due("begin " + numbers, begin(t, field, rows.length, columns), true);
        for (int row = 0; row < rows.length; row++) {
            String[] line = rows[row].split(" ");
            for (int column = 0; column < columns; column++) {
                if (!line[column].equals("0")) {
                    boolean done = put(t, row, column, Integer.parseInt(line[column]));
                    Check.due("put " + line[column], done, true);
                }
            }
        }
        return this;
    }

    Run reduced(int t, int field, String numbers) {
        loose(t, field, numbers);
        reduce(t);
        return this;
    }

    /** Table t becomes a reduced one without rows. */
    Run noRows(int t, int field, int columns) {
        Check.due("begin without rows", begin(t, field, 0, columns), true);
        Check.due("reduce no rows", reduce(t), 0);
        return this;
    }

    /** A number as its sign and its lowest digits tell it. */
    private BigInteger number(int t, int row, int column, int digits) {
        BigInteger size = BigInteger.ZERO;
        for (int i = digits - 1; i >= 0; i--) {
            size = size.shiftLeft(16).add(BigInteger.valueOf(digit(t, row, column, i)));
        }
        int sign = sign(t, row, column);
        Check.due("sign and digits of " + row + ", " + column + " are 0 together", sign == 0, size.signum() == 0);
        return sign < 0 ? size.negate() : size;
    }

    BigInteger number(int t, int row, int column) {
        return number(t, row, column, ALL_DIGITS);
    }

    /** All that is told of a table whose numbers have two digits at most. */
    String table(int t) {
        StringBuilder text = new StringBuilder();
        int rows = of(t, 1);
        int columns = of(t, 2);
        text.append("field ").append(of(t, 0)).append(", ").append(rows).append(" x ").append(columns);
        text.append(of(t, 3) == 1 ? ", reduced" : ", loose");
        for (int row = 0; row < rows; row++) {
            text.append(row == 0 ? ": " : " | ");
            int place = place(t, row);
            if (place != LineTables.NONE) {
                text.append("at ").append(place).append(":");
            }
            for (int column = 0; column < columns; column++) {
                text.append(column == 0 && place == LineTables.NONE ? "" : " ").append(number(t, row, column, 2));
            }
        }
        return text.toString();
    }

    /** All that is told of all tables. */
    String state() {
        StringBuilder text = new StringBuilder();
        for (int t = 0; t < 8; t++) {
            text.append(t).append(": ").append(table(t)).append('\n');
        }
        return text.toString();
    }
}

import java.util.Arrays;
import java.util.Random;

/** Runs of at most 512 calls, from fixed seeds, on the program and on the model. */
public final class ModelTest {
    private static final int[] PRIMES = {2, 2, 3, 5, 7, 13, 127, 241, 251};
    /** A table of signs whose minors are as large as they can be: Hadamard's of order 12, Paley's way. */
    private static final int[][] SIGNS = signs();

    private final Random random;
    private final LineTables x = new LineTables();
    private final Model model = new Model();
    private final String name;
    private int calls = 0;
    private static int mostBits = 0;

    private ModelTest(String name, long seed) {
        this.name = name;
        random = new Random(seed);
    }

    public static void main(String[] args) {
        Check.watch();
        for (int seed = 0; seed < 1500; seed++) {
            new ModelTest("small run " + seed, seed).smallRun();
        }
        for (int seed = 0; seed < 150; seed++) {
            new ModelTest("wide run " + seed, seed).wideRun();
        }
        System.out.println("the largest numbers had " + mostBits + " bits");
        Check.due("numbers came near the bound of 128 bits", mostBits >= 125, true);
        Check.end();
    }

    private static int[][] signs() {
        int[][] signs = new int[12][12];
        for (int i = 0; i < 12; i++) {
            for (int j = 0; j < 12; j++) {
                boolean square = false;
                for (int k = 1; k < 11; k++) {
                    square |= Math.floorMod(i - j, 11) == k * k % 11;
                }
                signs[i][j] = i == 11 || j != 11 && (i == j || square) ? 1 : -1;
            }
        }
        return signs;
    }

    private void due(String call, int got, int want) {
        calls++;
        Check.due(name + ", call " + calls + ", " + call, got, want);
    }

    private static String told(String method, Object... arguments) {
        return method + Arrays.toString(arguments);
    }

    private void begin(int t, int field, int rows, int columns) {
        due(told("begin", t, field, rows, columns), x.begin(t, field, rows, columns) ? 1 : 0,
                model.begin(t, field, rows, columns));
    }

    private void put(int t, int row, int column, int v) {
        due(told("put", t, row, column, v), x.put(t, row, column, v) ? 1 : 0, model.put(t, row, column, v));
    }

    private void reduce(int t) {
        due(told("reduce", t), x.reduce(t), model.reduce(t));
    }

    private void turn(int t, int r, int column) {
        due(told("turn", t, r, column), x.turn(t, r, column), model.turn(t, r, column));
    }

    private void dual(int to, int t) {
        due(told("dual", to, t), x.dual(to, t), model.dual(to, t));
    }

    private void leave(int to, int t, int set, boolean zero) {
        due(told("leave", to, t, set, zero), x.leave(to, t, set, zero), model.leave(to, t, set, zero));
    }

    private void sum(int to, int a, int b) {
        due(told("sum", to, a, b), x.sum(to, a, b), model.sum(to, a, b));
    }

    /** A number below n, but now and then one that is outside. */
    private int about(int n) {
        int dice = random.nextInt(60);
        if (dice == 0) {
            return -1;
        }
        return dice == 1 || n == 0 ? n : random.nextInt(n);
    }

    private void ask(int t) {
        int rows = Math.max(0, model.of(t, 1));
        int columns = Math.max(0, model.of(t, 2));
        int row = about(rows);
        int column = about(columns);
        switch (random.nextInt(8)) {
            case 0 -> {
                int what = about(4);
                due(told("of", t, what), x.of(t, what), model.of(t, what));
            }
            case 1 -> due(told("place", t, row), x.place(t, row), model.place(t, row));
            case 2, 3 -> due(told("sign", t, row, column), x.sign(t, row, column), model.sign(t, row, column));
            default -> {
                int i = random.nextInt(20) == 0 ? random.nextInt() : about(10);
                due(told("digit", t, row, column, i), x.digit(t, row, column, i), model.digit(t, row, column, i));
            }
        }
    }

    private void change() {
        int to = about(8);
        int t = about(8);
        int columns = Math.max(0, model.of(t, 2));
        switch (random.nextInt(9)) {
            case 0, 1, 2 -> turn(t, about(Math.max(0, model.of(t, 1))), about(columns));
            case 3 -> dual(to, t);
            case 4, 5 -> leave(to, t, someSet(columns), random.nextBoolean());
            case 6, 7 -> sum(to, t, about(8));
            default -> reduce(t);
        }
        if (random.nextInt(30) == 0) {
            put(t, about(3), about(3), random.nextInt(2100) - 1050);
        }
    }

    private int someSet(int columns) {
        int set = 0;
        for (int j = 0; j < columns; j++) {
            set |= random.nextInt(5) == 0 ? 1 << j : 0;
        }
        int dice = random.nextInt(60);
        if (dice == 0) {
            return -1 - set;
        }
        return dice == 1 ? set | 1 << columns : set;
    }

    /** Several small tables, some with rows that hang on each other; then all kinds of calls. */
    private void smallRun() {
        int field = random.nextInt(2) == 0 ? 0 : PRIMES[random.nextInt(PRIMES.length)];
        int size = new int[] {1, 3, 20, 999}[random.nextInt(4)];
        for (int k = 0; k < 4; k++) {
            int t = random.nextInt(8);
            int rows = about(6);
            int columns = about(7);
            begin(t, random.nextInt(10) == 0 ? random.nextInt(254) : field, rows, columns);
            for (int r = 0; r < rows; r++) {
                for (int c = 0; c < columns; c++) {
                    if (random.nextInt(3) != 0) {
                        put(t, r, c, random.nextInt(2 * size + 1) - size);
                    }
                }
            }
            if (random.nextInt(8) != 0) {
                reduce(t);
            }
        }
        goOn(3);
    }

    private void goOn(int asksForOneChange) {
        while (calls < Run.CALLS - 1) {
            if (random.nextInt(asksForOneChange + 1) == 0) {
                change();
            } else {
                ask(about(8));
            }
        }
        for (int t = 0; t < 8; t++) {
            mostBits = Math.max(mostBits, model.bits(t));
        }
    }

    /** A table with as large numbers as there can be; the seed tells how many rows it has. */
    private void wideRun() {
        int rows = 6 + random.nextInt(7);
        int columns = rows == 12 ? 12 : Math.max(rows, 12 - random.nextInt(2));
        boolean hadamard = random.nextBoolean();
        begin(0, random.nextInt(6) == 0 ? 251 : 0, rows, columns);
        int first = random.nextInt(12);
        for (int r = 0; r < rows; r++) {
            for (int c = 0; c < columns; c++) {
                int size = hadamard ? 999 - random.nextInt(9) : random.nextInt(1000);
                put(0, r, c, SIGNS[(r + first) % 12][c] * size);
            }
        }
        reduce(0);
        mostBits = Math.max(mostBits, model.bits(0));
        if (random.nextBoolean()) {
            piecesOfIt();
        }
        goOn(6);
    }

    /** Sums of narrow pieces of a wide table: their numbers are as large, and must not grow. */
    private void piecesOfIt() {
        int keep = columnsToKeep();
        int set = (1 << model.of(0, 2)) - 1 & ~keep;
        int zeros = set & random.nextInt(4096);
        leave(1, 0, set & ~zeros, false);
        leave(2, 0, zeros, true);
        dual(3, 0);
        leave(3, 3, set, random.nextBoolean());
        leave(4, 0, set, true);
        sum(5, 1, 4);
        sum(5, 3, 4);
        sum(6, 4, 4);
        sum(6, 6, 3);
        for (int k = 0; k < 10; k++) {
            turn(6, about(Math.max(0, model.of(6, 1))), about(model.of(6, 2)));
        }
        dual(7, 6);
    }

    private int columnsToKeep() {
        int keep = 0;
        for (int k = 0; k < 4; k++) {
            keep |= 1 << random.nextInt(12);
        }
        return keep;
    }
}

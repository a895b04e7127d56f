/** Tables of every sort in one object, on which calls are refused. */
final class Sample {
    private Sample() {
    }

    /**
     * Table 0 rational, 1 rational and loose, 2 of residues, 3 rational and turned, 4 of residues and
     * loose, 5 rational with numbers of two digits, 6 rational without rows, 7 new.
     */
    static Run make() {
        Run x = new Run();
        x.reduced(0, 0, "2 4 -6 1 | 1 2 3 -5 | 3 6 -3 -4");
        x.loose(1, 0, "0 -5 7 | 1 0 999");
        x.reduced(2, 7, "2 1 0 3 | 0 0 1 5");
        x.reduced(3, 0, "2 0 3 | 0 1 5");
        x.turn(3, 0, 2);
        x.loose(4, 251, "-1 5");
        x.reduced(5, 0, "999 -998 0 | 0 997 996");
        x.noRows(6, 0, 9);
        return x;
    }

    /** What the sample's tables are, reckoned by hand. */
    static final String STATE = ""
            + "0: field 0, 2 x 4, reduced: at 0: 4 8 0 -9 | at 2: 0 0 12 -11\n"
            + "1: field 0, 2 x 3, loose: 0 -5 7 | 1 0 999\n"
            + "2: field 7, 2 x 4, reduced: at 0: 1 4 0 5 | at 2: 0 0 1 5\n"
            + "3: field 0, 2 x 3, reduced: at 2: 2 0 3 | at 1: -10 3 0\n"
            + "4: field 251, 1 x 2, loose: 250 5\n"
            + "5: field 0, 2 x 3, reduced: at 0: 332001 0 331336 | at 1: 0 997 996\n"
            + "6: field 0, 0 x 9, reduced\n"
            + "7: field 0, 0 x 0, reduced\n";

    /** Calls that show what a refused call might have changed unseen. */
    static void goOn(Run x) {
        x.reduce(1);
        x.reduce(4);
        x.turn(0, 1, 3);
        x.sum(6, 6, 3);
        x.dual(7, 5);
        x.leave(2, 2, 8, true);
    }

    static final String LATER = ""
            + "0: field 0, 2 x 4, reduced: at 0: 11 22 -27 0 | at 3: 0 0 -12 11\n"
            + "1: field 0, 2 x 3, reduced: at 0: 1 0 999 | at 1: 0 5 -7\n"
            + "2: field 7, 1 x 3, reduced: at 0: 1 4 6\n"
            + "3: field 0, 2 x 3, reduced: at 2: 2 0 3 | at 1: -10 3 0\n"
            + "4: field 251, 1 x 2, reduced: at 0: 1 246\n"
            + "5: field 0, 2 x 3, reduced: at 0: 332001 0 331336 | at 1: 0 997 996\n"
            + "6: field 0, 2 x 12, reduced: at 9: 0 0 0 0 0 0 0 0 0 2 0 3 | at 10: 0 0 0 0 0 0 0 0 0 0 1 5\n"
            + "7: field 0, 1 x 3, reduced: at 0: 331336 331668 -332001\n";
}

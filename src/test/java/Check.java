import java.util.NoSuchElementException;

/** Counts the answers of one test that are not the ones due. */
final class Check {
    private int wrong = 0;
    private int asked = 0;

    void due(String what, long got, long want) {
        asked++;
        if (got != want) {
            wrong++;
            System.out.println(what + ": answered " + got + ", due is " + want);
        }
    }

    void due(String what, boolean got, boolean want) {
        due(what, got ? 1 : 0, want ? 1 : 0);
    }

    void rowDue(String what, MovingBanks x, int... want) {
        due(what + ", numbers of the row", x.count(7), want.length);
        for (int i = 0; i < want.length; i++) {
            due(what + ", row(" + i + ")", rowOr(x, i, Long.MIN_VALUE), want[i]);
        }
        noRow(what, x, want.length);
        noRow(what, x, -1);
    }

    void noRow(String what, MovingBanks x, int i) {
        due(what + ", row(" + i + ") throws", rowOr(x, i, Long.MIN_VALUE), Long.MIN_VALUE);
    }

    void noMoved(MovingBanks x, int owner, int step) {
        boolean thrown = false;
        try {
            x.moved(owner, step);
        } catch (NoSuchElementException e) {
            thrown = true;
        }
        due("moved(" + owner + ", " + step + ") throws", thrown, true);
    }

    void end() {
        System.out.println(asked + " answers, " + wrong + " wrong");
        if (wrong != 0) {
            System.exit(1);
        }
    }

    private static long rowOr(MovingBanks x, int i, long thrown) {
        try {
            return x.row(i);
        } catch (NoSuchElementException e) {
            return thrown;
        }
    }
}

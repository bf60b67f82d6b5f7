/** Promise 13: wet. */
public final class Promise13Test extends Sentences {
    public static void main(String[] args) {
        new Promise13Test().run();
    }

    private static MovingBanks twoMaps() {
        MovingBanks x = land(3, 2);
        draw(x, 10, "~..", "...");
        draw(x, 20, "...", "..~");
        return x;
    }

    @Says("Whether a CELL is WATER in a YEAR (1, 0).")
    void waterAndDry() {
        MovingBanks x = twoMaps();
        due("the first cell", x.wet(0, 0, 10), 1);
        due("the last cell", x.wet(2, 1, 10), 0);
        waterDue(x, 10, "~..", "...");
        waterDue(x, 20, "...", "..~");
    }

    @Says("by the latest MAP of that YEAR or ahead")
    void theLatestMapOfThatYearOrAhead() {
        MovingBanks x = twoMaps();
        due("year 10", x.wet(0, 0, 10), 1);
        due("year 11", x.wet(0, 0, 11), 1);
        due("year 19", x.wet(0, 0, 19), 1);
        due("year 20", x.wet(0, 0, 20), 0);
        due("year 21", x.wet(0, 0, 21), 0);
        due("year 200", x.wet(2, 1, 200), 1);
    }

    @Says("by the latest MAP of that YEAR or ahead")
    void eachOfTenMaps() {
        MovingBanks x = land(10, 1);
        for (int m = 0; m < 10; m++) {
            x.water(0, 1 << m);
            x.map(20 * m);
        }
        for (int m = 0; m < 10; m++) {
            due("map " + m, x.wet(m, 0, 20 * m), 1);
            due("map " + m + ", 19 years on", x.wet(m, 0, 20 * m + 19), 1);
            due("map " + m + ", the next one's year", x.wet(m, 0, 20 * m + 20), m < 9 ? 0 : 1);
            if (m > 0) {
                due("map " + m + ", a year ahead", x.wet(m, 0, 20 * m - 1), 0);
            }
        }
    }

    @Says("ahead of all by MAP 0")
    void aheadOfAllByMapZero() {
        MovingBanks x = twoMaps();
        waterDue(x, 0, "~..", "...");
        waterDue(x, 9, "~..", "...");
    }

    @Says("NONE: no such CELL")
    void noSuchColumn() {
        MovingBanks x = twoMaps();
        for (int column : new int[] {-1, 3, MIN, MAX}) {
            due("wet(" + column + ", 0, 10)", x.wet(column, 0, 10), NONE);
        }
    }

    @Says("NONE: no such CELL")
    void noSuchRow() {
        MovingBanks x = twoMaps();
        for (int row : new int[] {-1, 2, MIN, MAX}) {
            due("wet(0, " + row + ", 10)", x.wet(0, row, 10), NONE);
        }
    }

    @Says("NONE: no such CELL, YEAR")
    void noSuchYear() {
        MovingBanks x = twoMaps();
        for (int year : new int[] {-1, 201, MIN, MAX}) {
            due("wet(0, 0, " + year + ")", x.wet(0, 0, year), NONE);
        }
        due("year 0", x.wet(0, 0, 0), 1);
        due("year 200", x.wet(0, 0, 200), 0);
    }

    @Says("NONE: no such CELL, YEAR, MAP.")
    void noMap() {
        MovingBanks x = land(3, 2);
        x.water(0, 7);
        due("with none", x.wet(0, 0, 0), NONE);
        due("in the last year", x.wet(0, 0, 200), NONE);
        x.map(200);
        due("with one, of the last year", x.wet(0, 0, 0), 1);
    }
}

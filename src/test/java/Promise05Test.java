/** Promise 5: map. */
public final class Promise05Test extends Sentences {
    public static void main(String[] args) {
        new Promise05Test().run();
    }

    @Says("YEARS 0 .. 200.")
    void theFirstYear() {
        due("map(0)", new MovingBanks().map(0), 0);
    }

    @Says("YEARS 0 .. 200.")
    void theLastYear() {
        due("map(200)", new MovingBanks().map(200), 0);
    }

    @Says("of a YEAR")
    void aYearBelowTheFirst() {
        MovingBanks x = new MovingBanks();
        due("map(-1)", x.map(-1), NONE);
        due("map(MIN)", x.map(MIN), NONE);
        due("count(2)", x.count(2), 0);
    }

    @Says("above 200")
    void aYearAboveTheLast() {
        MovingBanks x = new MovingBanks();
        due("map(201)", x.map(201), NONE);
        due("map(MAX)", x.map(MAX), NONE);
        x.map(200);
        due("map(201) behind 200", x.map(201), NONE);
        due("count(2)", x.count(2), 1);
    }

    @Says("NONE: a YEAR not above the one's ahead")
    void theSameYear() {
        MovingBanks x = new MovingBanks();
        x.map(10);
        due("map(10)", x.map(10), NONE);
        due("map(11)", x.map(11), 1);
        due("map(11)", x.map(11), NONE);
        due("count(2)", x.count(2), 2);
    }

    @Says("NONE: a YEAR not above the one's ahead")
    void aYearBelowTheOneAhead() {
        MovingBanks x = new MovingBanks();
        x.map(10);
        due("map(9)", x.map(9), NONE);
        due("map(0)", x.map(0), NONE);
        x.map(20);
        due("map(15), above the first one's", x.map(15), NONE);
        due("count(2)", x.count(2), 2);
    }

    @Says("its number")
    void numbersFromZeroOn() {
        MovingBanks x = new MovingBanks();
        for (int m = 0; m < 10; m++) {
            due("map " + m, x.map(20 * m), m);
        }
    }

    @Says("MAPS 0 .. (at most 10)")
    void tenMaps() {
        MovingBanks x = new MovingBanks();
        for (int m = 0; m < 9; m++) {
            x.map(m);
        }
        due("the tenth", x.map(9), 9);
        due("an eleventh", x.map(10), NONE);
        due("count(2)", x.count(2), 10);
        due("the last step", x.step(9, 0), 9);
        due("no step behind it", x.step(10, 0), NONE);
    }

    @Says("The next MAP is one")
    void aRefusedYearLeavesTheNextMap() {
        MovingBanks x = land(3, 1);
        draw(x, 10, "~..");
        x.water(0, 4);
        due("refused", x.map(10), NONE);
        waterDue(x, 200, "~..");
        due("taken", x.map(11), 1);
        waterDue(x, 11, "..~");
    }

    @Says("Refused calls answer NONE, or false, and change nothing.")
    void refusedChangesNothing() {
        changesNothing(x -> {
            x.map(20);
            x.map(19);
            x.map(-1);
            x.map(201);
        });
    }

    @Says("Refused calls answer NONE, or false, and change nothing.")
    void anEleventhChangesNothing() {
        MovingBanks x = land(2, 1);
        x.own(0, 0, 1, 0, 3);
        draw(x, 0, "~.");
        for (int m = 1; m < 10; m++) {
            draw(x, m, m % 2 == 0 ? "~." : "..");
        }
        due("an eleventh", x.map(100), NONE);
        waterDue(x, 200, "..");
        due("the latest map's year", x.step(9, 0), 9);
        due("what is new by it", x.step(9, 2), 1);
        due("count(2)", x.count(2), 10);
    }
}

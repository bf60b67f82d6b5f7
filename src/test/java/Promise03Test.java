/** Promise 3: water. */
public final class Promise03Test extends Sentences {
    public static void main(String[] args) {
        new Promise03Test().run();
    }

    @Says("(column 0 the lowest")
    void columnZeroIsTheLowest() {
        MovingBanks x = land(12, 1);
        due("bits 0, 1 and 11", x.water(0, 0x803), 3);
        x.map(0);
        waterDue(x, 0, "~~.........~");
    }

    @Says("those from w on count nothing")
    void bitsFromWOn() {
        MovingBanks x = land(12, 2);
        due("bit 11", x.water(0, 1 << 11), 1);
        due("bit 12", x.water(0, 1 << 12), 0);
        due("the sign", x.water(0, MIN), 0);
        due("all of them", x.water(0, -1 << 12), 0);
        x.map(0);
        waterDue(x, 0, "............", "............");
    }

    @Says("those from w on count nothing")
    void bitsFromWOnOfANarrowLand() {
        MovingBanks x = land(1, 3);
        due("bit 0 and more", x.water(1, 0xFFFF), 1);
        due("bit 1", x.water(0, 2), 0);
        x.map(0);
        waterDue(x, 0, ".", "~", ".");
    }

    @Says("how many")
    void noneAndAllOfARow() {
        MovingBanks x = land(12, 1);
        due("none", x.water(0, 0), 0);
        due("all", x.water(0, 0xFFF), 12);
        due("all, by -1", x.water(0, -1), 12);
        due("by MAX", x.water(0, MAX), 12);
    }

    @Says("Row y of the next MAP has WATER by bits")
    void firstAndLastRow() {
        MovingBanks x = land(3, 4);
        due("row 0", x.water(0, 1), 1);
        due("row 3", x.water(3, 6), 2);
        x.map(0);
        waterDue(x, 0, "~..", "...", "...", ".~~");
    }

    @Says("Row y of the next MAP has WATER by bits")
    void aRowToldAgain() {
        MovingBanks x = land(3, 1);
        x.water(0, 3);
        due("again", x.water(0, 4), 1);
        x.map(0);
        waterDue(x, 0, "..~");
    }

    @Says("of the next MAP")
    void mapsThatAreStayAsTheyAre() {
        MovingBanks x = land(3, 1);
        x.map(0);
        x.water(0, 7);
        waterDue(x, 200, "...");
    }

    @Says("(It begins as the latest MAP")
    void beginsAsTheLatest() {
        MovingBanks x = land(3, 2);
        draw(x, 0, "~~.", ".~~");
        x.water(1, 1);
        x.map(1);
        waterDue(x, 1, "~~.", "~..");
        x.map(2);
        waterDue(x, 2, "~~.", "~..");
    }

    @Says("the first one dry.)")
    void theFirstOneDry() {
        MovingBanks x = land(2, 2);
        x.water(1, 1);
        x.map(0);
        waterDue(x, 0, "..", "~.");
    }

    @Says("NONE: no such row")
    void noRowAheadOfTheFirst() {
        MovingBanks x = land(3, 4);
        due("row -1", x.water(-1, 1), NONE);
        due("row MIN", x.water(MIN, 1), NONE);
    }

    @Says("NONE: no such row")
    void noRowBehindTheLast() {
        MovingBanks x = land(3, 4);
        due("row 4", x.water(4, 1), NONE);
        due("row MAX", x.water(MAX, 1), NONE);
        x.land(3, 12);
        due("row 11", x.water(11, 1), 1);
        due("row 12", x.water(12, 1), NONE);
    }

    @Says("NONE: no such row, 10 MAPS.")
    void tenMaps() {
        MovingBanks x = land(3, 1);
        for (int m = 0; m < 9; m++) {
            x.map(m);
        }
        due("with 9 maps", x.water(0, 5), 2);
        x.map(9);
        due("with 10 maps", x.water(0, 2), NONE);
        waterDue(x, 200, "~.~");
    }

    @Says("Refused calls answer NONE, or false, and change nothing.")
    void refusedChangesNothing() {
        changesNothing(x -> {
            x.water(-1, 7);
            x.water(2, 7);
            x.water(MAX, 7);
        });
    }
}

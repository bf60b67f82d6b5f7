/** Promise 4: sheet. */
public final class Promise04Test extends Sentences {
    private static final int BYTES = 0;
    private static final int INTS = 1;
    private static final int MISSING = 2;

    public static void main(String[] args) {
        new Promise04Test().run();
    }

    private static MovingBanks withTenMaps() {
        MovingBanks x = land(3, 2);
        for (int m = 0; m < 10; m++) {
            x.map(m);
        }
        return x;
    }

    @Says("Rows y, y + 1, .. of it from a sheet")
    void rowsFromYOn() {
        MovingBanks x = land(3, 5);
        due("two rows", x.sheet(2, INTS, 2, 1, 3), 2);
        x.map(0);
        waterDue(x, 0, "...", "...", "~..", "..~", "...");
    }

    @Says("entries f, f + step, ..")
    void entriesGoByStep() {
        MovingBanks x = land(4, 4);
        due("down", x.sheet(0, INTS, 4, 9, -3), 4);
        x.map(0);
        waterDue(x, 0, "~..~", ".~~.", "~~..", "....");
        due("all alike", x.sheet(0, BYTES, 4, 2, 0), 4);
        x.map(1);
        waterDue(x, 1, ".~..", ".~..", ".~..", ".~..");
    }

    @Says("entries f, f + step, ..")
    void intsWrapRound() {
        MovingBanks x = land(12, 3);
        due("from MAX on", x.sheet(0, INTS, 3, MAX, 1), 3);
        x.map(0);
        waterDue(x, 0, "~~~~~~~~~~~~", "............", "~...........");
        due("by MAX", x.sheet(0, INTS, 3, MAX, MAX), 3);
        x.map(1);
        waterDue(x, 1, "~~~~~~~~~~~~", ".~~~~~~~~~~~", "~.~~~~~~~~~~");
        due("by MIN", x.sheet(0, INTS, 3, 5, MIN), 3);
        x.map(2);
        waterDue(x, 2, "~.~.........", "~.~.........", "~.~.........");
    }

    @Says("(of bytes the lowest 8 bits, without a sign)")
    void bytesHaveEightBits() {
        MovingBanks x = land(12, 4);
        due("from 255 on", x.sheet(0, BYTES, 2, 255, 1), 2);
        due("with higher bits", x.sheet(2, BYTES, 2, 0xF81, -0x701), 2);
        x.map(0);
        waterDue(x, 0, "~~~~~~~~....", "............", "~......~....", ".......~....");
    }

    @Says("(of bytes the lowest 8 bits, without a sign)")
    void bytesHaveNoSign() {
        MovingBanks x = land(12, 2);
        due("-1 and -128", x.sheet(0, BYTES, 2, -1, -127), 2);
        x.map(0);
        waterDue(x, 0, "~~~~~~~~....", ".......~....");
    }

    @Says("ints (1)")
    void intsHaveAllTheirBits() {
        MovingBanks x = land(12, 2);
        due("-1 and 2048", x.sheet(0, INTS, 2, -1, 2049), 2);
        x.map(0);
        waterDue(x, 0, "~~~~~~~~~~~~", "...........~");
    }

    @Says("how many rows (up to the last one")
    void upToTheLastRow() {
        MovingBanks x = land(2, 3);
        due("as many as there are", x.sheet(0, INTS, 3, 0, 0), 3);
        due("one more", x.sheet(0, INTS, 4, 0, 0), 3);
        due("one less", x.sheet(0, INTS, 2, 0, 0), 2);
        due("in the last row", x.sheet(2, INTS, 20, 3, 0), 1);
        due("bytes", x.sheet(1, BYTES, 3, 1, 0), 2);
        x.map(0);
        waterDue(x, 0, "..", "~.", "~.");
    }

    @Says("of n entries")
    void noEntries() {
        MovingBanks x = land(2, 2);
        x.water(0, 1);
        due("no ints", x.sheet(0, INTS, 0, 2, 2), 0);
        due("no bytes", x.sheet(0, BYTES, 0, 2, 2), 0);
        x.map(0);
        waterDue(x, 0, "~.", "..");
    }

    @Says("of n entries")
    void oneEntry() {
        MovingBanks x = land(2, 3);
        due("an int", x.sheet(1, INTS, 1, 3, 0), 1);
        x.map(0);
        waterDue(x, 0, "..", "~~", "..");
    }

    @Says("0 of a missing one")
    void aMissingOne() {
        MovingBanks x = land(2, 2);
        x.water(0, 1);
        due("of some entries", x.sheet(0, MISSING, 2, 3, 0), 0);
        due("of none", x.sheet(0, MISSING, 0, 3, 0), 0);
        due("in the last row", x.sheet(1, MISSING, 20, 3, 0), 0);
        x.map(0);
        waterDue(x, 0, "~.", "..");
    }

    @Says("-2: n below 0 (of kinds 0, 1).")
    void entriesBelowNone() {
        MovingBanks x = land(2, 2);
        due("bytes", x.sheet(0, BYTES, -1, 3, 0), REFUSED);
        due("ints", x.sheet(1, INTS, -1, 3, 0), REFUSED);
        due("bytes, MIN", x.sheet(0, BYTES, MIN, 3, 0), REFUSED);
        due("ints, MIN", x.sheet(0, INTS, MIN, 3, 0), REFUSED);
    }

    @Says("(of kinds 0, 1)")
    void entriesBelowNoneOfAMissingOne() {
        MovingBanks x = land(2, 2);
        due("-1", x.sheet(0, MISSING, -1, 3, 0), 0);
        due("MIN", x.sheet(0, MISSING, MIN, 3, 0), 0);
    }

    @Says("NONE: no such row")
    void noRowAheadOfTheFirst() {
        MovingBanks x = land(2, 2);
        for (int kind = 0; kind <= 2; kind++) {
            due("kind " + kind + ", row -1", x.sheet(-1, kind, 1, 3, 0), NONE);
            due("kind " + kind + ", row MIN", x.sheet(MIN, kind, 1, 3, 0), NONE);
        }
    }

    @Says("NONE: no such row")
    void noRowBehindTheLast() {
        MovingBanks x = land(2, 2);
        for (int kind = 0; kind <= 2; kind++) {
            due("kind " + kind + ", row 2", x.sheet(2, kind, 1, 3, 0), NONE);
            due("kind " + kind + ", row MAX", x.sheet(MAX, kind, 1, 3, 0), NONE);
            due("kind " + kind + ", row 2, no entries", x.sheet(2, kind, 0, 3, 0), NONE);
        }
    }

    @Says("NONE: no such row, kind")
    void noSuchKind() {
        MovingBanks x = land(2, 2);
        for (int kind : new int[] {-1, 3, MIN, MAX}) {
            due("kind " + kind, x.sheet(0, kind, 1, 3, 0), NONE);
            due("kind " + kind + ", no entries", x.sheet(0, kind, 0, 3, 0), NONE);
        }
    }

    @Says("n above 20")
    void twentyEntriesAndMore() {
        MovingBanks x = land(2, 12);
        due("20 bytes", x.sheet(0, BYTES, 20, 0, 0), 12);
        due("20 ints", x.sheet(0, INTS, 20, 0, 0), 12);
        for (int kind = 0; kind <= 2; kind++) {
            due("kind " + kind + ", 21", x.sheet(0, kind, 21, 3, 0), NONE);
            due("kind " + kind + ", MAX", x.sheet(0, kind, MAX, 3, 0), NONE);
        }
    }

    @Says("10 MAPS")
    void tenMaps() {
        MovingBanks x = land(2, 2);
        for (int m = 0; m < 9; m++) {
            x.map(m);
        }
        due("with 9 maps", x.sheet(0, INTS, 2, 0, 0), 2);
        due("with 9 maps, a missing one", x.sheet(0, MISSING, 2, 0, 0), 0);
        x.map(9);
        for (int kind = 0; kind <= 2; kind++) {
            due("with 10 maps, kind " + kind, x.sheet(0, kind, 2, 3, 0), NONE);
            due("with 10 maps, no entries, kind " + kind, x.sheet(0, kind, 0, 3, 0), NONE);
        }
    }

    @Says("(these first)")
    void noSuchRowComesFirst() {
        MovingBanks x = land(2, 2);
        due("bytes, row -1", x.sheet(-1, BYTES, -1, 3, 0), NONE);
        due("ints, row 2", x.sheet(2, INTS, -1, 3, 0), NONE);
        due("a missing one", x.sheet(2, MISSING, -1, 3, 0), NONE);
    }

    @Says("(these first)")
    void noSuchKindComesFirst() {
        MovingBanks x = land(2, 2);
        due("kind -1", x.sheet(0, -1, -1, 3, 0), NONE);
        due("kind 3", x.sheet(0, 3, -1, 3, 0), NONE);
    }

    @Says("(these first)")
    void tenMapsComeFirst() {
        MovingBanks x = withTenMaps();
        due("bytes", x.sheet(0, BYTES, -1, 3, 0), NONE);
        due("ints", x.sheet(0, INTS, -1, 3, 0), NONE);
        due("a missing one", x.sheet(0, MISSING, -1, 3, 0), NONE);
    }

    @Says("Refused calls answer NONE, or false, and change nothing.")
    void refusedChangesNothing() {
        changesNothing(x -> {
            x.sheet(-1, INTS, 2, 7, 0);
            x.sheet(2, INTS, 2, 7, 0);
            x.sheet(0, 3, 2, 7, 0);
            x.sheet(0, -1, 2, 7, 0);
            x.sheet(0, INTS, 21, 7, 0);
            x.sheet(0, BYTES, 21, 7, 0);
            x.sheet(0, INTS, -1, 7, 0);
            x.sheet(0, BYTES, -1, 7, 0);
        });
    }
}

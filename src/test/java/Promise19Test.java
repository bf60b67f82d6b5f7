/** Promise 19: banks. */
public final class Promise19Test extends Sentences {
    public static void main(String[] args) {
        new Promise19Test().run();
    }

    @Says("How many parts of dry CELLS")
    void noDryCell() {
        MovingBanks x = land(12, 12);
        x.sheet(0, 1, 12, -1, 0);
        x.map(0);
        due("all is water", x.banks(0), 0);
    }

    @Says("How many parts of dry CELLS")
    void noWater() {
        MovingBanks x = land(12, 12);
        x.map(0);
        due("all is dry", x.banks(0), 1);
    }

    @Says("How many parts of dry CELLS")
    void oneDryCell() {
        MovingBanks x = land(3, 3);
        draw(x, 0, "~~~", "~~~", "~~.");
        due("the last cell", x.banks(0), 1);
    }

    @Says("two are NEXT, if they share a side")
    void aCornerDoesNotHang() {
        MovingBanks x = land(2, 2);
        draw(x, 0, ".~", "~.");
        due("one way", x.banks(0), 2);
        draw(x, 1, "~.", ".~");
        due("the other way", x.banks(1), 2);
    }

    @Says("two are NEXT, if they share a side")
    void theEndOfARowDoesNotHangOnTheNext() {
        MovingBanks x = land(3, 2);
        draw(x, 0, "~~.", ".~~");
        due("banks", x.banks(0), 2);
    }

    @Says("How many parts of dry CELLS")
    void asManyAsThereCanBe() {
        MovingBanks x = land(12, 12);
        for (int y = 0; y < 12; y++) {
            x.water(y, y % 2 == 0 ? 0x555 : 0xAAA);
        }
        x.map(0);
        due("each dry one by itself", x.banks(0), 72);
    }

    @Says("that hang together by NEXT")
    void aLongBend() {
        MovingBanks x = land(12, 12);
        for (int y = 1; y < 12; y += 2) {
            x.water(y, y % 4 == 1 ? 0x7FF : 0xFFE);
        }
        x.map(0);
        due("one, to and fro", x.banks(0), 1);
        x.water(5, 0xFFF);
        x.map(1);
        due("cut in two", x.banks(1), 2);
    }

    @Says("that hang together by NEXT")
    void upAndDownAndToBothSides() {
        MovingBanks x = land(3, 3);
        draw(x, 0, ".~.", ".~.", "...");
        due("hanging together below", x.banks(0), 1);
        draw(x, 1, "...", ".~.", ".~.");
        due("hanging together above", x.banks(1), 1);
        draw(x, 2, "...", "~~.", "...");
        due("hanging together at the right", x.banks(2), 1);
        draw(x, 3, "...", ".~~", "...");
        due("hanging together at the left", x.banks(3), 1);
    }

    @Says("two are NEXT, if they share a side")
    void edgesAreNotNextToEachOther() {
        MovingBanks x = land(3, 3);
        draw(x, 0, ".~.", "~~~", ".~.");
        due("four corners", x.banks(0), 4);
        draw(x, 1, ".~.", ".~.", ".~.");
        due("left and right", x.banks(1), 2);
        draw(x, 2, "...", "~~~", "...");
        due("above and below", x.banks(2), 2);
    }

    @Says("there are in a YEAR")
    void theFirstAndTheLastYear() {
        MovingBanks x = land(3, 1);
        draw(x, 10, ".~.");
        draw(x, 20, "...");
        due("year 0", x.banks(0), 2);
        due("year 10", x.banks(10), 2);
        due("year 19", x.banks(19), 2);
        due("year 20", x.banks(20), 1);
        due("year 200", x.banks(200), 1);
    }

    @Says("NONE: no such YEAR")
    void noSuchYear() {
        MovingBanks x = ofAll();
        for (int year : new int[] {-1, 201, MIN, MAX}) {
            due("banks(" + year + ")", x.banks(year), NONE);
        }
    }

    @Says("NONE: no such YEAR, MAP.")
    void noMap() {
        MovingBanks x = land(3, 1);
        due("with none", x.banks(0), NONE);
        x.map(200);
        due("with one", x.banks(0), 1);
    }

    @Says("How many parts of dry CELLS")
    void ofASmallerLandBehindALarger() {
        MovingBanks x = land(12, 12);
        x.map(0);
        x.banks(0);
        x.land(2, 2);
        draw(x, 0, "~~", "~~");
        due("banks", x.banks(0), 0);
    }
}

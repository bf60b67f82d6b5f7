/** Promise 16: front. */
public final class Promise16Test extends Sentences {
    public static void main(String[] args) {
        new Promise16Test().run();
    }

    /** All of owner 1, but for the cells of owner 2 in a box. */
    private static MovingBanks boxOfTwo(int w, int h, int x1, int y1, int x2, int y2) {
        MovingBanks x = land(w, h);
        x.own(0, 0, w - 1, h - 1, 1);
        x.own(x1, y1, x2, y2, 2);
        return x;
    }

    @Says("how many of its dry CELLS are NEXT to WATER")
    void onEachSide() {
        MovingBanks x = boxOfTwo(3, 3, 1, 1, 1, 1);
        draw(x, 0, "...", "...", "...");
        draw(x, 1, ".~.", "...", "...");
        draw(x, 2, "...", "~..", "...");
        draw(x, 3, "...", "..~", "...");
        draw(x, 4, "...", "...", ".~.");
        x.law(0, 0, 0, 0);
        due("no water", x.front(2, 0), 0);
        for (int side = 1; side <= 4; side++) {
            due("side " + side, x.front(2, side), 1);
            due("owner 1's two", x.front(1, side), 2);
        }
    }

    @Says("two are NEXT, if they share a side")
    void aCornerIsNoFront() {
        MovingBanks x = boxOfTwo(3, 3, 1, 1, 1, 1);
        draw(x, 0, "~.~", "...", "~.~");
        due("owner 2", x.front(2, 0), 0);
        due("owner 1", x.front(1, 0), 4);
    }

    @Says("two are NEXT, if they share a side")
    void theEndOfARowIsNotNextToTheNextRow() {
        MovingBanks x = boxOfTwo(3, 2, 0, 1, 0, 1);
        draw(x, 0, "..~", "...");
        due("the row's first, behind water", x.front(2, 0), 0);
        MovingBanks y = boxOfTwo(3, 2, 2, 0, 2, 0);
        draw(y, 0, "...", "~..");
        due("the row's last, ahead of water", y.front(2, 0), 0);
    }

    @Says("two are NEXT, if they share a side")
    void cellsAtTheEdgesAreNotNextToCornersFarAway() {
        MovingBanks x = land(3, 3);
        x.own(0, 0, 2, 2, 1);
        draw(x, 0, "~..", "...", "...");
        due("the first is water", x.front(1, 0), 2);
        draw(x, 1, "..~", "...", "...");
        due("the row's last is water", x.front(1, 1), 2);
        draw(x, 2, "...", "...", "~..");
        due("the column's last is water", x.front(1, 2), 2);
        draw(x, 3, "...", "...", "..~");
        due("the last is water", x.front(1, 3), 2);
    }

    @Says("how many of its dry CELLS are NEXT to WATER")
    void theEdgeOfTheLandIsNoWater() {
        MovingBanks x = land(12, 12);
        x.own(0, 0, 11, 11, 1);
        x.map(0);
        due("all dry", x.front(1, 0), 0);
    }

    @Says("how many of its dry CELLS are NEXT to WATER")
    void aCellBetweenWatersCountsOnce() {
        MovingBanks x = boxOfTwo(3, 3, 1, 1, 1, 1);
        draw(x, 0, "~~~", "~.~", "~~~");
        due("owner 2", x.front(2, 0), 1);
        due("owner 1 has no dry one", x.front(1, 0), 0);
    }

    @Says("of its dry CELLS")
    void waterOfAnOwnerIsNoFront() {
        MovingBanks x = boxOfTwo(3, 1, 0, 0, 1, 0);
        draw(x, 0, "~~.");
        due("owner 2", x.front(2, 0), 0);
        due("owner 1", x.front(1, 0), 1);
    }

    @Says("Its FRONT")
    void ofNone() {
        MovingBanks x = land(3, 1);
        x.own(0, 0, 0, 0, 1);
        draw(x, 0, ".~.");
        due("none", x.front(NONE, 0), 1);
        due("owner 1", x.front(1, 0), 1);
    }

    @Says("OWNERS 0 .. 9")
    void theFirstAndTheLastOwner() {
        MovingBanks x = land(3, 1);
        x.own(0, 0, 0, 0, 0);
        x.own(2, 0, 2, 0, 9);
        draw(x, 0, ".~.");
        due("owner 0", x.front(0, 0), 1);
        due("owner 9", x.front(9, 0), 1);
        due("owner 5", x.front(5, 0), 0);
    }

    @Says("-2 likewise.")
    void noSuchOwner() {
        MovingBanks x = Promise15Test.bend();
        for (int owner : new int[] {-2, 10, MIN, MAX}) {
            due("front(" + owner + ", 10)", x.front(owner, 10), REFUSED);
        }
    }

    @Says("How many dry CELLS an OWNER (NONE: none) has in a YEAR.")
    void theFirstAndTheLastYear() {
        MovingBanks x = Promise15Test.bend();
        due("year 0", x.front(1, 0), 3);
        due("year 19", x.front(1, 19), 3);
        // (2, 0) above water and (1, 1) beside it.
        due("year 20", x.front(1, 20), 2);
        due("year 200", x.front(1, 200), 2);
    }

    @Says("-2 likewise.")
    void noSuchYear() {
        MovingBanks x = Promise15Test.bend();
        for (int year : new int[] {-1, 201, MIN, MAX}) {
            due("front(1, " + year + ")", x.front(1, year), REFUSED);
        }
    }

    @Says("-2 likewise.")
    void noMap() {
        MovingBanks x = land(2, 1);
        x.water(0, 1);
        due("owner 1", x.front(1, 0), REFUSED);
        due("none", x.front(NONE, 0), REFUSED);
        x.map(0);
        due("with a map", x.front(NONE, 0), 1);
    }
}

/** Promise 2: land. */
public final class Promise02Test extends Sentences {
    public static void main(String[] args) {
        new Promise02Test().run();
    }

    @Says("w columns, h rows (1 .. 12 each")
    void leastAndMost() {
        int[][] sizes = {{1, 1}, {12, 12}, {1, 12}, {12, 1}, {5, 3}};
        MovingBanks x = new MovingBanks();
        for (int[] size : sizes) {
            due("land(" + size[0] + ", " + size[1] + ")", x.land(size[0], size[1]), true);
            due("count(0)", x.count(0), size[0]);
            due("count(1)", x.count(1), size[1]);
        }
    }

    @Says("Refused: others.")
    void tooFewColumns() {
        MovingBanks x = new MovingBanks();
        due("land(0, 5)", x.land(0, 5), false);
        due("land(-1, 5)", x.land(-1, 5), false);
        due("land(MIN, 5)", x.land(MIN, 5), false);
    }

    @Says("Refused: others.")
    void tooFewRows() {
        MovingBanks x = new MovingBanks();
        due("land(5, 0)", x.land(5, 0), false);
        due("land(5, -1)", x.land(5, -1), false);
        due("land(5, MIN)", x.land(5, MIN), false);
        due("land(0, 0)", x.land(0, 0), false);
    }

    @Says("Refused: others.")
    void tooManyColumns() {
        MovingBanks x = new MovingBanks();
        due("land(13, 5)", x.land(13, 5), false);
        due("land(MAX, 5)", x.land(MAX, 5), false);
    }

    @Says("Refused: others.")
    void tooManyRows() {
        MovingBanks x = new MovingBanks();
        due("land(5, 13)", x.land(5, 13), false);
        due("land(5, MAX)", x.land(5, MAX), false);
        due("land(13, 13)", x.land(13, 13), false);
    }

    @Says("Refused calls answer NONE, or false, and change nothing.")
    void refusedChangesNothing() {
        changesNothing(x -> {
            x.land(0, 2);
            x.land(3, 0);
            x.land(13, 2);
            x.land(3, 13);
        });
    }

    @Says("of CELLS x, y (from 0 on, row by row)")
    void cellsOfTheLand() {
        MovingBanks x = land(5, 3);
        x.map(0);
        due("the first", x.wet(0, 0, 0), 0);
        due("the last", x.wet(4, 2, 0), 0);
        due("column 5", x.wet(5, 2, 0), NONE);
        due("row 3", x.wet(4, 3, 0), NONE);
    }

    @Says("no MAPS")
    void noMaps() {
        MovingBanks x = ofAll();
        due("the same land again", x.land(3, 2), true);
        due("count(2)", x.count(2), 0);
        due("wet", x.wet(0, 0, 50), NONE);
        due("step", x.step(1, 0), NONE);
        due("a map of an earlier year", x.map(0), 0);
    }

    @Says("no MAPS")
    void theNextMapBeginsDryAgain() {
        MovingBanks x = ofAll();
        x.water(0, 7);
        x.land(3, 2);
        x.map(0);
        waterDue(x, 0, "...", "...");
    }

    @Says("no MAPS, OWNERS")
    void noOwners() {
        MovingBanks x = land(12, 12);
        x.own(0, 0, 11, 11, 1);
        x.land(1, 1);
        x.land(12, 12);
        x.map(0);
        due("area of none", x.area(NONE, 0), 144);
    }

    @Says("as long as there is one MAP at most")
    void ownersCanBeToldAnew() {
        MovingBanks x = ofAll();
        due("with two maps", x.own(0, 0, 0, 0, 1), false);
        x.land(3, 2);
        due("with none", x.own(0, 0, 0, 0, 1), true);
    }

    @Says("no MAPS, OWNERS, DEEDS")
    void noDeeds() {
        MovingBanks x = ofAll();
        x.land(3, 2);
        due("count(3)", x.count(3), 0);
        due("count(4)", x.count(4), 0);
        due("strike", x.strike(0, true), false);
        x.own(0, 0, 2, 1, 1);
        x.map(0);
        ownersDue(x, 200, "111", "111");
        due("the first deed", x.deed(0, 0, 0, 0, 2, 0), 0);
        due("the second deed", x.deed(0, 0, 0, 0, 3, 0), 1);
        due("which is not struck, as the one ahead of land was", x.count(4), 2);
        due("and holds", x.owner(0, 0, 0), 3);
    }

    @Says("JUDGED STEPS")
    void noJudgedSteps() {
        MovingBanks x = oneLost(5);
        x.judge(1, 1);
        x.land(3, 1);
        draw(x, 0, "~..");
        draw(x, 5, "~~.");
        due("the step is slow by itself", x.step(1, 4), 0);
        due("and asked for doubts", x.weak(5), 1);
    }

    @Says("(LAWS and REACH stay)")
    void lawsStay() {
        MovingBanks x = oneLost(5);
        x.law(0, 0, 0, 0);
        x.land(3, 1);
        due("count(5)", x.count(5), 1);
        x.own(0, 0, 2, 0, 6);
        draw(x, 0, "~..");
        draw(x, 5, "~~.");
        due("by k", x.owner(1, 0, 5), 6);
    }

    @Says("(LAWS and REACH stay)")
    void reachStays() {
        MovingBanks x = new MovingBanks();
        x.reach(7);
        x.land(2, 2);
        due("count(6)", x.count(6), 7);
        due("reach", x.reach(1), 7);
    }

    @Says("ROW: numbers told last by a call that says so.")
    void theRowStays() {
        MovingBanks x = oneLost(5);
        x.chain(1, 0);
        x.land(2, 2);
        rowDue(x, 6, 0, NONE, 5);
    }
}

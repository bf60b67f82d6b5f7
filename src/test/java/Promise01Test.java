/** Promise 1: a new object. */
public final class Promise01Test extends Sentences {
    public static void main(String[] args) {
        new Promise01Test().run();
    }

    @Says("One CELL")
    void oneCell() {
        MovingBanks x = new MovingBanks();
        due("count(0)", x.count(0), 1);
        due("count(1)", x.count(1), 1);
        due("the cell", x.own(0, 0, 0, 0, 1), true);
        due("no second column", x.own(0, 0, 1, 0, 1), false);
        due("no second row", x.own(0, 0, 0, 1, 1), false);
        due("row 0", x.water(0, -1), 1);
        due("row 1", x.water(1, -1), NONE);
    }

    @Says("no MAPS")
    void noMaps() {
        MovingBanks x = new MovingBanks();
        due("count(2)", x.count(2), 0);
        due("wet", x.wet(0, 0, 0), NONE);
        due("owner", x.owner(0, 0, 0), REFUSED);
        due("banks", x.banks(0), NONE);
        due("step", x.step(1, 0), NONE);
        due("the first map", x.map(0), 0);
    }

    @Says("(It begins as the latest MAP, the first one dry.)")
    void theFirstMapIsDry() {
        MovingBanks x = new MovingBanks();
        x.map(0);
        due("wet", x.wet(0, 0, 0), 0);
        due("banks", x.banks(0), 1);
    }

    @Says("no MAPS, OWNERS, DEEDS.")
    void noOwners() {
        MovingBanks x = new MovingBanks();
        x.map(0);
        due("owner", x.owner(0, 0, 0), NONE);
        due("owner in the last year", x.owner(0, 0, 200), NONE);
        due("area of none", x.area(NONE, 0), 1);
    }

    @Says("no MAPS, OWNERS, DEEDS.")
    void noDeeds() {
        MovingBanks x = new MovingBanks();
        due("count(3)", x.count(3), 0);
        due("count(4)", x.count(4), 0);
        due("strike", x.strike(0, true), false);
        due("the first deed", x.deed(0, 0, 0, 0, 1, 0), 0);
    }

    @Says("at first 1")
    void noLawsToldAndReachOne() {
        MovingBanks x = new MovingBanks();
        due("count(5)", x.count(5), 0);
        due("count(6)", x.count(6), 1);
        due("count(7)", x.count(7), 0);
    }

    @Says("A new object")
    void objectsHaveNothingInCommon() {
        MovingBanks x = ofAll();
        countsDue(new MovingBanks(), 1, 1, 0, 0, 0, 0, 1, 0);
        countsDue(x, 3, 2, 2, 2, 1, 1, 3, 4);
    }

    @Says("An object is used for at most 512 calls after it has been made")
    void theLast512thCall() {
        MovingBanks x = land(12, 12);
        x.own(0, 0, 11, 11, 1);
        x.map(0);
        for (int call = 3; call < 511; call++) {
            x.tax(1, 0, 200);
        }
        due("the 512th call", x.tax(1, 0, 200), 144 * 201);
    }
}

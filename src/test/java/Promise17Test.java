/** Promise 17: tax. */
public final class Promise17Test extends Sentences {
    public static void main(String[] args) {
        new Promise17Test().run();
    }

    @Says("(both too)")
    void bothYearsToo() {
        MovingBanks x = Promise15Test.bend();
        due("19 to 20", x.tax(1, 19, 20), 4 + 5);
        due("18 to 20", x.tax(1, 18, 20), 4 + 4 + 5);
        due("20 to 22", x.tax(1, 20, 22), 5 + 5 + 5);
    }

    @Says("(both too)")
    void oneYear() {
        MovingBanks x = Promise15Test.bend();
        due("19", x.tax(1, 19, 19), 4);
        due("20", x.tax(1, 20, 20), 5);
        due("0", x.tax(1, 0, 0), 4);
        due("200", x.tax(1, 200, 200), 5);
    }

    @Says("The sum of its areas over YEARS")
    void allYears() {
        MovingBanks x = Promise15Test.bend();
        due("owner 1", x.tax(1, 0, 200), 20 * 4 + 181 * 5);
        due("owner 2", x.tax(2, 0, 200), 20 * 3 + 181 * 2);
    }

    @Says("The sum of its areas over YEARS")
    void theMostThatThereCanBe() {
        MovingBanks x = land(12, 12);
        x.own(0, 0, 11, 11, 9);
        x.map(200);
        due("all of it", x.tax(9, 0, 200), 144 * 201);
        due("nothing of it", x.tax(0, 0, 200), 0);
    }

    @Says("The sum of its areas over YEARS")
    void deedsOnTheWay() {
        MovingBanks x = Promise15Test.bend();
        x.deed(0, 0, 0, 0, 9, 15);
        x.deed(0, 0, 0, 0, 1, 17);
        due("owner 9", x.tax(9, 10, 20), 2);
        due("owner 1", x.tax(1, 14, 18), 4 + 3 + 3 + 4 + 4);
        due("from within", x.tax(9, 16, 20), 1);
    }

    @Says("The sum of its areas over YEARS")
    void ofNone() {
        due("none", Promise15Test.bend().tax(NONE, 0, 19), 20 * 3);
    }

    @Says("or from above to")
    void fromAboveTo() {
        MovingBanks x = Promise15Test.bend();
        due("20 to 19", x.tax(1, 20, 19), REFUSED);
        due("1 to 0", x.tax(1, 1, 0), REFUSED);
        due("200 to 0", x.tax(1, 200, 0), REFUSED);
    }

    @Says("-2 likewise")
    void noSuchOwner() {
        MovingBanks x = Promise15Test.bend();
        for (int owner : new int[] {-2, 10, MIN, MAX}) {
            due("tax(" + owner + ", 0, 1)", x.tax(owner, 0, 1), REFUSED);
        }
        due("owner 0", x.tax(0, 0, 1), 0);
        due("owner 9", x.tax(9, 0, 1), 0);
    }

    @Says("-2 likewise")
    void noSuchYearToBeginWith() {
        MovingBanks x = Promise15Test.bend();
        for (int year : new int[] {-1, 201, MIN, MAX}) {
            due("tax(1, " + year + ", 200)", x.tax(1, year, 200), REFUSED);
        }
        due("201 to 201", x.tax(1, 201, 201), REFUSED);
        due("-1 to -1", x.tax(1, -1, -1), REFUSED);
    }

    @Says("-2 likewise")
    void noSuchYearToEndWith() {
        MovingBanks x = Promise15Test.bend();
        for (int year : new int[] {-1, 201, MIN, MAX}) {
            due("tax(1, 0, " + year + ")", x.tax(1, 0, year), REFUSED);
        }
    }

    @Says("-2 likewise")
    void noMap() {
        MovingBanks x = new MovingBanks();
        due("owner 1", x.tax(1, 0, 200), REFUSED);
        due("none", x.tax(NONE, 0, 0), REFUSED);
        x.map(0);
        due("with a map", x.tax(NONE, 0, 200), 201);
    }
}

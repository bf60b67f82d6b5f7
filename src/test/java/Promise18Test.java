/** Promise 18: chain. */
public final class Promise18Test extends Sentences {
    public static void main(String[] args) {
        new Promise18Test().run();
    }

    /** One cell of owner 1, on a map of a year. */
    private static MovingBanks oneCell(int year) {
        MovingBanks x = new MovingBanks();
        x.own(0, 0, 0, 0, 1);
        x.map(year);
        return x;
    }

    @Says("how many OWNERS")
    void oneOwner() {
        MovingBanks x = oneCell(10);
        due("chain", x.chain(0, 0), 1);
        rowDue(x, 1, 10);
    }

    @Says("owner, year, owner, year, ..")
    void manyOwners() {
        MovingBanks x = oneCell(10);
        x.deed(0, 0, 0, 0, 3, 60);
        x.deed(0, 0, 0, 0, 2, 50);
        x.deed(0, 0, 0, 0, 1, 70);
        due("chain", x.chain(0, 0), 4);
        rowDue(x, 1, 10, 2, 50, 3, 60, 1, 70);
    }

    @Says("(the first with the YEAR of MAP 0")
    void theFirstWithTheYearOfMapZero() {
        MovingBanks x = oneCell(10);
        x.deed(0, 0, 0, 0, 2, 0);
        x.deed(0, 0, 0, 0, 3, 9);
        due("deeds ahead of it", x.chain(0, 0), 1);
        rowDue(x, 3, 10);
        x.deed(0, 0, 0, 0, 4, 10);
        due("a deed of that year", x.chain(0, 0), 1);
        rowDue(x, 4, 10);
        x.deed(0, 0, 0, 0, 5, 11);
        due("a deed a year behind", x.chain(0, 0), 2);
        rowDue(x, 4, 10, 5, 11);
    }

    @Says("(the first with the YEAR of MAP 0")
    void mapZeroOfTheFirstAndOfTheLastYear() {
        MovingBanks x = oneCell(0);
        due("year 0", x.chain(0, 0), 1);
        rowDue(x, 1, 0);
        MovingBanks y = oneCell(200);
        y.deed(0, 0, 0, 0, 2, 199);
        y.deed(0, 0, 0, 0, 3, 200);
        due("year 200", y.chain(0, 0), 1);
        rowDue(y, 3, 200);
    }

    @Says("up to YEAR 200")
    void upToTheLastYear() {
        MovingBanks x = oneCell(10);
        x.deed(0, 0, 0, 0, 2, 199);
        x.deed(0, 0, 0, 0, 3, 200);
        due("chain", x.chain(0, 0), 3);
        rowDue(x, 1, 10, 2, 199, 3, 200);
    }

    @Says("only where it becomes another one")
    void theSameOwnerIsNotToldAgain() {
        MovingBanks x = oneCell(10);
        x.deed(0, 0, 0, 0, 1, 20);
        x.map(30);
        x.deed(0, 0, 0, 0, 2, 40);
        x.deed(0, 0, 0, 0, 2, 50);
        due("chain", x.chain(0, 0), 2);
        rowDue(x, 1, 10, 2, 40);
    }

    @Says("as it is behind all of a YEAR")
    void behindAllDeedsOfAYear() {
        MovingBanks x = oneCell(10);
        x.deed(0, 0, 0, 0, 2, 20);
        x.deed(0, 0, 0, 0, 1, 20);
        due("there and back", x.chain(0, 0), 1);
        rowDue(x, 1, 10);
        x.deed(0, 0, 0, 0, 3, 20);
        due("and on", x.chain(0, 0), 2);
        rowDue(x, 1, 10, 3, 20);
    }

    @Says("as it is behind all of a YEAR")
    void behindAStepAndADeedOfAYear() {
        MovingBanks x = land(2, 1);
        x.own(0, 0, 1, 0, 1);
        x.own(1, 0, 1, 0, 2);
        draw(x, 10, ".~");
        x.deed(1, 0, 1, 0, 2, 20);
        draw(x, 20, "..");
        due("1 by the step, 2 again by the deed", x.chain(1, 0), 1);
        rowDue(x, 2, 10);
    }

    @Says("The ROW: the OWNER of a CELL from MAP 0's YEAR on")
    void noneIsToldToo() {
        MovingBanks x = oneLost(5);
        due("lost", x.chain(1, 0), 2);
        rowDue(x, 6, 0, NONE, 5);
        MovingBanks y = new MovingBanks();
        y.map(7);
        due("never any", y.chain(0, 0), 1);
        rowDue(y, NONE, 7);
    }

    @Says("The ROW: the OWNER of a CELL from MAP 0's YEAR on")
    void waterToo() {
        MovingBanks x = oneLost(5);
        due("water of owner 6", x.chain(0, 0), 1);
        rowDue(x, 6, 0);
    }

    @Says("how many OWNERS")
    void asManyAsThereCanBe() {
        MovingBanks x = land(2, 1);
        x.own(1, 0, 1, 0, 0);
        for (int m = 0; m < 10; m++) {
            draw(x, m, m % 2 == 0 ? "~." : "..");
        }
        x.law(0, 1, 1, 0);
        for (int d = 0; d < 30; d++) {
            x.deed(0, 0, 0, 0, 1 + d % 2, 10 + d);
        }
        due("chain", x.chain(0, 0), 40);
        due("count(7)", x.count(7), 80);
        due("the last owner", x.row(78), 2);
        due("the last year", x.row(79), 39);
        noRow(x, 80);
    }

    @Says("the OWNER of a CELL from MAP 0's YEAR on, and the YEAR in which it got that")
    void theFirstAndTheLastCell() {
        MovingBanks x = land(12, 12);
        x.own(0, 0, 0, 0, 0);
        x.own(11, 11, 11, 11, 9);
        x.map(3);
        due("the first", x.chain(0, 0), 1);
        rowDue(x, 0, 3);
        due("the last", x.chain(11, 11), 1);
        rowDue(x, 9, 3);
    }

    @Says("NONE: no such CELL")
    void noSuchColumn() {
        MovingBanks x = ofAll();
        for (int column : new int[] {-1, 3, MIN, MAX}) {
            due("chain(" + column + ", 0)", x.chain(column, 0), NONE);
        }
    }

    @Says("NONE: no such CELL")
    void noSuchRow() {
        MovingBanks x = ofAll();
        for (int row : new int[] {-1, 2, MIN, MAX}) {
            due("chain(0, " + row + ")", x.chain(0, row), NONE);
        }
    }

    @Says("NONE: no such CELL, no MAP.")
    void noMap() {
        MovingBanks x = new MovingBanks();
        x.own(0, 0, 0, 0, 1);
        due("with none", x.chain(0, 0), NONE);
        rowDue(x);
        x.map(200);
        due("with one", x.chain(0, 0), 1);
    }

    @Says("Refused calls answer NONE, or false, and change nothing.")
    void refusedLeavesTheRow() {
        MovingBanks x = ofAll();
        x.chain(3, 0);
        x.chain(0, 2);
        x.chain(-1, -1);
        rowDue(x, 4, 10, 6, 12);
        x.land(3, 2);
        due("no map any more", x.chain(0, 0), NONE);
        rowDue(x, 4, 10, 6, 12);
    }
}

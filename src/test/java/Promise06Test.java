/** Promise 6: own. */
public final class Promise06Test extends Sentences {
    public static void main(String[] args) {
        new Promise06Test().run();
    }

    @Says("FIRST of all CELLS of a box becomes an OWNER")
    void aBox() {
        MovingBanks x = land(4, 4);
        due("own", x.own(1, 1, 2, 3, 5), true);
        x.map(0);
        ownersDue(x, 0, "----", "-55-", "-55-", "-55-");
    }

    @Says("(x, y to x2, y2, both too")
    void aBoxOfOneCell() {
        MovingBanks x = land(3, 2);
        due("the first cell", x.own(0, 0, 0, 0, 1), true);
        due("the last cell", x.own(2, 1, 2, 1, 2), true);
        x.map(0);
        ownersDue(x, 0, "1--", "--2");
    }

    @Says("(x, y to x2, y2, both too")
    void aBoxOfAllCells() {
        MovingBanks x = land(12, 12);
        due("own", x.own(0, 0, 11, 11, 9), true);
        x.map(0);
        due("all of them", x.area(9, 0), 144);
    }

    @Says("none less than the first.)")
    void columnsTheWrongWayRound() {
        MovingBanks x = land(3, 3);
        due("x2 one less", x.own(2, 0, 1, 2, 1), false);
        due("x2 equal", x.own(2, 0, 2, 2, 1), true);
    }

    @Says("none less than the first.)")
    void rowsTheWrongWayRound() {
        MovingBanks x = land(3, 3);
        due("y2 one less", x.own(0, 2, 2, 1, 1), false);
        due("y2 equal", x.own(0, 2, 2, 2, 1), true);
    }

    @Says("false for others")
    void aBoxBeyondTheColumns() {
        MovingBanks x = land(4, 3);
        due("x -1", x.own(-1, 0, 3, 2, 1), false);
        due("x MIN", x.own(MIN, 0, 3, 2, 1), false);
        due("x2 4", x.own(0, 0, 4, 2, 1), false);
        due("x2 MAX", x.own(0, 0, MAX, 2, 1), false);
        due("all of it beyond", x.own(4, 0, 4, 2, 1), false);
        due("all of it ahead", x.own(-1, 0, -1, 2, 1), false);
    }

    @Says("false for others")
    void aBoxBeyondTheRows() {
        MovingBanks x = land(4, 3);
        due("y -1", x.own(0, -1, 3, 2, 1), false);
        due("y MIN", x.own(0, MIN, 3, 2, 1), false);
        due("y2 3", x.own(0, 0, 3, 3, 1), false);
        due("y2 MAX", x.own(0, 0, 3, MAX, 1), false);
        due("all of it beyond", x.own(0, 3, 3, 3, 1), false);
        due("all of it ahead", x.own(0, -1, 3, -1, 1), false);
    }

    @Says("OWNERS 0 .. 9, or none (NONE).")
    void theFirstAndTheLastOwner() {
        MovingBanks x = land(2, 1);
        due("owner 0", x.own(0, 0, 0, 0, 0), true);
        due("owner 9", x.own(1, 0, 1, 0, 9), true);
        x.map(0);
        ownersDue(x, 0, "09");
    }

    @Says("(NONE: none)")
    void ownerNone() {
        MovingBanks x = land(2, 1);
        x.own(0, 0, 1, 0, 3);
        due("owner NONE", x.own(0, 0, 0, 0, NONE), true);
        x.map(0);
        ownersDue(x, 0, "-3");
    }

    @Says("false for others")
    void noSuchOwner() {
        MovingBanks x = land(2, 1);
        for (int owner : new int[] {10, -2, MIN, MAX}) {
            due("owner " + owner, x.own(0, 0, 1, 0, owner), false);
        }
    }

    @Says("as long as there is one MAP at most (at first none)")
    void withNoMapAndWithOne() {
        MovingBanks x = land(3, 1);
        due("with none", x.own(0, 0, 1, 0, 1), true);
        x.map(10);
        due("with one", x.own(1, 0, 2, 0, 2), true);
        ownersDue(x, 10, "122");
    }

    @Says("more than one MAP")
    void withTwoMaps() {
        MovingBanks x = land(3, 1);
        x.own(0, 0, 2, 0, 1);
        x.map(10);
        x.map(11);
        due("with two", x.own(0, 0, 2, 0, 2), false);
        due("none, with two", x.own(0, 0, 2, 0, NONE), false);
        ownersDue(x, 0, "111");
    }

    @Says("more than one MAP")
    void withTenMaps() {
        MovingBanks x = new MovingBanks();
        for (int m = 0; m < 10; m++) {
            x.map(m);
        }
        due("with ten", x.own(0, 0, 0, 0, 2), false);
    }

    @Says("they hold in all YEARS up to that of MAP 0 (and on, till something changes them)")
    void firstHoldsInAllYears() {
        MovingBanks x = land(2, 1);
        x.own(0, 0, 0, 0, 4);
        draw(x, 100, ".~");
        for (int year : new int[] {0, 1, 99, 100, 101, 200}) {
            ownersDue(x, year, "4-");
        }
    }

    @Says("FIRST of all CELLS of a box")
    void waterToo() {
        MovingBanks x = land(2, 1);
        draw(x, 10, ".~");
        due("own", x.own(0, 0, 1, 0, 4), true);
        ownersDue(x, 10, "44");
    }

    @Says("becomes an OWNER")
    void toldAgain() {
        MovingBanks x = land(3, 1);
        x.own(0, 0, 2, 0, 1);
        x.own(1, 0, 1, 0, 2);
        x.map(0);
        ownersDue(x, 0, "121");
    }

    @Says("Refused calls answer NONE, or false, and change nothing.")
    void refusedChangesNothing() {
        MovingBanks x = land(3, 2);
        x.own(0, 0, 2, 1, 3);
        x.own(0, 0, 2, 1, 10);
        x.own(0, 0, 2, 1, -2);
        x.own(0, 0, 3, 1, 1);
        x.own(0, 0, 2, 2, 1);
        x.own(-1, 0, 2, 1, 1);
        x.own(0, -1, 2, 1, 1);
        x.own(2, 0, 1, 1, 1);
        x.own(0, 1, 2, 0, 1);
        x.map(0);
        ownersDue(x, 0, "333", "333");
    }
}

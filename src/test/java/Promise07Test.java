/** Promise 7: deed. */
public final class Promise07Test extends Sentences {
    public static void main(String[] args) {
        new Promise07Test().run();
    }

    /** Owner 1 has all of three columns and two rows, in all years. */
    private static MovingBanks allOfOne() {
        MovingBanks x = land(3, 2);
        x.own(0, 0, 2, 1, 1);
        x.map(50);
        return x;
    }

    @Says("A DEED: its number.")
    void numbersFromZeroOn() {
        MovingBanks x = allOfOne();
        due("the first", x.deed(0, 0, 0, 0, 2, 90), 0);
        due("the second", x.deed(0, 0, 0, 0, 2, 80), 1);
        due("the third", x.deed(0, 0, 0, 0, 2, 100), 2);
        due("count(3)", x.count(3), 3);
    }

    @Says("DEEDS 0 .. (at most 30)")
    void thirtyDeeds() {
        MovingBanks x = allOfOne();
        for (int d = 0; d < 29; d++) {
            x.deed(0, 0, 0, 0, 2, 60);
        }
        due("the thirtieth", x.deed(0, 0, 0, 0, 3, 60), 29);
        due("one more", x.deed(0, 0, 0, 0, 4, 60), NONE);
        due("count(3)", x.count(3), 30);
        due("the thirtieth holds", x.owner(0, 0, 60), 3);
    }

    @Says("NONE: no such box, OWNER, YEAR; 30.")
    void struckOnesCountToo() {
        MovingBanks x = allOfOne();
        for (int d = 0; d < 30; d++) {
            x.deed(0, 0, 0, 0, 2, 60);
            x.strike(d, true);
        }
        due("one more", x.deed(0, 0, 0, 0, 4, 60), NONE);
    }

    @Says("each of a box of CELLS")
    void aBoxWithItsEdges() {
        MovingBanks x = land(4, 4);
        x.own(0, 0, 3, 3, 1);
        x.map(0);
        x.deed(1, 1, 2, 3, 2, 5);
        ownersDue(x, 5, "1111", "1221", "1221", "1221");
    }

    @Says("each of a box of CELLS")
    void aBoxOfOneCellAndOfAll() {
        MovingBanks x = allOfOne();
        due("the last cell", x.deed(2, 1, 2, 1, 2, 60), 0);
        ownersDue(x, 60, "111", "112");
        due("all cells", x.deed(0, 0, 2, 1, 3, 61), 1);
        ownersDue(x, 61, "333", "333");
    }

    @Says("NONE: no such box")
    void aBoxTheWrongWayRound() {
        MovingBanks x = allOfOne();
        due("x above x2", x.deed(2, 0, 1, 1, 2, 60), NONE);
        due("y above y2", x.deed(0, 1, 2, 0, 2, 60), NONE);
    }

    @Says("NONE: no such box")
    void aBoxBeyondTheColumns() {
        MovingBanks x = allOfOne();
        due("x -1", x.deed(-1, 0, 2, 1, 2, 60), NONE);
        due("x MIN", x.deed(MIN, 0, 2, 1, 2, 60), NONE);
        due("x2 3", x.deed(0, 0, 3, 1, 2, 60), NONE);
        due("x2 MAX", x.deed(0, 0, MAX, 1, 2, 60), NONE);
        due("all of it beyond", x.deed(3, 0, 3, 1, 2, 60), NONE);
    }

    @Says("NONE: no such box")
    void aBoxBeyondTheRows() {
        MovingBanks x = allOfOne();
        due("y -1", x.deed(0, -1, 2, 1, 2, 60), NONE);
        due("y MIN", x.deed(0, MIN, 2, 1, 2, 60), NONE);
        due("y2 2", x.deed(0, 0, 2, 2, 2, 60), NONE);
        due("y2 MAX", x.deed(0, 0, 2, MAX, 2, 60), NONE);
        due("all of it beyond", x.deed(0, 2, 2, 2, 2, 60), NONE);
    }

    @Says("OWNERS 0 .. 9")
    void theFirstAndTheLastOwner() {
        MovingBanks x = allOfOne();
        due("owner 0", x.deed(0, 0, 0, 0, 0, 60), 0);
        due("owner 9", x.deed(1, 0, 1, 0, 9, 60), 1);
        ownersDue(x, 60, "091", "111");
    }

    @Says("NONE: no such box, OWNER")
    void noSuchOwner() {
        MovingBanks x = allOfOne();
        for (int owner : new int[] {NONE, 10, -2, MIN, MAX}) {
            due("owner " + owner, x.deed(0, 0, 0, 0, owner, 60), NONE);
        }
    }

    @Says("YEARS 0 .. 200.")
    void theFirstAndTheLastYear() {
        MovingBanks x = allOfOne();
        due("year 0", x.deed(0, 0, 0, 0, 2, 0), 0);
        due("year 200", x.deed(0, 0, 0, 0, 3, 200), 1);
        due("from 0 on", x.owner(0, 0, 0), 2);
        due("up to 199", x.owner(0, 0, 199), 2);
        due("in 200", x.owner(0, 0, 200), 3);
    }

    @Says("NONE: no such box, OWNER, YEAR")
    void noSuchYear() {
        MovingBanks x = allOfOne();
        for (int year : new int[] {-1, 201, MIN, MAX}) {
            due("year " + year, x.deed(0, 0, 0, 0, 2, year), NONE);
        }
    }

    @Says("In its YEAR")
    void notAYearAhead() {
        MovingBanks x = allOfOne();
        x.deed(0, 0, 0, 0, 2, 60);
        due("year 59", x.owner(0, 0, 59), 1);
        due("year 60", x.owner(0, 0, 60), 2);
        due("year 61", x.owner(0, 0, 61), 2);
    }

    @Says("(behind a STEP of that YEAR")
    void behindAStepOfThatYear() {
        MovingBanks x = land(3, 1);
        x.own(0, 0, 0, 0, 1);
        x.own(2, 0, 2, 0, 3);
        draw(x, 10, ".~.");
        x.deed(0, 0, 2, 0, 7, 20);
        due("ahead of the step it is water", x.owner(1, 0, 20), NONE);
        draw(x, 20, "..~");
        ownersDue(x, 20, "77-");
        ownersDue(x, 19, "1-3");
    }

    @Says("DEEDS of one YEAR in order of their numbers")
    void ofOneYearByNumbers() {
        MovingBanks x = allOfOne();
        x.deed(0, 0, 1, 0, 5, 60);
        x.deed(1, 0, 2, 0, 4, 60);
        ownersDue(x, 60, "544", "111");
    }

    @Says("In its YEAR")
    void ofManyYearsByYears() {
        MovingBanks x = allOfOne();
        x.deed(0, 0, 0, 0, 5, 70);
        x.deed(0, 0, 0, 0, 4, 60);
        x.deed(0, 0, 0, 0, 6, 65);
        due("year 60", x.owner(0, 0, 60), 4);
        due("year 65", x.owner(0, 0, 65), 6);
        due("year 70", x.owner(0, 0, 70), 5);
        due("year 200", x.owner(0, 0, 200), 5);
    }

    @Says("In its YEAR")
    void ofYearsThatGoBackwards() {
        MovingBanks x = allOfOne();
        for (int d = 0; d < 30; d++) {
            x.deed(0, 0, 0, 0, d % 10, 129 - d);
        }
        for (int d = 0; d < 30; d++) {
            due("year " + (129 - d), x.owner(0, 0, 129 - d), d % 10);
        }
        due("ahead of them", x.owner(0, 0, 99), 1);
    }

    @Says("each dry CELL of the box")
    void waterIsNotGiven() {
        MovingBanks x = land(3, 1);
        x.own(0, 0, 2, 0, 1);
        draw(x, 10, ".~.");
        x.deed(0, 0, 2, 0, 2, 20);
        ownersDue(x, 20, "212");
    }

    @Says("that has an OWNER gets the DEED's")
    void withoutAnOwnerNothingIsGiven() {
        MovingBanks x = land(3, 1);
        x.own(0, 0, 0, 0, 0);
        x.map(10);
        x.deed(0, 0, 2, 0, 2, 20);
        ownersDue(x, 20, "2--");
    }

    @Says("DEEDS of YEARS up to that of MAP 0 come behind FIRST, on MAP 0.")
    void inTheYearOfMapZeroAndAhead() {
        MovingBanks x = land(3, 1);
        x.own(0, 0, 2, 0, 1);
        x.deed(0, 0, 1, 0, 2, 50);
        x.deed(1, 0, 2, 0, 3, 49);
        draw(x, 50, "..~");
        ownersDue(x, 48, "111");
        ownersDue(x, 49, "131");
        ownersDue(x, 50, "221");
    }

    @Says("DEEDS of YEARS up to that of MAP 0 come behind FIRST, on MAP 0.")
    void ownersToldLaterComeAheadOfThem() {
        MovingBanks x = land(1, 1);
        x.deed(0, 0, 0, 0, 2, 5);
        x.map(10);
        due("of none", x.owner(0, 0, 10), NONE);
        x.own(0, 0, 0, 0, 1);
        due("of one", x.owner(0, 0, 10), 2);
        due("year 4", x.owner(0, 0, 4), 1);
    }

    @Says("Refused calls answer NONE, or false, and change nothing.")
    void refusedChangesNothing() {
        changesNothing(x -> {
            x.deed(0, 0, 3, 1, 8, 0);
            x.deed(0, 0, 2, 2, 8, 0);
            x.deed(-1, 0, 2, 1, 8, 0);
            x.deed(0, -1, 2, 1, 8, 0);
            x.deed(1, 0, 0, 1, 8, 0);
            x.deed(0, 1, 2, 0, 8, 0);
            x.deed(0, 0, 2, 1, NONE, 0);
            x.deed(0, 0, 2, 1, 10, 0);
            x.deed(0, 0, 2, 1, 8, -1);
            x.deed(0, 0, 2, 1, 8, 201);
        });
    }
}

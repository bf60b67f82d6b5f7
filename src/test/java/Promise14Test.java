/** Promise 14: owner, by FIRST, by deeds and by what a step does. */
public final class Promise14Test extends Sentences {
    private static final int ISLE_N = 0;
    private static final int ISLE_S = 1;
    private static final int ISLE_K = 2;

    public static void main(String[] args) {
        new Promise14Test().run();
    }

    /** All steps by g, and isles as told. */
    private static MovingBanks byG(int w, int h, int isles) {
        MovingBanks x = land(w, h);
        x.law(0, 1, 1, isles);
        return x;
    }

    private static void tellOwners(MovingBanks x, String... rows) {
        for (int y = 0; y < rows.length; y++) {
            for (int c = 0; c < rows[y].length(); c++) {
                x.own(c, y, c, y, rows[y].charAt(c) == '-' ? NONE : rows[y].charAt(c) - '0');
            }
        }
    }

    // ---- what is asked

    @Says("The OWNER of a CELL in a YEAR")
    void theFirstAndTheLastCell() {
        MovingBanks x = land(12, 12);
        x.own(0, 0, 0, 0, 0);
        x.own(11, 11, 11, 11, 9);
        x.map(0);
        due("the first", x.owner(0, 0, 0), 0);
        due("the last", x.owner(11, 11, 0), 9);
        due("another one", x.owner(11, 0, 0), NONE);
    }

    @Says("-2: no such CELL")
    void noSuchColumn() {
        MovingBanks x = ofAll();
        for (int column : new int[] {-1, 3, MIN, MAX}) {
            due("owner(" + column + ", 0, 10)", x.owner(column, 0, 10), REFUSED);
        }
    }

    @Says("-2: no such CELL")
    void noSuchRow() {
        MovingBanks x = ofAll();
        for (int row : new int[] {-1, 2, MIN, MAX}) {
            due("owner(0, " + row + ", 10)", x.owner(0, row, 10), REFUSED);
        }
    }

    @Says("-2: no such CELL, YEAR")
    void noSuchYear() {
        MovingBanks x = ofAll();
        for (int year : new int[] {-1, 201, MIN, MAX}) {
            due("owner(0, 0, " + year + ")", x.owner(0, 0, year), REFUSED);
        }
        due("year 0", x.owner(0, 0, 0), 4);
        due("year 200", x.owner(0, 0, 200), 6);
    }

    @Says("-2: no such CELL, YEAR, no MAP.")
    void noMap() {
        MovingBanks x = land(2, 1);
        x.own(0, 0, 0, 0, 3);
        due("with none", x.owner(0, 0, 0), REFUSED);
        due("of none, with none", x.owner(1, 0, 0), REFUSED);
        x.map(200);
        due("with one", x.owner(0, 0, 0), 3);
        due("of none, with one", x.owner(1, 0, 0), NONE);
    }

    @Says("(behind all of that YEAR)")
    void behindStepAndDeedsOfThatYear() {
        MovingBanks x = land(3, 1);
        tellOwners(x, "1-3");
        draw(x, 10, ".~.");
        x.deed(1, 0, 1, 0, 7, 20);
        x.deed(1, 0, 1, 0, 8, 20);
        draw(x, 20, "...");
        ownersDue(x, 19, "1-3");
        ownersDue(x, 20, "183");
    }

    // ---- by k

    @Says("By k (of SLOW, SUDDEN, as the STEP is) all OWNERS stay, of WATER too.")
    void byKAllStay() {
        MovingBanks x = land(5, 1);
        x.law(0, 0, 0, ISLE_N);
        tellOwners(x, "12345");
        draw(x, 10, "..~~.");
        draw(x, 20, "~...~");
        ownersDue(x, 20, "12345");
        draw(x, 30, "~~~~~");
        ownersDue(x, 30, "12345");
        draw(x, 40, ".....");
        ownersDue(x, 40, "12345");
    }

    @Says("all OWNERS stay")
    void byKTheIsleLawIsNotAsked() {
        MovingBanks x = land(5, 1);
        x.law(0, 0, 0, ISLE_S);
        tellOwners(x, "12345");
        draw(x, 10, ".~~~.");
        draw(x, 20, ".~.~.");
        ownersDue(x, 20, "12345");
    }

    // ---- by g

    @Says("By g LOST CELLS have none")
    void lostCellsHaveNone() {
        MovingBanks x = byG(4, 1, ISLE_N);
        tellOwners(x, "1234");
        draw(x, 10, "~...");
        draw(x, 20, "~~..");
        ownersDue(x, 20, "1-34");
        draw(x, 30, "~~~~");
        ownersDue(x, 30, "1---");
    }

    @Says("By g LOST CELLS have none; NEW ones: PARTS")
    void waterThatStaysWaterKeepsItsOwner() {
        MovingBanks x = byG(3, 1, ISLE_N);
        tellOwners(x, "123");
        draw(x, 10, ".~~");
        draw(x, 20, "..~");
        ownersDue(x, 20, "113");
    }

    @Says("FAST: dry on both")
    void fastCellsKeepTheirOwner() {
        MovingBanks x = byG(4, 1, ISLE_N);
        tellOwners(x, "1-3-");
        draw(x, 10, "...~");
        draw(x, 20, "....");
        ownersDue(x, 20, "1-33");
    }

    @Says("A PART of which some CELL is NEXT to a FAST one is SHORE")
    void onlyOneCellOfThePartIsNext() {
        MovingBanks x = byG(5, 1, ISLE_S);
        tellOwners(x, "1----");
        draw(x, 10, ".~~~~");
        draw(x, 20, ".....");
        ownersDue(x, 20, "11111");
    }

    @Says("two are NEXT, if they share a side")
    void aCornerMakesNoShore() {
        MovingBanks x = byG(3, 3, ISLE_S);
        tellOwners(x, "555", "555", "555");
        draw(x, 10, ".~.", "~~~", ".~.");
        draw(x, 20, ".~.", "~.~", ".~.");
        ownersDue(x, 20, "555", "5-5", "555");
    }

    @Says("two are NEXT, if they share a side")
    void theEndOfARowIsNotNextToTheNextRow() {
        MovingBanks x = byG(3, 2, ISLE_S);
        tellOwners(x, "555", "555");
        draw(x, 10, "~~~", ".~~");
        draw(x, 20, "~~.", ".~~");
        ownersDue(x, 20, "55-", "555");
        MovingBanks y = byG(3, 2, ISLE_S);
        tellOwners(y, "555", "555");
        draw(y, 10, "~~.", "~~~");
        draw(y, 20, "~~.", ".~~");
        ownersDue(y, 20, "555", "-55");
    }

    @Says("two are NEXT, if they share a side")
    void cellsAtTheEdgesAreNotNextToTheFirstOne() {
        for (int[] cell : new int[][] {{0, 2}, {2, 2}, {2, 0}}) {
            MovingBanks x = byG(3, 3, ISLE_S);
            x.own(0, 0, 2, 2, 5);
            draw(x, 10, ".~~", "~~~", "~~~");
            x.water(cell[1], ~(1 << cell[0]) & (cell[1] == 0 ? ~1 : ~0));
            x.map(20);
            due("an isle at " + cell[0] + ", " + cell[1], x.owner(cell[0], cell[1], 20), NONE);
        }
    }

    @Says("FAST: dry on both")
    void aLostCellMakesNoShore() {
        MovingBanks x = byG(4, 1, ISLE_S);
        tellOwners(x, "1234");
        draw(x, 10, "..~~");
        draw(x, 20, ".~.~");
        ownersDue(x, 20, "1--4");
    }

    @Says("by the sum of the differences of columns and rows")
    void theNearestByTheSum() {
        MovingBanks x = byG(7, 3, ISLE_S);
        tellOwners(x, "-1-----", "-------", "------2");
        draw(x, 10, "~.~~~~~", "~~~~~~~", "~~~~~~.");
        draw(x, 20, "~.~~~~~", "~~~~~~~", "~~~....");
        // (3, 2) is 2 + 2 from owner 1's, with 2 as the greater; 3 + 0 from owner 2's.
        ownersDue(x, 20, "-1-----", "-------", "---2222");
    }

    @Says("each of its CELLS gets the OWNER of the nearest FAST CELL")
    void eachCellByItsOwnNearest() {
        MovingBanks x = byG(6, 1, ISLE_S);
        tellOwners(x, "1----2");
        draw(x, 10, ".~~~~.");
        draw(x, 20, "......");
        ownersDue(x, 20, "111222");
    }

    @Says("each of its CELLS gets the OWNER of the nearest FAST CELL")
    void theNearestOneNeedNotBeNextToThePart() {
        MovingBanks x = byG(4, 3, ISLE_S);
        tellOwners(x, "1111", "1111", "1112");
        draw(x, 10, ".~~~", "~~~~", "~~~.");
        draw(x, 20, "..~~", "~...", "~~~.");
        // (1, 1) is 2 from owner 1's and 3 from owner 2's; (2, 1) is 3 and 2.
        ownersDue(x, 20, "1111", "1122", "1112");
    }

    @Says("of equal ones the first, row by row")
    void ofEqualOnesTheUpperRow() {
        MovingBanks x = byG(5, 2, ISLE_S);
        tellOwners(x, "---3-", "1---2");
        draw(x, 10, "~~~.~", ".~~~.");
        draw(x, 20, "~~~.~", ".~...");
        // (2, 1) is 2 from each of them, (3, 1) is 1 from owner 2's and 3's.
        ownersDue(x, 20, "---3-", "1-332");
    }

    @Says("of equal ones the first, row by row")
    void ofEqualOnesInARowTheLesserColumn() {
        MovingBanks x = byG(5, 1, ISLE_S);
        tellOwners(x, "1---2");
        draw(x, 10, ".~~~.");
        draw(x, 20, ".....");
        ownersDue(x, 20, "11122");
    }

    @Says("(perhaps none)")
    void theNearestHasNoOwner() {
        MovingBanks x = byG(4, 1, ISLE_S);
        tellOwners(x, "1--4");
        draw(x, 10, "..~~");
        draw(x, 20, "....");
        ownersDue(x, 20, "1---");
    }

    @Says("each of its CELLS gets the OWNER of the nearest FAST CELL")
    void theOwnerThatTheNearestHasAtThatTime() {
        MovingBanks x = byG(3, 1, ISLE_S);
        tellOwners(x, "1--");
        draw(x, 10, ".~~");
        x.deed(0, 0, 0, 0, 2, 19);
        x.deed(0, 0, 0, 0, 3, 20);
        draw(x, 20, "..~");
        draw(x, 30, "...");
        ownersDue(x, 20, "32-");
        ownersDue(x, 30, "322");
    }

    // ---- isles

    @Says("by n all of it gets the OWNER of that FAST CELL that is nearest (so) to any of its CELLS")
    void anIsleByTheNearestToAnyOfItsCells() {
        MovingBanks x = byG(8, 1, ISLE_N);
        tellOwners(x, "1------2");
        draw(x, 10, ".~~~~~~.");
        draw(x, 20, ".~~...~.");
        ownersDue(x, 20, "1--222-2");
    }

    @Says("of equal ones the first")
    void anIsleOfEqualOnesTheFirst() {
        MovingBanks x = byG(6, 1, ISLE_N);
        tellOwners(x, "1----2");
        draw(x, 10, ".~~~~.");
        draw(x, 20, ".~..~.");
        ownersDue(x, 20, "1-11-2");
        MovingBanks y = byG(3, 3, ISLE_N);
        tellOwners(y, "--3", "---", "4--");
        draw(y, 10, "~~.", "~~~", ".~~");
        draw(y, 20, "~~.", "~.~", ".~~");
        ownersDue(y, 20, "--3", "-3-", "4--");
    }

    @Says("that is nearest (so) to any of its CELLS")
    void anIsleByTheSumNotByTheGreater() {
        MovingBanks x = byG(6, 3, ISLE_N);
        tellOwners(x, "1-----", "------", "-----2");
        draw(x, 10, ".~~~~~", "~~~~~~", "~~~~~.");
        draw(x, 20, ".~~~~~", "~~~~~~", "~~.~~.");
        // (2, 2) is 2 + 2 from owner 1's and 3 + 0 from owner 2's.
        ownersDue(x, 20, "1-----", "------", "--2--2");
    }

    @Says("that is nearest (so) to any of its CELLS")
    void theNearestOfAnIsleHasNoOwner() {
        MovingBanks x = byG(5, 1, ISLE_N);
        tellOwners(x, "-5555");
        draw(x, 10, ".~~~.");
        draw(x, 20, ".~.~.");
        ownersDue(x, 20, "-5-55");
    }

    @Says("that is nearest (so) to any of its CELLS")
    void anIsleFromCornerToCorner() {
        int[][] corners = {{0, 0}, {11, 0}, {0, 11}, {11, 11}};
        for (int[] corner : corners) {
            MovingBanks x = byG(12, 12, ISLE_N);
            x.own(corner[0], corner[1], corner[0], corner[1], 7);
            x.sheet(0, 1, 12, -1, 0);
            x.water(corner[1], ~(1 << corner[0]));
            x.map(10);
            int column = 11 - corner[0];
            int row = 11 - corner[1];
            x.water(row, ~(1 << column));
            x.map(20);
            due("22 away from " + corner[0] + ", " + corner[1], x.owner(column, row, 20), 7);
        }
    }

    @Says("of the nearest FAST CELL: by the sum of the differences of columns and rows")
    void aShoreOfTheWholeLand() {
        MovingBanks x = byG(12, 12, ISLE_S);
        x.own(0, 0, 0, 0, 7);
        x.sheet(0, 1, 12, -1, 0);
        x.water(0, ~1);
        x.map(10);
        x.sheet(0, 1, 12, 0, 0);
        x.map(20);
        due("all of it", x.area(7, 20), 144);
        due("the last cell, 22 away", x.owner(11, 11, 20), 7);
    }

    @Says("(without FAST ones none)")
    void anIsleWithoutFastOnes() {
        MovingBanks x = byG(3, 1, ISLE_N);
        tellOwners(x, "555");
        draw(x, 10, "~~~");
        draw(x, 20, "~.~");
        ownersDue(x, 20, "5-5");
    }

    @Says("(without FAST ones none)")
    void theWholeLandRisesFromWater() {
        MovingBanks x = byG(12, 12, ISLE_N);
        x.own(0, 0, 11, 11, 5);
        x.sheet(0, 1, 12, -1, 0);
        x.map(10);
        x.sheet(0, 1, 12, 0, 0);
        x.map(20);
        due("ahead of it", x.owner(11, 11, 19), 5);
        due("behind it, the first", x.owner(0, 0, 20), NONE);
        due("behind it, the last", x.owner(11, 11, 20), NONE);
    }

    @Says("by s none")
    void anIsleByS() {
        MovingBanks x = byG(5, 1, ISLE_S);
        tellOwners(x, "15552");
        draw(x, 10, ".~~~.");
        draw(x, 20, ".~.~.");
        ownersDue(x, 20, "15-52");
    }

    @Says("by k what each CELL had")
    void anIsleByK() {
        MovingBanks x = byG(6, 1, ISLE_K);
        tellOwners(x, "157-52");
        draw(x, 10, ".~~~~.");
        draw(x, 20, ".~..~.");
        ownersDue(x, 20, "157-52");
    }

    @Says("Another PART is an ISLE")
    void shoreAndIsleOfOneStep() {
        MovingBanks x = byG(6, 1, ISLE_S);
        tellOwners(x, "155555");
        draw(x, 10, ".~~~~~");
        draw(x, 20, "..~..~");
        ownersDue(x, 20, "115--5");
    }

    @Says("PARTS, that hang together by NEXT")
    void anIsleThatHangsOnTheShoreByNewCells() {
        MovingBanks x = byG(3, 3, ISLE_S);
        tellOwners(x, "1--", "---", "---");
        draw(x, 10, ".~~", "~~~", "~~~");
        draw(x, 20, "...", "~~.", "...");
        ownersDue(x, 20, "111", "--1", "111");
    }

    // ---- what comes later

    @Says("by laws that change")
    void eachStepByTheLawOfItsYear() {
        MovingBanks x = land(4, 1);
        tellOwners(x, "1234");
        draw(x, 10, "~...");
        draw(x, 20, "~~..");
        draw(x, 30, "~~~.");
        x.law(30, 0, 0, ISLE_N);
        ownersDue(x, 20, "1-34");
        ownersDue(x, 30, "1-34");
        x.law(20, 0, 0, ISLE_N);
        ownersDue(x, 30, "1234");
    }
}

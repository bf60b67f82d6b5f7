/** Promise 20: step. */
public final class Promise20Test extends Sentences {
    public static void main(String[] args) {
        new Promise20Test().run();
    }

    /** One lost cell; five new ones, each a part, of which the one below the bank alone is shore. */
    static MovingBanks delta() {
        MovingBanks x = land(6, 4);
        x.own(0, 0, 5, 0, 1);
        x.own(0, 1, 5, 3, 2);
        draw(x, 7, "......", "~~~~~~", "~~~~~~", "~~~~~~");
        draw(x, 9, "~.....", ".~~.~~", "~~~~~~", ".~.~.~");
        return x;
    }

    private static int farOf(String ahead, String behind) {
        MovingBanks x = land(ahead.length(), 1);
        draw(x, 0, ahead);
        draw(x, 1, behind);
        return x.step(1, 3);
    }

    // ---- what is asked

    @Says("what 0: YEAR, 1: LOST, 2: NEW, 3: FAR, 4: SUDDEN (1, 0), 5: PARTS, 6: ISLES, 7: CELLS whose OWNER became another one by it")
    void allOfThem() {
        MovingBanks x = delta();
        stepDue(x, 1, 9, 1, 5, 3, 1, 5, 4, 0);
        x.reach(3);
        // The lost one has none, and the five new ones became 1's.
        stepDue(x, 1, 9, 1, 5, 3, 0, 5, 4, 6);
    }

    @Says("NONE: none such, another what.")
    void anotherWhat() {
        MovingBanks x = delta();
        for (int what : new int[] {-1, 8, MIN, MAX}) {
            due("step(1, " + what + ")", x.step(1, what), NONE);
        }
    }

    @Says("STEP m (1 ..)")
    void noStepZero() {
        MovingBanks x = delta();
        for (int step : new int[] {0, -1, MIN}) {
            for (int what = 0; what < 8; what++) {
                due("step(" + step + ", " + what + ")", x.step(step, what), NONE);
            }
        }
    }

    @Says("NONE: none such")
    void noneBehindTheLast() {
        MovingBanks x = delta();
        for (int step : new int[] {2, 10, MAX}) {
            for (int what = 0; what < 8; what++) {
                due("step(" + step + ", " + what + ")", x.step(step, what), NONE);
            }
        }
    }

    @Says("NONE: none such")
    void withoutSteps() {
        MovingBanks x = new MovingBanks();
        due("no map", x.step(1, 0), NONE);
        x.map(0);
        due("one map", x.step(1, 0), NONE);
        due("one map, step 0", x.step(0, 0), NONE);
    }

    @Says("STEP m (1 ..): from MAP m - 1 to MAP m, in the YEAR of m.")
    void eachOfNineSteps() {
        MovingBanks x = land(10, 1);
        for (int m = 0; m < 10; m++) {
            x.water(0, (1 << m) - 1);
            x.map(22 * m);
        }
        for (int m = 1; m < 10; m++) {
            stepDue(x, m, 22 * m, 1, 0, m == 1 ? 13 : 1, m == 1 ? 1 : 0, 0, 0, 0);
        }
        due("a tenth", x.step(10, 0), NONE);
    }

    @Says("what 0: YEAR")
    void theFirstAndTheLastYearOfAStep() {
        MovingBanks x = new MovingBanks();
        x.map(0);
        x.map(1);
        x.map(200);
        due("step 1", x.step(1, 0), 1);
        due("step 2", x.step(2, 0), 200);
    }

    // ---- lost and new

    @Says("LOST: CELLS that were dry and are WATER; NEW: that were WATER and are dry")
    void noneAndAllOfTheLand() {
        MovingBanks x = land(12, 12);
        x.map(0);
        x.sheet(0, 1, 12, -1, 0);
        x.map(1);
        x.sheet(0, 1, 12, 0, 0);
        x.map(2);
        x.map(3);
        stepDue(x, 1, 1, 144, 0, 13, 1, 0, 0, 0);
        stepDue(x, 2, 2, 0, 144, 13, 1, 1, 1, 0);
        stepDue(x, 3, 3, 0, 0, 0, 0, 0, 0, 0);
    }

    // ---- far

    @Says("0 of a STEP without NEW and LOST")
    void farOfAStepThatMovedNothing() {
        due("all dry", farOf("...", "..."), 0);
        due("all water", farOf("~~~", "~~~"), 0);
        due("some water", farOf(".~.", ".~."), 0);
    }

    @Says("over NEW ones, of how far APART the nearest FAST CELL is")
    void farOfNewOnes() {
        due("beside it", farOf(".~~~~", "..~~~"), 1);
        due("two apart", farOf(".~~~~", ".~.~~"), 2);
        due("a part of three", farOf(".~~~~", "....~"), 3);
        due("between two banks", farOf(".~~~~.", "......"), 2);
        due("eleven apart", farOf(".~~~~~~~~~~~", ".~~~~~~~~~~."), 11);
    }

    @Says("and over LOST ones, the nearest one that was WATER")
    void farOfLostOnes() {
        due("beside it", farOf("~....", "~~..."), 1);
        due("two apart", farOf("~....", "~.~.."), 2);
        due("three in a row", farOf("~....", "~~~~."), 3);
        due("between two waters", farOf("~....~", "~~~~~~"), 2);
        due("eleven apart", farOf("~...........", "~..........~"), 11);
    }

    @Says("the nearest one that was WATER")
    void waterThatIsDryNowCounts() {
        due("the river has moved by one", farOf(".~...", "..~.."), 1);
        due("the river has moved by two", farOf("..~...", "....~."), 2);
    }

    @Says("the nearest one that was WATER")
    void waterThatIsNewDoesNotCount() {
        due("two lost ones side by side", farOf("~.....", "~...~~"), 5);
    }

    @Says("the nearest FAST CELL")
    void lostOnesAreNotFast() {
        due("the dry one beside it is lost", farOf("..~~~", ".~.~~"), 2);
    }

    @Says("FAR of a STEP: the greatest, over NEW ones")
    void theGreatestOfNewAndLost() {
        due("new ones went further", farOf("..~~~~~", ".~~~~~."), 6);
        due("lost ones went further", farOf("~......", "......~"), 6);
        due("the first of them went further", farOf("~~~~.....", ".~~..~~.."), 4);
    }

    @Says("(13 if there is none")
    void noFastCell() {
        due("new ones", farOf("~~~", "~.~"), 13);
        due("all are lost, and others new", farOf("..~", "~~."), 13);
    }

    @Says("(13 if there is none")
    void noCellThatWasWater() {
        due("lost ones", farOf("...", ".~."), 13);
        due("all are lost", farOf("...", "~~~"), 13);
    }

    @Says("APART of two CELLS: the greater of their columns' and rows' differences.")
    void apartByTheGreaterDifference() {
        MovingBanks x = land(12, 12);
        draw(x, 0, "~...........");
        x.water(5, 1 << 3);
        x.map(1);
        due("3 columns, 5 rows", x.step(1, 3), 5);
        x.water(7, 1 << 11);
        x.map(2);
        due("8 columns, 2 rows", x.step(2, 3), 8);
        x.water(8, 1 << 10);
        x.map(3);
        due("a corner", x.step(3, 3), 1);
        x.land(12, 12);
        draw(x, 0, "~...........");
        x.water(11, 1 << 11);
        x.map(1);
        due("from corner to corner", x.step(1, 3), 11);
    }

    // ---- parts and isles

    @Says("PARTS, that hang together by NEXT")
    void partsHangBySides() {
        MovingBanks x = land(3, 3);
        draw(x, 0, "~~~", "~~~", "~~~");
        draw(x, 1, ".~.", "~.~", ".~.");
        due("parts", x.step(1, 5), 5);
        due("isles", x.step(1, 6), 5);
        draw(x, 2, "...", "...", "...");
        due("four more, each between them", x.step(2, 5), 4);
        due("isles", x.step(2, 6), 0);
    }

    @Says("PARTS, that hang together by NEXT")
    void partsHangUpAndDownAndToBothSides() {
        String[][] bends = {{".~.", ".~.", "..."}, {"...", ".~.", ".~."}, {"...", "~~.", "..."}, {"...", ".~~", "..."}};
        for (String[] bend : bends) {
            MovingBanks x = land(3, 3);
            draw(x, 0, "~~~", "~~~", "~~~");
            draw(x, 1, bend);
            due("one part", x.step(1, 5), 1);
        }
    }

    @Says("PARTS, that hang together by NEXT")
    void partsDoNotHangOverTheEndOfARow() {
        MovingBanks x = land(3, 2);
        draw(x, 0, "~~~", "~~~");
        draw(x, 1, "~~.", ".~~");
        due("parts", x.step(1, 5), 2);
    }

    @Says("PARTS, that hang together by NEXT")
    void asManyPartsAsThereCanBe() {
        MovingBanks x = land(12, 12);
        x.sheet(0, 1, 12, -1, 0);
        x.map(0);
        for (int y = 0; y < 12; y++) {
            x.water(y, y % 2 == 0 ? 0x555 : 0xAAA);
        }
        x.map(1);
        due("parts", x.step(1, 5), 72);
        due("isles", x.step(1, 6), 72);
    }

    @Says("A PART of which some CELL is NEXT to a FAST one is SHORE")
    void shoreIsNoIsle() {
        MovingBanks x = land(6, 1);
        draw(x, 0, ".~~~~~");
        draw(x, 1, "..~..~");
        due("parts", x.step(1, 5), 2);
        due("isles", x.step(1, 6), 1);
    }

    @Says("A PART of which some CELL is NEXT to a FAST one is SHORE")
    void aCornerMakesAnIsle() {
        MovingBanks x = land(2, 2);
        draw(x, 0, ".~", "~~");
        draw(x, 1, ".~", "~.");
        due("far", x.step(1, 3), 1);
        due("isles", x.step(1, 6), 1);
    }

    @Says("5: PARTS, 6: ISLES")
    void lostOnesAreNoParts() {
        MovingBanks x = oneLost(5);
        due("parts", x.step(1, 5), 0);
        due("isles", x.step(1, 6), 0);
    }

    // ---- owners that became other ones

    @Says("7: CELLS whose OWNER became another one by it")
    void lostAndNewOnes() {
        MovingBanks x = land(4, 1);
        x.own(0, 0, 3, 0, 1);
        x.own(2, 0, 2, 0, 2);
        draw(x, 0, "..~.");
        draw(x, 1, ".~..");
        // (1, 0) has none any more, (2, 0) became 1's.
        due("both", x.step(1, 7), 2);
    }

    @Says("7: CELLS whose OWNER became another one by it")
    void theSameOwnerIsNoOther() {
        MovingBanks x = land(3, 1);
        x.own(0, 0, 2, 0, 1);
        draw(x, 0, "..~");
        draw(x, 1, "...");
        due("it was 1's", x.step(1, 7), 0);
        MovingBanks y = land(3, 1);
        draw(y, 0, "..~");
        draw(y, 1, ".~.");
        due("all were none's", y.step(1, 7), 0);
    }

    @Says("7: CELLS whose OWNER became another one by it")
    void fromNoneToAnOwner() {
        MovingBanks x = land(2, 1);
        x.own(0, 0, 0, 0, 0);
        draw(x, 0, ".~");
        draw(x, 1, "..");
        due("it was none's", x.step(1, 7), 1);
    }

    @Says("7: CELLS whose OWNER became another one by it")
    void noneAndAllOfThem() {
        MovingBanks x = land(12, 12);
        x.own(0, 0, 11, 11, 1);
        x.map(0);
        x.sheet(0, 1, 12, -1, 0);
        x.map(1);
        due("sudden, by k", x.step(1, 7), 0);
        x.judge(1, 0);
        due("slow, by g", x.step(1, 7), 144);
    }

    @Says("7: CELLS whose OWNER became another one by it")
    void deedsOfThatYearAreNotAsked() {
        MovingBanks x = land(4, 1);
        x.own(0, 0, 2, 0, 3);
        draw(x, 1, "..~.");
        draw(x, 2, "....");
        due("it was 3's", x.step(1, 7), 0);
        x.deed(0, 0, 3, 0, 6, 2);
        due("a deed of that year", x.step(1, 7), 0);
        x.deed(0, 0, 3, 0, 5, 1);
        due("a deed ahead of it", x.step(1, 7), 1);
    }

    @Says("In its YEAR (behind a STEP of that YEAR")
    void aStepOfYearOne() {
        MovingBanks x = land(2, 1);
        x.own(0, 0, 1, 0, 1);
        draw(x, 0, ".~");
        x.deed(0, 0, 1, 0, 2, 0);
        draw(x, 1, "..");
        due("a deed of year 0 is ahead of it", x.step(1, 7), 1);
    }

    // ---- facts of a land that is no more

    @Says("A LAND of w and h, no MAPS")
    void factsAreFoundAnew() {
        MovingBanks x = delta();
        x.land(3, 4);
        x.own(0, 0, 2, 1, 4);
        x.own(0, 2, 2, 3, 5);
        draw(x, 3, "...", "...", "~~~", "...");
        draw(x, 4, "...", "...", "...", "...");
        stepDue(x, 1, 4, 0, 3, 1, 0, 1, 0, 3);
    }
}

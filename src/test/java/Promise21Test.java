/** Promise 21: moved. */
public final class Promise21Test extends Sentences {
    public static void main(String[] args) {
        new Promise21Test().run();
    }

    @Says("How much more area an OWNER has behind a STEP than ahead of it")
    void moreByNewOnes() {
        MovingBanks x = Promise20Test.delta();
        x.reach(3);
        due("owner 1: one lost, five new", movedOf(x, 1, 1), 4);
        due("owner 2 has had water alone", movedOf(x, 2, 1), 0);
    }

    @Says("(below 0: less")
    void lessByLostOnes() {
        MovingBanks x = oneLost(5);
        due("by g", movedOf(x, 6, 1), -1);
        x.judge(1, 1);
        due("by k too: it is water", movedOf(x, 6, 1), -1);
    }

    @Says("How much more area an OWNER has")
    void byKNewOnesAreTheirOwners() {
        MovingBanks x = Promise20Test.delta();
        due("owner 1", movedOf(x, 1, 1), -1);
        due("owner 2", movedOf(x, 2, 1), 5);
    }

    @Says("How much more area an OWNER has")
    void asManyAsThereCanBe() {
        MovingBanks x = land(12, 12);
        x.own(0, 0, 11, 11, 1);
        x.map(0);
        x.sheet(0, 1, 12, -1, 0);
        x.map(1);
        x.sheet(0, 1, 12, 0, 0);
        x.map(2);
        due("all less", movedOf(x, 1, 1), -144);
        due("all more", movedOf(x, 1, 2), 144);
    }

    @Says("How much more area an OWNER has")
    void aStepThatMovedNothing() {
        MovingBanks x = land(2, 1);
        x.own(0, 0, 1, 0, 1);
        x.map(0);
        x.map(1);
        due("owner 1", movedOf(x, 1, 1), 0);
    }

    @Says("DEEDS of that YEAR not asked")
    void deedsOfThatYear() {
        MovingBanks x = Promise20Test.delta();
        x.reach(3);
        x.deed(0, 0, 5, 3, 7, 9);
        due("owner 7 has had nothing", movedOf(x, 7, 1), 0);
        due("owner 1 as without it", movedOf(x, 1, 1), 4);
    }

    @Says("DEEDS of that YEAR not asked")
    void deedsOfAYearAheadAndOneBehind() {
        MovingBanks x = Promise20Test.delta();
        x.reach(3);
        x.deed(0, 0, 5, 3, 8, 8);
        due("owner 8", movedOf(x, 8, 1), 4);
        due("owner 1", movedOf(x, 1, 1), 0);
        x.deed(0, 0, 5, 3, 7, 10);
        due("owner 8, a deed behind", movedOf(x, 8, 1), 4);
    }

    @Says("no such OWNER (0 .. 9)")
    void theFirstAndTheLastOwner() {
        MovingBanks x = land(3, 1);
        x.own(0, 0, 0, 0, 0);
        x.own(2, 0, 2, 0, 9);
        draw(x, 0, ".~.");
        draw(x, 1, "..~");
        due("owner 0", movedOf(x, 0, 1), 1);
        due("owner 9", movedOf(x, 9, 1), -1);
        due("owner 5", movedOf(x, 5, 1), 0);
    }

    @Says("NoSuchElementException: no such OWNER (0 .. 9)")
    void noSuchOwner() {
        MovingBanks x = oneLost(5);
        for (int owner : new int[] {NONE, 10, -2, MIN, MAX}) {
            noMoved(x, owner, 1);
        }
    }

    @Says("NoSuchElementException: no such OWNER (0 .. 9), STEP.")
    void noSuchStep() {
        MovingBanks x = oneLost(5);
        for (int step : new int[] {0, 2, -1, 10, MIN, MAX}) {
            noMoved(x, 1, step);
        }
    }

    @Says("NoSuchElementException: no such OWNER (0 .. 9), STEP.")
    void withoutSteps() {
        MovingBanks x = new MovingBanks();
        noMoved(x, 1, 1);
        noMoved(x, 1, 0);
        x.map(0);
        noMoved(x, 1, 1);
        noMoved(x, 1, 0);
    }

    @Says("from MAP m - 1 to MAP m")
    void theNinthStep() {
        MovingBanks x = land(10, 1);
        x.own(0, 0, 9, 0, 3);
        for (int m = 0; m < 10; m++) {
            x.water(0, (1 << m) - 1);
            x.map(m);
        }
        due("step 9", movedOf(x, 3, 9), -1);
        noMoved(x, 3, 10);
    }

    @Says("Refused calls answer NONE, or false, and change nothing.")
    void refusedChangesNothing() {
        changesNothing(x -> {
            movedOf(x, NONE, 1);
            movedOf(x, 4, 0);
            movedOf(x, 4, 2);
        });
    }
}

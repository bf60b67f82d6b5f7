/** Promise 22: doubt. */
public final class Promise22Test extends Sentences {
    public static void main(String[] args) {
        new Promise22Test().run();
    }

    /** A bank that grows by one cell a year, in years 2 and 3, over what was owner 2's. */
    private static MovingBanks growing() {
        MovingBanks x = land(4, 1);
        x.own(0, 0, 0, 0, 1);
        x.own(1, 0, 3, 0, 2);
        draw(x, 1, ".~~~");
        draw(x, 2, "..~~");
        draw(x, 3, "...~");
        return x;
    }

    @Says("if a STEP were SUDDEN where it is SLOW")
    void slowAsIfSudden() {
        MovingBanks x = oneLost(5);
        due("slow", x.step(1, 4), 0);
        due("doubt", x.doubt(1, 5), 1);
    }

    @Says("(or the other way round)")
    void suddenAsIfSlow() {
        MovingBanks x = Promise20Test.delta();
        due("sudden", x.step(1, 4), 1);
        due("doubt", x.doubt(1, 9), 6);
    }

    @Says("if a STEP were SUDDEN where it is SLOW (or the other way round)")
    void judgedOnesToo() {
        MovingBanks x = oneLost(5);
        x.judge(1, 1);
        due("judged sudden", x.doubt(1, 5), 1);
        x.judge(1, 0);
        due("judged slow", x.doubt(1, 5), 1);
    }

    @Says("How many CELLS have another OWNER in a YEAR")
    void aheadOfTheStepNone() {
        MovingBanks x = oneLost(5);
        due("year 0", x.doubt(1, 0), 0);
        due("year 4", x.doubt(1, 4), 0);
        due("year 5", x.doubt(1, 5), 1);
        due("year 6", x.doubt(1, 6), 1);
        due("year 200", x.doubt(1, 200), 1);
    }

    @Says("How many CELLS have another OWNER in a YEAR")
    void bothLawsAlike() {
        MovingBanks x = oneLost(5);
        x.law(5, 0, 0, 0);
        due("by k", x.doubt(1, 5), 0);
        x.law(5, 1, 1, 0);
        due("by g", x.doubt(1, 5), 0);
        x.law(5, 0, 1, 0);
        due("the other way round", x.doubt(1, 5), 1);
    }

    @Says("How many CELLS have another OWNER in a YEAR")
    void aStepThatMovedNothing() {
        MovingBanks x = land(2, 1);
        x.own(0, 0, 1, 0, 1);
        x.map(0);
        x.map(1);
        due("doubt", x.doubt(1, 1), 0);
    }

    @Says("How many CELLS have another OWNER in a YEAR")
    void allOfTheLand() {
        MovingBanks x = land(12, 12);
        x.own(0, 0, 11, 11, 1);
        x.map(0);
        x.sheet(0, 1, 12, -1, 0);
        x.map(1);
        due("doubt", x.doubt(1, 1), 144);
    }

    @Says("all else as it is")
    void laterStepsGoOnFromIt() {
        MovingBanks x = growing();
        due("step 1, in its year", x.doubt(1, 2), 1);
        due("step 1, behind step 2", x.doubt(1, 3), 2);
        due("step 2, ahead of it", x.doubt(2, 2), 0);
        due("step 2, in its year", x.doubt(2, 3), 1);
    }

    @Says("all else as it is")
    void aDeedEndsIt() {
        MovingBanks x = growing();
        x.deed(1, 0, 3, 0, 4, 5);
        due("ahead of it", x.doubt(1, 4), 2);
        due("in its year", x.doubt(1, 5), 0);
    }

    @Says("all else as it is")
    void aDeedHangsOnIt() {
        MovingBanks x = land(3, 1);
        x.own(0, 0, 2, 0, 6);
        draw(x, 0, "~..");
        draw(x, 5, "~~.");
        draw(x, 6, "~..");
        x.law(6, 0, 0, 0);
        x.deed(1, 0, 1, 0, 7, 7);
        due("none's if slow, so no deed", x.owner(1, 0, 7), NONE);
        due("doubt", x.doubt(1, 7), 1);
    }

    @Says("if a STEP were SUDDEN")
    void nothingIsChangedByIt() {
        MovingBanks x = growing();
        x.doubt(1, 3);
        x.doubt(2, 3);
        due("step 1", x.step(1, 4), 0);
        due("step 2", x.step(2, 4), 0);
        ownersDue(x, 3, "1112");
        due("not judged", x.weak(3), 1);
    }

    @Says("NONE: none such")
    void noSuchStep() {
        MovingBanks x = growing();
        for (int step : new int[] {0, -1, 3, 10, MIN, MAX}) {
            due("doubt(" + step + ", 3)", x.doubt(step, 3), NONE);
        }
        due("the first", x.doubt(1, 3), 2);
        due("the last", x.doubt(2, 3), 1);
    }

    @Says("NONE: none such")
    void withoutSteps() {
        MovingBanks x = new MovingBanks();
        due("no map", x.doubt(1, 0), NONE);
        x.map(0);
        due("one map", x.doubt(1, 0), NONE);
        due("one map, step 0", x.doubt(0, 0), NONE);
    }

    @Says("NONE: none such, no such YEAR.")
    void noSuchYear() {
        MovingBanks x = growing();
        for (int year : new int[] {-1, 201, MIN, MAX}) {
            due("doubt(1, " + year + ")", x.doubt(1, year), NONE);
        }
    }

    @Says("MAPS 0 .. (at most 10)")
    void theNinthStep() {
        MovingBanks x = land(10, 1);
        x.own(0, 0, 9, 0, 3);
        for (int m = 0; m < 10; m++) {
            x.water(0, (1 << m) - 1);
            x.map(m);
        }
        due("step 9", x.doubt(9, 9), 1);
        due("step 10", x.doubt(10, 9), NONE);
    }

    @Says("ROW: numbers told last by a call that says so.")
    void theRowStays() {
        MovingBanks x = growing();
        x.chain(0, 0);
        x.doubt(1, 3);
        rowDue(x, 1, 1);
    }
}

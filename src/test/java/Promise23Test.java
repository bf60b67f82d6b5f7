/** Promise 23: weak. */
public final class Promise23Test extends Sentences {
    public static void main(String[] args) {
        new Promise23Test().run();
    }

    /** Steps 1, 2 and 3 of years 2, 3 and 4, with doubts of 1, 3 and 1 in year 4. */
    private static MovingBanks threeSteps() {
        MovingBanks x = land(6, 1);
        x.own(0, 0, 5, 0, 2);
        x.own(0, 0, 0, 0, 1);
        draw(x, 1, ".~~~~.");
        draw(x, 2, "..~~~.");
        draw(x, 3, "....~.");
        draw(x, 4, ".....~");
        return x;
    }

    @Says("the one with the greatest doubt() in a YEAR")
    void theGreatest() {
        MovingBanks x = threeSteps();
        due("doubt of 1", x.doubt(1, 4), 1);
        due("doubt of 2", x.doubt(2, 4), 3);
        due("doubt of 3", x.doubt(3, 4), 1);
        due("weak", x.weak(4), 2);
    }

    @Says("(the first such)")
    void ofEqualOnesTheFirst() {
        MovingBanks x = threeSteps();
        x.judge(2, 1);
        due("doubt of 1", x.doubt(1, 4), 1);
        due("doubt of 3", x.doubt(3, 4), 1);
        due("weak", x.weak(4), 1);
    }

    @Says("(the first such)")
    void withoutAnyDoubtTheFirst() {
        MovingBanks x = threeSteps();
        due("ahead of all steps", x.weak(1), 1);
        due("ahead of all maps", x.weak(0), 1);
        x.judge(1, 0);
        due("the first that is not judged", x.weak(0), 2);
    }

    @Says("Of STEPS that are not JUDGED")
    void judgedOnesAreNotAsked() {
        MovingBanks x = threeSteps();
        x.judge(2, 0);
        x.judge(1, 0);
        due("weak", x.weak(4), 3);
        x.judge(2, NONE);
        due("not judged any more", x.weak(4), 2);
    }

    @Says("Of STEPS that are not JUDGED")
    void judgedAsTheyAreByThemselves() {
        MovingBanks x = threeSteps();
        due("sudden by itself", x.step(2, 4), 1);
        x.judge(2, 1);
        due("weak", x.weak(4), 1);
    }

    @Says("NONE: there is none")
    void allAreJudged() {
        MovingBanks x = threeSteps();
        x.judge(1, 0);
        x.judge(2, 1);
        due("one is not", x.weak(4), 3);
        x.judge(3, 0);
        due("all are", x.weak(4), NONE);
    }

    @Says("NONE: there is none")
    void withoutSteps() {
        MovingBanks x = new MovingBanks();
        due("no map", x.weak(0), NONE);
        x.map(0);
        due("one map", x.weak(0), NONE);
        x.map(1);
        due("two maps", x.weak(0), 1);
    }

    @Says("YEARS 0 .. 200.")
    void theFirstAndTheLastYear() {
        MovingBanks x = threeSteps();
        due("year 0", x.weak(0), 1);
        due("year 200", x.weak(200), 2);
    }

    @Says("NONE: there is none, no such YEAR.")
    void noSuchYear() {
        MovingBanks x = threeSteps();
        for (int year : new int[] {-1, 201, MIN, MAX}) {
            due("weak(" + year + ")", x.weak(year), NONE);
        }
    }

    @Says("Of STEPS that are not JUDGED the one with the greatest doubt()")
    void theNinthStep() {
        MovingBanks x = land(12, 1);
        x.own(0, 0, 11, 0, 3);
        draw(x, 0, "~...........");
        for (int m = 1; m < 9; m++) {
            x.map(m);
        }
        draw(x, 9, "~~..........");
        due("weak", x.weak(9), 9);
        due("a year ahead of it", x.weak(8), 1);
    }

    @Says("ROW: numbers told last by a call that says so.")
    void nothingIsChangedByIt() {
        MovingBanks x = threeSteps();
        x.chain(0, 0);
        x.weak(4);
        rowDue(x, 1, 1);
        due("step 2 is as it was", x.step(2, 4), 1);
        due("weak again", x.weak(4), 2);
    }
}

/** Promise 11: judge. */
public final class Promise11Test extends Sentences {
    public static void main(String[] args) {
        new Promise11Test().run();
    }

    /** Three steps: one that moved nothing, one far, one slow. */
    private static MovingBanks threeSteps() {
        MovingBanks x = land(4, 1);
        x.own(0, 0, 3, 0, 2);
        draw(x, 0, "....");
        draw(x, 1, "....");
        draw(x, 2, "~...");
        draw(x, 3, "~~..");
        return x;
    }

    @Says("A STEP (that there is) is JUDGED SLOW (0)")
    void judgedSlow() {
        MovingBanks x = threeSteps();
        due("far is 13", x.step(2, 3), 13);
        due("sudden by itself", x.step(2, 4), 1);
        due("judge(2, 0)", x.judge(2, 0), true);
        due("slow", x.step(2, 4), 0);
        due("so by g", x.owner(0, 0, 2), NONE);
    }

    @Says("SUDDEN (1)")
    void judgedSudden() {
        MovingBanks x = threeSteps();
        due("far is 0", x.step(1, 3), 0);
        due("judge(1, 1)", x.judge(1, 1), true);
        due("sudden", x.step(1, 4), 1);
        due("slow by itself", x.step(3, 4), 0);
        due("judge(3, 1)", x.judge(3, 1), true);
        due("sudden", x.step(3, 4), 1);
        due("so by k", x.owner(1, 0, 3), 2);
    }

    @Says("not (NONE)")
    void judgedNoMore() {
        MovingBanks x = threeSteps();
        x.judge(2, 0);
        due("judge(2, NONE)", x.judge(2, NONE), true);
        due("sudden by itself", x.step(2, 4), 1);
        due("never judged", x.judge(3, NONE), true);
        due("slow by itself", x.step(3, 4), 0);
    }

    @Says("is JUDGED SLOW (0), SUDDEN (1)")
    void judgedAgain() {
        MovingBanks x = threeSteps();
        x.judge(3, 1);
        due("the same", x.judge(3, 1), true);
        due("sudden", x.step(3, 4), 1);
        due("the other", x.judge(3, 0), true);
        due("slow", x.step(3, 4), 0);
    }

    @Says("but as told by JUDGED, if it was")
    void reachCountsNoMore() {
        MovingBanks x = threeSteps();
        x.judge(3, 1);
        x.reach(12);
        due("sudden", x.step(3, 4), 1);
        x.judge(2, 0);
        x.reach(1);
        due("slow", x.step(2, 4), 0);
    }

    @Says("(that there is)")
    void onlyThatStep() {
        MovingBanks x = threeSteps();
        x.judge(2, 0);
        due("step 1", x.step(1, 4), 0);
        due("step 3", x.step(3, 4), 0);
        x.judge(1, 1);
        due("step 2", x.step(2, 4), 0);
        due("step 3", x.step(3, 4), 0);
    }

    @Says("STEP m (1 ..)")
    void noStepZero() {
        MovingBanks x = threeSteps();
        due("judge(0, 0)", x.judge(0, 0), false);
        due("judge(0, 1)", x.judge(0, 1), false);
        due("judge(0, NONE)", x.judge(0, NONE), false);
        due("judge(-1, 0)", x.judge(-1, 0), false);
        due("judge(MIN, 0)", x.judge(MIN, 0), false);
    }

    @Says("false for others")
    void oneBehindTheLastStep() {
        MovingBanks x = threeSteps();
        due("judge(4, 0)", x.judge(4, 0), false);
        due("judge(4, NONE)", x.judge(4, NONE), false);
        due("judge(MAX, 0)", x.judge(MAX, 0), false);
        draw(x, 4, "~...");
        due("slow by itself, when it is there", x.step(4, 4), 0);
        due("judge(4, 1)", x.judge(4, 1), true);
    }

    @Says("(that there is)")
    void withoutSteps() {
        MovingBanks x = new MovingBanks();
        due("no map", x.judge(1, 0), false);
        x.map(0);
        due("one map", x.judge(1, 0), false);
        due("one map, step 0", x.judge(0, 0), false);
        x.map(1);
        due("two maps", x.judge(1, 0), true);
    }

    @Says("MAPS 0 .. (at most 10)")
    void theNinthStep() {
        MovingBanks x = new MovingBanks();
        for (int m = 0; m < 10; m++) {
            x.map(m);
        }
        due("judge(9, 1)", x.judge(9, 1), true);
        due("sudden", x.step(9, 4), 1);
        due("judge(10, 1)", x.judge(10, 1), false);
    }

    @Says("false for others")
    void noSuchJudgement() {
        MovingBanks x = threeSteps();
        x.judge(3, 1);
        for (int how : new int[] {-2, 2, MIN, MAX}) {
            due("judge(3, " + how + ")", x.judge(3, how), false);
        }
        due("sudden as it was", x.step(3, 4), 1);
    }

    @Says("Refused calls answer NONE, or false, and change nothing.")
    void refusedChangesNothing() {
        changesNothing(x -> {
            x.judge(0, 0);
            x.judge(2, 0);
            x.judge(1, 2);
            x.judge(1, -2);
            x.judge(-1, NONE);
        });
    }
}

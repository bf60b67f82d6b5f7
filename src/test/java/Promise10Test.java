/** Promise 10: reach. */
public final class Promise10Test extends Sentences {
    public static void main(String[] args) {
        new Promise10Test().run();
    }

    /** A step that goes as far as told, on one row of twelve columns with water at its end. */
    private static MovingBanks stepOf(int far) {
        MovingBanks x = land(12, 1);
        draw(x, 0, "~...........");
        x.water(0, 1 | 1 << far);
        x.map(1);
        return x;
    }

    @Says("at first 1")
    void atFirst() {
        due("count(6)", new MovingBanks().count(6), 1);
        due("reach", new MovingBanks().reach(5), 1);
    }

    @Says("REACH becomes v: what it was.")
    void whatItWas() {
        MovingBanks x = new MovingBanks();
        due("reach(12)", x.reach(12), 1);
        due("reach(12) again", x.reach(12), 12);
        due("reach(1)", x.reach(1), 12);
        due("reach(7)", x.reach(7), 1);
        due("count(6)", x.count(6), 7);
    }

    @Says("REACH (1 .. 12")
    void theLeastAndTheMost() {
        MovingBanks x = new MovingBanks();
        x.reach(12);
        due("count(6)", x.count(6), 12);
        x.reach(1);
        due("count(6)", x.count(6), 1);
    }

    @Says("NONE: others.")
    void belowTheLeast() {
        MovingBanks x = new MovingBanks();
        x.reach(4);
        for (int v : new int[] {0, -1, MIN}) {
            due("reach(" + v + ")", x.reach(v), NONE);
        }
        due("count(6)", x.count(6), 4);
    }

    @Says("NONE: others.")
    void aboveTheMost() {
        MovingBanks x = new MovingBanks();
        x.reach(4);
        for (int v : new int[] {13, 200, MAX}) {
            due("reach(" + v + ")", x.reach(v), NONE);
        }
        due("count(6)", x.count(6), 4);
    }

    @Says("The STEP is SUDDEN, if FAR is above REACH")
    void farAsReachIsSlow() {
        for (int far = 1; far <= 11; far++) {
            MovingBanks x = stepOf(far);
            due("far", x.step(1, 3), far);
            x.reach(far);
            due("far " + far + ", reach as much", x.step(1, 4), 0);
            due("reach one more", x.reach(far + 1), far);
            due("far " + far + ", reach one more", x.step(1, 4), 0);
        }
    }

    @Says("The STEP is SUDDEN, if FAR is above REACH")
    void farAboveReachIsSudden() {
        for (int far = 2; far <= 11; far++) {
            MovingBanks x = stepOf(far);
            x.reach(far - 1);
            due("far " + far + ", reach one less", x.step(1, 4), 1);
        }
    }

    @Says("(13 if there is none")
    void thirteenIsAboveTheMost() {
        MovingBanks x = land(2, 1);
        x.map(0);
        draw(x, 1, "~.");
        x.reach(12);
        due("far", x.step(1, 3), 13);
        due("sudden", x.step(1, 4), 1);
    }

    @Says("0 of a STEP without NEW and LOST")
    void noMoveIsSlowByTheLeast() {
        MovingBanks x = land(2, 1);
        x.map(0);
        x.map(1);
        due("far", x.step(1, 3), 0);
        due("slow", x.step(1, 4), 0);
    }

    @Says("REACH becomes v")
    void stepsThatAreAreAskedAnew() {
        MovingBanks x = stepOf(3);
        x.own(0, 0, 0, 0, 1);
        due("sudden", x.step(1, 4), 1);
        x.reach(3);
        due("slow", x.step(1, 4), 0);
        x.reach(2);
        due("sudden again", x.step(1, 4), 1);
    }

    @Says("Refused calls answer NONE, or false, and change nothing.")
    void refusedChangesNothing() {
        changesNothing(x -> {
            x.reach(0);
            x.reach(13);
            x.reach(-1);
        });
    }
}

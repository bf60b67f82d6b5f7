/** Promises 20 to 24: what each step did, and what hangs on it. */
public final class StepTest {
    private static final int[] WILD = {Integer.MIN_VALUE, -1000, Integer.MAX_VALUE, 1000};
    private static final Check check = new Check();

    public static void main(String[] args) {
        stepFacts();
        far();
        changed();
        moved();
        movedByK();
        doubt();
        doubtLater();
        weak();
        row();
        withoutSteps();
        largestLand();
        factsAnew();
        check.end();
    }

    private static void stepDue(String what, MovingBanks x, int step, int... want) {
        for (int w = 0; w < want.length; w++) {
            check.due(what + ", step(" + step + ", " + w + ")", x.step(step, w), want[w]);
        }
    }

    private static MovingBanks delta() {
        MovingBanks x = new MovingBanks();
        x.land(6, 4);
        x.own(0, 0, 5, 0, 1);
        x.own(0, 1, 5, 3, 2);
        Picture.draw(x, 7, "......", "~~~~~~", "~~~~~~", "~~~~~~");
        Picture.draw(x, 9, "~.....", ".~~.~~", "~~~~~~", ".~.~.~");
        return x;
    }

    private static void stepFacts() {
        MovingBanks x = delta();
        stepDue("20: sudden, all stays", x, 1, 9, 1, 5, 3, 1, 5, 4, 0);
        x.reach(3);
        // The lost one has none, all new ones became 1's; (0, 1) is next to the lost one alone: an isle.
        stepDue("20: slow", x, 1, 9, 1, 5, 3, 0, 5, 4, 6);
        Picture.draw(x, 10, "~.....", ".~~.~~", "~~~~~~", ".~.~.~");
        stepDue("20: a step without new and lost", x, 2, 10, 0, 0, 0, 0, 0, 0, 0);
        check.due("20: what 8", x.step(1, 8), -1);
        check.due("20: what -1", x.step(1, -1), -1);
        check.due("20: step 0", x.step(0, 0), -1);
        check.due("20: step 3", x.step(3, 0), -1);
        check.due("20: step -1", x.step(-1, 0), -1);
        for (int wild : WILD) {
            check.due("20: wild step", x.step(wild, 0), -1);
            check.due("20: wild what", x.step(1, wild), -1);
        }
    }

    private static void far() {
        MovingBanks x = new MovingBanks();
        x.land(12, 12);
        x.map(0);
        Picture.draw(x, 1, "~...........");
        check.due("20: lost, none was water", x.step(1, 3), 13);
        x.water(11, 1 << 10);
        x.map(2);
        check.due("20: the greater of the differences", x.step(2, 3), 11);
        x.reach(11);
        check.due("20: not above reach", x.step(2, 4), 0);
        x.reach(12);
        check.due("20: 13 is above each reach", x.step(1, 4), 1);
        x.judge(1, 0);
        check.due("20: but as judged", x.step(1, 4), 0);
        x.land(3, 3);
        Picture.draw(x, 0, "~~~", "~~~", "~~~");
        Picture.draw(x, 1, "~~~", "~.~", "~~~");
        check.due("20: new, none is fast", x.step(1, 3), 13);
        check.due("20: an isle", x.step(1, 6), 1);
        Picture.draw(x, 2, "~~.", "~.~", "~~~");
        check.due("20: one apart", x.step(2, 3), 1);
        check.due("20: but not next", x.step(2, 6), 1);
        Picture.draw(x, 3, "...", "~.~", "~~~");
        check.due("20: parts hang together by next", x.step(3, 5), 1);
        check.due("20: shore", x.step(3, 6), 0);
        Picture.draw(x, 4, "~..", "~~~", "...");
        check.due("20: the greatest of new and lost", x.step(4, 3), 2);
    }

    private static void changed() {
        MovingBanks x = new MovingBanks();
        x.land(4, 1);
        x.own(0, 0, 2, 0, 3);
        Picture.draw(x, 1, "..~.");
        x.deed(0, 0, 3, 0, 5, 1);
        Picture.draw(x, 2, "....");
        check.due("20: by the deeds ahead of it", x.step(1, 7), 1);
        x.deed(0, 0, 3, 0, 6, 2);
        check.due("20: deeds of its year are not asked", x.step(1, 7), 1);
        x.strike(0, true);
        check.due("20: no other owner", x.step(1, 7), 0);
    }

    private static void moved() {
        MovingBanks x = delta();
        x.reach(3);
        check.due("21: owner 1 has less by the lost, more by the new", x.moved(1, 1), -1 + 5);
        check.due("21: owner 2 has none", x.moved(2, 1), 0);
        x.deed(0, 0, 5, 3, 7, 9);
        check.due("21: deeds of that year are not asked", x.moved(7, 1), 0);
        check.due("21: deeds of that year are not asked", x.moved(1, 1), 4);
        x.deed(0, 0, 5, 3, 8, 8);
        check.due("21: deeds ahead of it are", x.moved(8, 1), 4);
        check.due("21: deeds ahead of it are", x.moved(1, 1), 0);
        check.noMoved(x, -1, 1);
        check.noMoved(x, 10, 1);
        check.noMoved(x, 1, 0);
        check.noMoved(x, 1, 2);
        check.noMoved(x, 1, -1);
        for (int wild : WILD) {
            check.noMoved(x, wild, 1);
            check.noMoved(x, 1, wild);
        }
    }

    private static void movedByK() {
        MovingBanks x = delta();
        check.due("21: by k the lost one is area no more", x.moved(1, 1), -1);
        check.due("21: by k new ones are their owner's", x.moved(2, 1), 5);
        check.due("21: another one", x.moved(9, 1), 0);
    }

    private static void doubt() {
        MovingBanks x = delta();
        check.due("22: ahead of the step", x.doubt(1, 8), 0);
        check.due("22: water counts too", x.doubt(1, 9), 6);
        check.due("22: on and on", x.doubt(1, 200), 6);
        x.reach(3);
        check.due("22: the other way round", x.doubt(1, 9), 6);
        x.judge(1, 1);
        check.due("22: judged too", x.doubt(1, 9), 6);
        check.due("22: nothing is changed by it", x.step(1, 4), 1);
        x.law(9, 0, 0, 0);
        check.due("22: both by k", x.doubt(1, 9), 0);
        x.law(9, 1, 1, 0);
        check.due("22: both by g", x.doubt(1, 9), 0);
        check.due("22: step 0", x.doubt(0, 9), -1);
        check.due("22: step 2", x.doubt(2, 9), -1);
        check.due("22: year -1", x.doubt(1, -1), -1);
        check.due("22: year 201", x.doubt(1, 201), -1);
        for (int wild : WILD) {
            check.due("22: wild step", x.doubt(wild, 9), -1);
            check.due("22: wild year", x.doubt(1, wild), -1);
        }
    }

    /** A doubt about an early step goes on over later ones, and ends by a deed. */
    private static void doubtLater() {
        MovingBanks x = new MovingBanks();
        x.land(4, 1);
        x.own(0, 0, 0, 0, 1);
        x.own(1, 0, 3, 0, 2);
        Picture.draw(x, 1, ".~~~");
        Picture.draw(x, 2, "..~~");
        Picture.draw(x, 3, "...~");
        check.due("22: step 1, its year", x.doubt(1, 2), 1);
        check.due("22: step 1, over step 2", x.doubt(1, 3), 2);
        check.due("22: step 2", x.doubt(2, 3), 1);
        check.due("22: ahead of all steps", x.doubt(1, 1), 0);
        check.due("23: the first hangs more", x.weak(3), 1);
        check.due("23: in its year", x.weak(2), 1);
        x.deed(1, 0, 3, 0, 4, 5);
        check.due("22: ended by a deed", x.doubt(1, 5), 0);
        check.due("22: not ahead of it", x.doubt(1, 4), 2);
    }

    private static void weak() {
        MovingBanks x = new MovingBanks();
        x.land(6, 1);
        x.own(0, 0, 5, 0, 2);
        x.own(0, 0, 0, 0, 1);
        Picture.draw(x, 1, ".~~~~.");
        Picture.draw(x, 2, "..~~~.");
        Picture.draw(x, 3, "....~.");
        Picture.draw(x, 4, ".....~");
        check.due("23: none has any doubt: the first", x.weak(1), 1);
        check.due("22: step 1", x.doubt(1, 4), 1);
        check.due("22: step 2", x.doubt(2, 4), 3);
        check.due("22: step 3", x.doubt(3, 4), 1);
        check.due("23: the greatest", x.weak(4), 2);
        x.judge(2, 1);
        check.due("23: judged ones are not asked; the first of equals", x.weak(4), 1);
        x.judge(1, 0);
        check.due("23: the last one", x.weak(200), 3);
        x.judge(3, 0);
        check.due("23: all are judged", x.weak(4), -1);
        x.judge(2, -1);
        check.due("23: one is judged no more", x.weak(0), 2);
        check.due("23: year -1", x.weak(-1), -1);
        check.due("23: year 201", x.weak(201), -1);
        for (int wild : WILD) {
            check.due("23: wild", x.weak(wild), -1);
        }
    }

    private static void row() {
        MovingBanks x = delta();
        x.reach(3);
        for (int wild : WILD) {
            check.noRow("24: at first", x, wild);
        }
        check.rowDue("24: at first", x);
        x.chain(0, 1);
        check.rowDue("24", x, 2, 7, 1, 9);
        x.doubt(1, 9);
        x.weak(9);
        x.step(1, 7);
        x.chain(-1, 0);
        check.rowDue("24: told by chain alone", x, 2, 7, 1, 9);
        x.chain(1, 1);
        check.rowDue("24: the last one", x, 2, 7);
        for (int wild : WILD) {
            check.noRow("24", x, wild);
        }
    }

    private static void withoutSteps() {
        MovingBanks x = new MovingBanks();
        for (int maps = 0; maps < 2; maps++) {
            check.due("20: none", x.step(1, 0), -1);
            check.noMoved(x, 1, 1);
            check.due("22: none", x.doubt(1, 0), -1);
            check.due("23: none", x.weak(0), -1);
            x.map(0);
        }
    }

    private static void largestLand() {
        MovingBanks x = new MovingBanks();
        x.land(12, 12);
        x.own(0, 0, 11, 11, 1);
        x.map(0);
        x.sheet(0, 1, 12, -1, 0);
        x.map(1);
        x.sheet(0, 1, 12, 0, 0);
        x.map(2);
        stepDue("20: all is lost", x, 1, 1, 144, 0, 13, 1, 0, 0, 0);
        stepDue("20: all is new", x, 2, 2, 0, 144, 13, 1, 1, 1, 0);
        x.judge(1, 0);
        check.due("20: by g all have none", x.step(1, 7), 144);
        check.due("21: all", x.moved(1, 1), -144);
        check.due("22: all", x.doubt(1, 1), 144);
        check.due("15: none has all", x.area(-1, 2), 144);
        check.due("16: no front", x.front(-1, 2), 0);
        check.due("19: one", x.banks(2), 1);
        check.due("19: none", x.banks(1), 0);
        check.due("17: all years but one", x.tax(-1, 0, 200), 199 * 144);
        check.due("18: the last cell", x.chain(11, 11), 2);
        check.rowDue("18", x, 1, 0, -1, 1);
        x.judge(2, 0);
        check.due("22: without fast ones none", x.doubt(2, 2), 0);
        check.due("23: all are judged", x.weak(2), -1);
    }

    /** What was found of a step of an earlier land counts no more. */
    private static void factsAnew() {
        MovingBanks x = delta();
        x.land(3, 4);
        x.own(0, 0, 2, 1, 4);
        x.own(0, 2, 2, 3, 5);
        Picture.draw(x, 3, "...", "...", "~~~", "...");
        Picture.draw(x, 4, "...", "...", "...", "...");
        stepDue("20: anew", x, 1, 4, 0, 3, 1, 0, 1, 0, 3);
        x.law(0, 1, 1, 1);
        check.due("14: shore is no isle", x.owner(1, 2, 4), 4);
        x.deed(0, 3, 2, 3, 6, 4);
        check.due("7: the box begins at y", x.owner(1, 2, 4), 4);
        check.due("7: the box has y2", x.owner(1, 3, 4), 6);
        Picture.draw(x, 5, "...", "...", "...", "~~~");
        Picture.draw(x, 6, "...", "...", "~~~", "~~~");
        check.due("20: one row apart", x.step(3, 3), 1);
    }
}

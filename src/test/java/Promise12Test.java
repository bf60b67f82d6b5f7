/** Promise 12: count. */
public final class Promise12Test extends Sentences {
    public static void main(String[] args) {
        new Promise12Test().run();
    }

    @Says("What 0: w, 1: h")
    void columnsAndRows() {
        MovingBanks x = land(12, 7);
        due("count(0)", x.count(0), 12);
        due("count(1)", x.count(1), 7);
    }

    @Says("2: MAPS")
    void mapsUpToTen() {
        MovingBanks x = new MovingBanks();
        for (int m = 0; m < 12; m++) {
            due("with " + m, x.count(2), Math.min(m, 10));
            x.map(m);
        }
    }

    @Says("3: DEEDS")
    void deedsUpToThirty() {
        MovingBanks x = new MovingBanks();
        for (int d = 0; d < 32; d++) {
            due("with " + d, x.count(3), Math.min(d, 30));
            x.deed(0, 0, 0, 0, 1, 1);
        }
    }

    @Says("4: those not STRUCK")
    void deedsThatAreNotStruck() {
        MovingBanks x = new MovingBanks();
        due("none", x.count(4), 0);
        for (int d = 0; d < 30; d++) {
            x.deed(0, 0, 0, 0, 1, 1);
        }
        due("all", x.count(4), 30);
        for (int d = 0; d < 30; d++) {
            x.strike(d, true);
            due("less", x.count(4), 29 - d);
        }
        due("count(3)", x.count(3), 30);
        x.strike(7, false);
        due("one", x.count(4), 1);
    }

    @Says("5: LAWS told")
    void lawsUpToTwenty() {
        MovingBanks x = new MovingBanks();
        for (int n = 0; n < 22; n++) {
            due("with " + n, x.count(5), Math.min(n, 20));
            x.law(n, 0, 0, 0);
        }
    }

    @Says("6: REACH")
    void reach() {
        MovingBanks x = new MovingBanks();
        due("at first", x.count(6), 1);
        x.reach(12);
        due("12", x.count(6), 12);
    }

    @Says("7: numbers of the ROW")
    void numbersOfTheRow() {
        MovingBanks x = oneLost(5);
        due("at first", x.count(7), 0);
        x.chain(2, 0);
        due("one owner and its year", x.count(7), 2);
        x.chain(1, 0);
        due("two owners and their years", x.count(7), 4);
    }

    @Says("NONE for another what.")
    void anotherWhat() {
        MovingBanks x = ofAll();
        for (int what : new int[] {-1, 8, MIN, MAX}) {
            due("count(" + what + ")", x.count(what), NONE);
        }
    }

    @Says("What 0: w, 1: h, 2: MAPS, 3: DEEDS, 4: those not STRUCK, 5: LAWS told, 6: REACH, 7: numbers of the ROW.")
    void allOfThem() {
        countsDue(ofAll(), 3, 2, 2, 2, 1, 1, 3, 4);
        countsDue(new MovingBanks(), 1, 1, 0, 0, 0, 0, 1, 0);
    }
}

/** Promise 8: strike. */
public final class Promise08Test extends Sentences {
    public static void main(String[] args) {
        new Promise08Test().run();
    }

    private static MovingBanks threeDeeds() {
        MovingBanks x = new MovingBanks();
        x.own(0, 0, 0, 0, 0);
        x.map(0);
        x.deed(0, 0, 0, 0, 1, 5);
        x.deed(0, 0, 0, 0, 2, 5);
        x.deed(0, 0, 0, 0, 3, 5);
        return x;
    }

    @Says("A DEED is STRUCK or not: true")
    void struck() {
        MovingBanks x = threeDeeds();
        due("the last", x.strike(2, true), true);
        due("the one ahead of it holds", x.owner(0, 0, 5), 2);
        due("count(3)", x.count(3), 3);
        due("count(4)", x.count(4), 2);
        due("the first", x.strike(0, true), true);
        due("the second", x.strike(1, true), true);
        due("none holds", x.owner(0, 0, 200), 0);
        due("count(4)", x.count(4), 0);
    }

    @Says("A DEED is STRUCK or not: true")
    void notStruckAnyMore() {
        MovingBanks x = threeDeeds();
        x.strike(2, true);
        due("strike(2, false)", x.strike(2, false), true);
        due("it holds again", x.owner(0, 0, 5), 3);
        due("count(4)", x.count(4), 3);
    }

    @Says("A DEED is STRUCK or not: true")
    void struckTwiceIsStruck() {
        MovingBanks x = threeDeeds();
        x.strike(2, true);
        due("again", x.strike(2, true), true);
        due("owner", x.owner(0, 0, 5), 2);
        due("count(4)", x.count(4), 2);
    }

    @Says("A DEED is STRUCK or not: true")
    void neverStruckIsNotStruck() {
        MovingBanks x = threeDeeds();
        due("strike(1, false)", x.strike(1, false), true);
        due("count(4)", x.count(4), 3);
        due("owner", x.owner(0, 0, 5), 3);
    }

    @Says("false for none such")
    void noDeeds() {
        MovingBanks x = new MovingBanks();
        due("strike(0, true)", x.strike(0, true), false);
        due("strike(0, false)", x.strike(0, false), false);
    }

    @Says("false for none such")
    void oneBehindTheLast() {
        MovingBanks x = threeDeeds();
        due("strike(3, true)", x.strike(3, true), false);
        due("strike(3, false)", x.strike(3, false), false);
        due("strike(MAX, true)", x.strike(MAX, true), false);
        x.deed(0, 0, 0, 0, 4, 5);
        due("the new one is not struck", x.count(4), 4);
    }

    @Says("false for none such")
    void oneAheadOfTheFirst() {
        MovingBanks x = threeDeeds();
        due("strike(-1, true)", x.strike(-1, true), false);
        due("strike(MIN, true)", x.strike(MIN, true), false);
    }

    @Says("DEEDS 0 .. (at most 30)")
    void theThirtieth() {
        MovingBanks x = new MovingBanks();
        for (int d = 0; d < 30; d++) {
            x.deed(0, 0, 0, 0, 1, 5);
        }
        due("strike(29, true)", x.strike(29, true), true);
        due("strike(30, true)", x.strike(30, true), false);
        due("count(4)", x.count(4), 29);
    }

    @Says("Refused calls answer NONE, or false, and change nothing.")
    void refusedChangesNothing() {
        changesNothing(x -> {
            x.strike(-1, true);
            x.strike(2, true);
            x.strike(30, true);
            x.strike(MAX, false);
        });
    }
}

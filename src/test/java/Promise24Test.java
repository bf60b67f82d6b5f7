/** Promise 24: row. */
public final class Promise24Test extends Sentences {
    public static void main(String[] args) {
        new Promise24Test().run();
    }

    @Says("Number i of the ROW.")
    void theFirstAndTheLastNumber() {
        MovingBanks x = oneLost(5);
        x.chain(1, 0);
        due("row(0)", x.row(0), 6);
        due("row(1)", x.row(1), 0);
        due("row(2)", x.row(2), NONE);
        due("row(3)", x.row(3), 5);
    }

    @Says("NoSuchElementException: none such.")
    void oneBehindTheLast() {
        MovingBanks x = oneLost(5);
        x.chain(1, 0);
        noRow(x, 4);
        noRow(x, 80);
        noRow(x, MAX);
    }

    @Says("NoSuchElementException: none such.")
    void oneAheadOfTheFirst() {
        MovingBanks x = oneLost(5);
        x.chain(1, 0);
        noRow(x, -1);
        noRow(x, MIN);
    }

    @Says("NoSuchElementException: none such.")
    void anEmptyRow() {
        MovingBanks x = oneLost(5);
        noRow(x, 0);
        noRow(x, -1);
        noRow(x, 1);
        due("count(7)", x.count(7), 0);
    }

    @Says("ROW: numbers told last by a call that says so.")
    void aShorterRowBehindALonger() {
        MovingBanks x = oneLost(5);
        x.chain(1, 0);
        x.chain(2, 0);
        rowDue(x, 6, 0);
        noRow(x, 3);
    }

    @Says("ROW: numbers told last by a call that says so.")
    void otherCallsLeaveIt() {
        MovingBanks x = oneLost(5);
        x.chain(1, 0);
        x.water(0, 7);
        x.map(6);
        x.deed(1, 0, 1, 0, 2, 3);
        x.judge(1, 1);
        x.step(1, 7);
        x.tax(6, 0, 200);
        x.doubt(1, 6);
        x.weak(6);
        x.banks(6);
        rowDue(x, 6, 0, NONE, 5);
    }

    @Says("ROW: numbers told last by a call that says so.")
    void aRefusedChainLeavesIt() {
        MovingBanks x = oneLost(5);
        x.chain(1, 0);
        x.chain(3, 0);
        rowDue(x, 6, 0, NONE, 5);
    }
}

/** Promise 15: area. */
public final class Promise15Test extends Sentences {
    public static void main(String[] args) {
        new Promise15Test().run();
    }

    /** Year 10: 1 has four dry ones, 2 three, none three; two of 1's are water. From 20 on other two are. */
    static MovingBanks bend() {
        MovingBanks x = land(4, 3);
        x.own(0, 0, 3, 1, 1);
        x.own(3, 0, 3, 2, 2);
        draw(x, 10, "....", "~~..", "....");
        draw(x, 20, "....", "..~~", "....");
        x.reach(2);
        return x;
    }

    @Says("How many dry CELLS an OWNER (NONE: none) has in a YEAR.")
    void dryCells() {
        MovingBanks x = bend();
        due("owner 1", x.area(1, 10), 4);
        due("owner 2", x.area(2, 10), 3);
        due("owner 1 behind the step", x.area(1, 20), 5);
        due("owner 2 behind the step", x.area(2, 20), 2);
    }

    @Says("How many dry CELLS")
    void waterIsNoArea() {
        MovingBanks x = land(2, 1);
        x.own(0, 0, 1, 0, 1);
        draw(x, 10, "~~");
        due("all is water", x.area(1, 10), 0);
        due("none has none of it", x.area(NONE, 10), 0);
    }

    @Says("(NONE: none)")
    void ofNone() {
        MovingBanks x = bend();
        due("year 10", x.area(NONE, 10), 3);
        due("year 20", x.area(NONE, 20), 3);
        MovingBanks y = land(12, 12);
        y.map(0);
        due("all", y.area(NONE, 0), 144);
    }

    @Says("OWNERS 0 .. 9")
    void theFirstAndTheLastOwner() {
        MovingBanks x = land(12, 12);
        x.own(0, 0, 11, 10, 0);
        x.own(0, 11, 11, 11, 9);
        x.map(0);
        due("owner 0", x.area(0, 0), 132);
        due("owner 9", x.area(9, 0), 12);
        due("owner 5 has nothing", x.area(5, 0), 0);
    }

    @Says("-2: no such OWNER")
    void noSuchOwner() {
        MovingBanks x = bend();
        for (int owner : new int[] {-2, 10, MIN, MAX}) {
            due("area(" + owner + ", 10)", x.area(owner, 10), REFUSED);
        }
    }

    @Says("YEARS 0 .. 200.")
    void theFirstAndTheLastYear() {
        MovingBanks x = bend();
        due("year 0", x.area(1, 0), 4);
        due("year 19", x.area(1, 19), 4);
        due("year 20", x.area(1, 20), 5);
        due("year 200", x.area(1, 200), 5);
    }

    @Says("-2: no such OWNER, YEAR")
    void noSuchYear() {
        MovingBanks x = bend();
        for (int year : new int[] {-1, 201, MIN, MAX}) {
            due("area(1, " + year + ")", x.area(1, year), REFUSED);
        }
    }

    @Says("-2: no such OWNER, YEAR, no MAP.")
    void noMap() {
        MovingBanks x = land(2, 1);
        x.own(0, 0, 0, 0, 1);
        due("owner 1", x.area(1, 0), REFUSED);
        due("none", x.area(NONE, 0), REFUSED);
        x.map(0);
        due("with a map", x.area(1, 0), 1);
    }
}

/** Promises 13 to 19: what is water, and whose each cell is. */
public final class HoldingTest {
    private static final int[] WILD = {Integer.MIN_VALUE, -1000, Integer.MAX_VALUE, 1000};
    private static final Check check = new Check();

    public static void main(String[] args) {
        wet();
        owner();
        ownerByDeeds();
        ownerByK();
        shoreByNearest();
        isleByNearest();
        isleWithoutFast();
        area();
        front();
        tax();
        chain();
        chainOfMany();
        banks();
        withoutMaps();
        check.end();
    }

    private static void ownersDue(String what, MovingBanks x, int year, String... rows) {
        for (int y = 0; y < rows.length; y++) {
            for (int c = 0; c < rows[y].length(); c++) {
                char sign = rows[y].charAt(c);
                int want = sign == '-' ? -1 : sign - '0';
                check.due(what + ", owner(" + c + ", " + y + ", " + year + ")", x.owner(c, y, year), want);
            }
        }
    }

    private static void wet() {
        MovingBanks x = new MovingBanks();
        x.land(2, 2);
        Picture.draw(x, 10, "~.", "..");
        Picture.draw(x, 20, "..", ".~");
        check.due("13: ahead of all by map 0", x.wet(0, 0, 0), 1);
        check.due("13: ahead of all by map 0", x.wet(1, 1, 0), 0);
        check.due("13: up to year 19", x.wet(0, 0, 19), 1);
        check.due("13: from year 20 on", x.wet(0, 0, 20), 0);
        check.due("13: from year 20 on", x.wet(1, 1, 20), 1);
        check.due("13: up to year 200", x.wet(1, 1, 200), 1);
        check.due("13: year 201", x.wet(1, 1, 201), -1);
        check.due("13: year -1", x.wet(1, 1, -1), -1);
        check.due("13: x 2", x.wet(2, 1, 20), -1);
        check.due("13: y 2", x.wet(1, 2, 20), -1);
        check.due("13: x -1", x.wet(-1, 1, 20), -1);
        check.due("13: y -1", x.wet(1, -1, 20), -1);
        for (int wild : WILD) {
            check.due("13: wild x", x.wet(wild, 0, 0), -1);
            check.due("13: wild y", x.wet(0, wild, 0), -1);
            check.due("13: wild year", x.wet(0, 0, wild), -1);
        }
    }

    private static void owner() {
        MovingBanks x = new MovingBanks();
        x.land(3, 1);
        x.own(0, 0, 1, 0, 4);
        x.own(2, 0, 2, 0, 5);
        Picture.draw(x, 10, ".~.");
        ownersDue("14: water too", x, 0, "445");
        Picture.draw(x, 11, "..~");
        check.due("14: lost and new", x.step(1, 1) * 10 + x.step(1, 2), 11);
        ownersDue("14: behind the step", x, 11, "44-");
        ownersDue("14: ahead of it", x, 10, "445");
        check.due("14: year 201", x.owner(0, 0, 201), -2);
        check.due("14: year -1", x.owner(0, 0, -1), -2);
        check.due("14: x 3", x.owner(3, 0, 0), -2);
        check.due("14: x -1", x.owner(-1, 0, 0), -2);
        check.due("14: y 1", x.owner(0, 1, 0), -2);
        check.due("14: y -1", x.owner(0, -1, 0), -2);
        for (int wild : WILD) {
            check.due("14: wild x", x.owner(wild, 0, 0), -2);
            check.due("14: wild y", x.owner(0, wild, 0), -2);
            check.due("14: wild year", x.owner(0, 0, wild), -2);
        }
    }

    private static void ownerByDeeds() {
        MovingBanks x = new MovingBanks();
        x.land(4, 1);
        x.own(0, 0, 2, 0, 0);
        Picture.draw(x, 50, "~...");
        x.deed(0, 0, 3, 0, 7, 60);
        x.deed(0, 0, 3, 0, 3, 30);
        x.deed(1, 0, 1, 0, 4, 30);
        x.deed(2, 0, 2, 0, 5, 20);
        ownersDue("14: first", x, 19, "000-");
        ownersDue("14: deed 3", x, 20, "005-");
        ownersDue("14: deeds 1 and 2, on map 0", x, 30, "043-");
        ownersDue("14: ahead of deed 0", x, 59, "043-");
        ownersDue("14: deed 0", x, 60, "077-");
        Picture.draw(x, 60, "..~.");
        ownersDue("14: behind the step of its year, by k", x, 60, "773-");
        x.judge(1, 0);
        ownersDue("14: behind the step of its year, by g", x, 60, "77--");
    }

    private static void ownerByK() {
        MovingBanks x = new MovingBanks();
        x.land(5, 1);
        x.own(0, 0, 4, 0, 1);
        x.own(0, 0, 0, 0, 2);
        Picture.draw(x, 1, "..~..");
        Picture.draw(x, 2, "....~");
        check.due("14: sudden", x.step(1, 4), 1);
        ownersDue("14: by k all stay", x, 2, "21111");
        x.law(2, 0, 1, 0);
        ownersDue("14: sudden by g", x, 2, "2111-");
        x.judge(1, 0);
        ownersDue("14: slow by k", x, 2, "21111");
        Picture.draw(x, 3, "~~..~");
        x.law(3, 1, 1, 0);
        ownersDue("14: water that stays keeps its owner", x, 3, "--111");
    }

    private static void shoreByNearest() {
        MovingBanks x = new MovingBanks();
        x.land(5, 3);
        x.own(0, 0, 4, 0, 1);
        x.own(0, 1, 0, 1, 2);
        x.own(4, 1, 4, 1, 3);
        x.own(0, 2, 4, 2, 4);
        x.own(2, 0, 2, 0, -1);
        Picture.draw(x, 5, ".....", ".~~~.", ".....");
        Picture.draw(x, 6, ".....", ".....", ".....");
        ownersDue("14: of equal ones the first, perhaps none", x, 6, "11-11", "21-13", "44444");
        MovingBanks y = new MovingBanks();
        y.land(4, 3);
        y.own(0, 0, 3, 2, 1);
        y.own(3, 2, 3, 2, 2);
        Picture.draw(y, 5, ".~~~", "~~~~", "~~~.");
        Picture.draw(y, 6, "..~~", "~...", "~~~.");
        check.due("14: one part", y.step(1, 5), 1);
        check.due("14: no isle", y.step(1, 6), 0);
        check.due("14: slow", y.reach(12), 1);
        ownersDue("14: shore, each by its own nearest", y, 6, "1111", "1122", "1112");
    }

    private static void isleByNearest() {
        MovingBanks x = new MovingBanks();
        x.land(6, 3);
        x.own(0, 0, 5, 2, 9);
        x.own(0, 0, 0, 2, 1);
        x.own(5, 0, 5, 2, 2);
        x.own(3, 1, 3, 1, 8);
        Picture.draw(x, 5, ".~~~~.", ".~~~~.", ".~~~~.");
        Picture.draw(x, 6, ".~~~~.", ".~..~.", ".~~~~.");
        check.due("14: an isle", x.step(1, 6), 1);
        x.reach(2);
        ownersDue("14: by n, of equal ones the first", x, 6, "199992", "191192", "199992");
        x.deed(0, 0, 0, 0, 3, 5);
        ownersDue("14: the nearest, not the first of all", x, 6, "399992", "191192", "199992");
        x.law(6, 1, 0, 1);
        ownersDue("14: by s none", x, 6, "399992", "19--92", "199992");
        x.law(6, 1, 0, 2);
        ownersDue("14: by k what each had", x, 6, "399992", "199892", "199992");
        x.law(6, 0, 0, 1);
        ownersDue("14: slow by k: no isle law", x, 6, "399992", "199892", "199992");
    }

    private static void isleWithoutFast() {
        MovingBanks x = new MovingBanks();
        x.land(3, 1);
        x.own(0, 0, 2, 0, 5);
        Picture.draw(x, 0, "~~~");
        Picture.draw(x, 1, "~.~");
        x.law(0, 1, 1, 0);
        check.due("14: far", x.step(1, 3), 13);
        ownersDue("14: without fast ones none", x, 1, "5-5");
        x.law(0, 1, 1, 2);
        ownersDue("14: by k", x, 1, "555");
    }

    private static MovingBanks bend() {
        MovingBanks x = new MovingBanks();
        x.land(4, 3);
        x.own(0, 0, 3, 1, 1);
        x.own(3, 0, 3, 2, 2);
        Picture.draw(x, 10, "....", "~~..", "....");
        Picture.draw(x, 20, "....", "..~~", "....");
        x.reach(2);
        return x;
    }

    private static void area() {
        MovingBanks x = bend();
        check.due("15: owner 1", x.area(1, 10), 4);
        check.due("15: owner 2", x.area(2, 10), 3);
        check.due("15: none", x.area(-1, 10), 3);
        check.due("15: another one", x.area(9, 10), 0);
        check.due("15: owner 1 behind the step", x.area(1, 20), 5);
        check.due("15: owner 2, with lost water", x.area(2, 20), 2);
        check.due("15: owner 10", x.area(10, 10), -2);
        check.due("15: owner -2", x.area(-2, 10), -2);
        check.due("15: year -1", x.area(1, -1), -2);
        check.due("15: year 201", x.area(1, 201), -2);
        for (int wild : WILD) {
            check.due("15: wild owner", x.area(wild, 0), -2);
            check.due("15: wild year", x.area(0, wild), -2);
        }
    }

    private static void front() {
        MovingBanks x = bend();
        check.due("16: owner 1", x.front(1, 10), 3);
        check.due("16: owner 2 has none", x.front(2, 10), 0);
        check.due("16: none", x.front(-1, 10), 2);
        check.due("16: ahead of all", x.front(1, 0), 3);
        check.due("16: owner 2 behind the step", x.front(2, 20), 2);
        check.due("16: another one", x.front(0, 20), 0);
        check.due("16: owner 10", x.front(10, 10), -2);
        check.due("16: owner -2", x.front(-2, 10), -2);
        check.due("16: year -1", x.front(1, -1), -2);
        check.due("16: year 201", x.front(1, 201), -2);
        for (int wild : WILD) {
            check.due("16: wild owner", x.front(wild, 0), -2);
            check.due("16: wild year", x.front(0, wild), -2);
        }
    }

    private static void tax() {
        MovingBanks x = bend();
        check.due("17: one year", x.tax(1, 19, 19), 4);
        check.due("17: over the step", x.tax(1, 19, 20), 9);
        check.due("17: all years", x.tax(1, 0, 200), 20 * 4 + 181 * 5);
        check.due("17: none", x.tax(-1, 0, 19), 20 * 3);
        x.deed(0, 0, 0, 0, 9, 15);
        check.due("17: a deed on the way", x.tax(9, 10, 16), 2);
        check.due("17: and less for the other", x.tax(1, 10, 16), 5 * 4 + 2 * 3);
        check.due("17: from above to", x.tax(1, 20, 19), -2);
        check.due("17: owner 10", x.tax(10, 0, 1), -2);
        check.due("17: owner -2", x.tax(-2, 0, 1), -2);
        check.due("17: year -1", x.tax(1, -1, 1), -2);
        check.due("17: year 201", x.tax(1, 0, 201), -2);
        for (int wild : WILD) {
            check.due("17: wild owner", x.tax(wild, 0, 1), -2);
            check.due("17: wild from", x.tax(1, wild, 1), -2);
            check.due("17: wild to", x.tax(1, 0, wild), -2);
        }
    }

    private static void chain() {
        MovingBanks x = bend();
        x.deed(0, 0, 3, 2, 8, 5);
        x.deed(3, 0, 3, 0, 2, 200);
        x.deed(3, 1, 3, 1, 6, 20);
        x.deed(3, 0, 3, 0, 7, 20);
        x.deed(3, 0, 3, 0, 8, 20);
        check.due("18: the last year", x.chain(3, 0), 2);
        check.rowDue("18", x, 8, 10, 2, 200);
        check.due("18: no cell", x.chain(4, 0), -1);
        check.due("18: no cell", x.chain(0, 3), -1);
        check.due("18: no cell", x.chain(-1, 0), -1);
        check.due("18: no cell", x.chain(0, -1), -1);
        for (int wild : WILD) {
            check.due("18: wild", x.chain(wild, wild), -1);
        }
        check.rowDue("18: the row stays, if refused", x, 8, 10, 2, 200);
        check.due("18: lost", x.chain(3, 1), 2);
        check.rowDue("18", x, 8, 10, -1, 20);
        check.due("18: never any", x.chain(0, 2), 1);
        check.rowDue("18", x, -1, 10);
    }

    private static void chainOfMany() {
        MovingBanks x = new MovingBanks();
        x.land(2, 1);
        x.own(0, 0, 1, 0, 0);
        for (int m = 0; m < 10; m++) {
            Picture.draw(x, m, m % 2 == 0 ? ".." : ".~");
        }
        x.law(0, 1, 1, 0);
        for (int d = 0; d < 30; d++) {
            x.deed(0, 0, 0, 0, 1 + d % 2, 10 + d);
            x.judge(d, 0);
        }
        check.due("18: as many as there can be", x.chain(0, 0), 31);
        check.due("18: numbers", x.count(7), 62);
        check.due("18: lost and won by turns", x.chain(1, 0), 10);
        check.rowDue("18", x, 0, 0, -1, 1, 0, 2, -1, 3, 0, 4, -1, 5, 0, 6, -1, 7, 0, 8, -1, 9);
        MovingBanks y = new MovingBanks();
        y.land(2, 1);
        y.own(1, 0, 1, 0, 0);
        for (int m = 0; m < 10; m++) {
            Picture.draw(y, m, m % 2 == 0 ? "~." : "..");
        }
        y.law(0, 1, 1, 0);
        for (int d = 0; d < 30; d++) {
            y.deed(0, 0, 0, 0, 1 + d % 2, 10 + d);
        }
        check.due("18: 40 owners are the most", y.chain(0, 0), 40);
        check.due("18: 80 numbers are the most", y.count(7), 80);
    }

    private static void banks() {
        MovingBanks x = new MovingBanks();
        x.land(4, 3);
        Picture.draw(x, 10, ".~..", "~.~.", ".~..");
        Picture.draw(x, 20, "~~~~", "~~~~", "~~~~");
        Picture.draw(x, 30, "....", "~~~.", "....");
        check.due("19: a corner is not next", x.banks(0), 4);
        check.due("19: its year", x.banks(10), 4);
        check.due("19: no dry one", x.banks(20), 0);
        check.due("19: round the bend", x.banks(200), 1);
        check.due("19: year -1", x.banks(-1), -1);
        check.due("19: year 201", x.banks(201), -1);
        for (int wild : WILD) {
            check.due("19: wild", x.banks(wild), -1);
        }
        x.land(12, 12);
        x.sheet(0, 1, 12, 0x555, 0x555);
        x.map(0);
        check.due("19: the whole land is asked", x.banks(0) > 1, true);
        x.sheet(0, 1, 12, 0, 0);
        x.map(1);
        check.due("19: the whole land is one", x.banks(1), 1);
    }

    private static void withoutMaps() {
        MovingBanks x = new MovingBanks();
        x.own(0, 0, 0, 0, 1);
        check.due("13: no map", x.wet(0, 0, 0), -1);
        check.due("14: no map", x.owner(0, 0, 0), -2);
        check.due("15: no map", x.area(1, 0), -2);
        check.due("16: no map", x.front(1, 0), -2);
        check.due("17: no map", x.tax(1, 0, 0), -2);
        check.due("18: no map", x.chain(0, 0), -1);
        check.due("19: no map", x.banks(0), -1);
    }
}

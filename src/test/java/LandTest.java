/** Promises 1 to 12: what is told of the land, and what is refused. */
public final class LandTest {
    private static final int[] WILD = {Integer.MIN_VALUE, -1000, Integer.MAX_VALUE, 1000};
    private static final Check check = new Check();

    public static void main(String[] args) {
        newObject();
        land();
        landForgets();
        water();
        sheet();
        sheetRefused();
        map();
        own();
        deed();
        strike();
        law();
        lawOfAYear();
        reach();
        judge();
        count();
        check.end();
    }

    private static void newObject() {
        MovingBanks x = new MovingBanks();
        int[] want = {1, 1, 0, 0, 0, 0, 1, 0};
        for (int what = 0; what < want.length; what++) {
            check.due("1: count(" + what + ")", x.count(what), want[what]);
        }
        check.due("1: the only cell", x.own(0, 0, 0, 0, 4), true);
        check.due("1: no other column", x.own(0, 0, 1, 0, 4), false);
        check.due("1: no other row", x.own(0, 0, 0, 1, 4), false);
        check.rowDue("1", x);
        MovingBanks y = new MovingBanks();
        y.map(0);
        check.due("1: no owner", y.owner(0, 0, 0), -1);
        check.due("1: dry", y.wet(0, 0, 0), 0);
        check.due("1: one bank", y.banks(0), 1);
    }

    private static void land() {
        MovingBanks x = new MovingBanks();
        check.due("2: land(12, 12)", x.land(12, 12), true);
        check.due("2: land(12, 1)", x.land(12, 1), true);
        check.due("2: land(13, 5)", x.land(13, 5), false);
        check.due("2: land(5, 13)", x.land(5, 13), false);
        check.due("2: land(0, 5)", x.land(0, 5), false);
        check.due("2: land(5, 0)", x.land(5, 0), false);
        for (int wild : WILD) {
            check.due("2: land(wild, 2)", x.land(wild, 2), false);
            check.due("2: land(2, wild)", x.land(2, wild), false);
        }
        check.due("2: w stays", x.count(0), 12);
        check.due("2: h stays", x.count(1), 1);
    }

    private static void landForgets() {
        MovingBanks x = new MovingBanks();
        x.land(3, 1);
        x.own(0, 0, 2, 0, 7);
        x.deed(0, 0, 0, 0, 1, 0);
        x.map(1);
        x.water(0, 1);
        x.map(2);
        x.judge(1, 0);
        x.law(0, 0, 1, 2);
        x.reach(9);
        x.chain(1, 0);
        x.water(0, 7);
        check.due("2: refused", x.land(0, 0), false);
        check.due("2: maps stay, if refused", x.count(2), 2);
        check.due("2: the same land again", x.land(3, 1), true);
        int[] want = {3, 1, 0, 0, 0, 1, 9, 2};
        for (int what = 0; what < want.length; what++) {
            check.due("2: behind land, count(" + what + ")", x.count(what), want[what]);
        }
        x.map(1);
        check.due("2: no draft stays", x.wet(0, 0, 1), 0);
        check.due("2: no owner stays", x.owner(1, 0, 1), -1);
        x.water(0, 1);
        x.map(2);
        check.due("2: no judgement stays", x.step(1, 4), 1);
        check.rowDue("2: the row stays", x, 7, 1);
    }

    private static void water() {
        MovingBanks x = new MovingBanks();
        x.land(12, 2);
        check.due("3: all of a row", x.water(0, -1), 12);
        check.due("3: bits from w on", x.water(1, 0xF000 | 0x801), 2);
        check.due("3: no such row", x.water(2, 1), -1);
        check.due("3: no such row", x.water(-1, 1), -1);
        for (int wild : WILD) {
            check.due("3: no such row", x.water(wild, 1), -1);
        }
        x.map(0);
        check.due("3: column 0 is the lowest", x.wet(0, 1, 0), 1);
        check.due("3: column 1", x.wet(1, 1, 0), 0);
        check.due("3: column 11", x.wet(11, 1, 0), 1);
        check.due("3: row 0", x.wet(5, 0, 0), 1);
        x.water(1, 2);
        x.map(1);
        check.due("3: row 0 begins as the latest", x.wet(5, 0, 1), 1);
        check.due("3: row 1 is told anew", x.wet(0, 1, 1), 0);
        check.due("3: row 1 is told anew", x.wet(1, 1, 1), 1);
        for (int m = 2; m < 10; m++) {
            x.map(m);
        }
        check.due("3: no water behind 10 maps", x.water(0, 0), -1);
    }

    private static void sheet() {
        MovingBanks x = new MovingBanks();
        x.land(12, 4);
        check.due("4: bytes", x.sheet(0, 0, 2, 0xFFF, -0xF00), 2);
        check.due("4: up to the last row", x.sheet(2, 1, 20, 0x801, 1), 2);
        x.map(0);
        check.due("4: bytes have 8 bits", rowOf(x, 0, 0), 0xFF);
        check.due("4: the second byte", rowOf(x, 1, 0), 0xFF);
        check.due("4: an int", rowOf(x, 2, 0), 0x801);
        check.due("4: the second int", rowOf(x, 3, 0), 0x802);
        check.due("4: none of a sheet", x.sheet(1, 1, 0, -1, 0), 0);
        check.due("4: a missing one", x.sheet(0, 2, 4, -1, 0), 0);
        check.due("4: a missing one, n below 0", x.sheet(0, 2, Integer.MIN_VALUE, -1, 0), 0);
        x.map(1);
        check.due("4: nothing became other", x.step(1, 1) + x.step(1, 2), 0);
        check.due("4: entries wrap round", x.sheet(0, 1, 3, Integer.MAX_VALUE, Integer.MAX_VALUE), 3);
        x.map(2);
        check.due("4: MAX", rowOf(x, 0, 2), 0xFFF);
        check.due("4: MAX + MAX", rowOf(x, 1, 2), 0xFFE);
        check.due("4: MAX + MAX + MAX", rowOf(x, 2, 2), 0xFFD);
        check.due("4: a byte without a sign", x.sheet(3, 0, 1, -1, 0), 1);
        x.map(3);
        check.due("4: a byte without a sign", rowOf(x, 3, 3), 0xFF);
    }

    private static int rowOf(MovingBanks x, int y, int year) {
        int bits = 0;
        for (int c = 0; c < x.count(0); c++) {
            bits |= x.wet(c, y, year) << c;
        }
        return bits;
    }

    private static void sheetRefused() {
        MovingBanks x = new MovingBanks();
        x.land(2, 3);
        check.due("4: 20 entries", x.sheet(0, 0, 20, 0, 0), 3);
        for (int kind = 0; kind <= 2; kind++) {
            check.due("4: n above 20", x.sheet(0, kind, 21, 3, 0), -1);
            check.due("4: no such row", x.sheet(3, kind, 1, 3, 0), -1);
            check.due("4: no such row", x.sheet(-1, kind, 1, 3, 0), -1);
            check.due("4: NONE first", x.sheet(-1, kind, -1, 3, 0), -1);
        }
        check.due("4: no such kind", x.sheet(0, 3, 1, 3, 0), -1);
        check.due("4: no such kind", x.sheet(0, -1, 1, 3, 0), -1);
        check.due("4: no such kind first", x.sheet(0, 3, -1, 3, 0), -1);
        check.due("4: n below 0", x.sheet(2, 0, -1, 3, 0), -2);
        check.due("4: n below 0", x.sheet(2, 1, Integer.MIN_VALUE, 3, 0), -2);
        for (int wild : WILD) {
            check.due("4: no such row", x.sheet(wild, 1, 1, 3, 0), -1);
            check.due("4: no such kind", x.sheet(0, wild, 1, 3, 0), -1);
        }
        x.map(0);
        check.due("4: nothing was drawn", rowOf(x, 0, 0) + rowOf(x, 1, 0) + rowOf(x, 2, 0), 0);
        for (int m = 1; m < 10; m++) {
            x.map(m);
        }
        check.due("4: 10 maps", x.sheet(0, 1, 1, 0, 0), -1);
        check.due("4: 10 maps, a missing one", x.sheet(0, 2, 1, 0, 0), -1);
        check.due("4: 10 maps first", x.sheet(0, 1, -1, 0, 0), -1);
    }

    private static void map() {
        MovingBanks x = new MovingBanks();
        check.due("5: below 0", x.map(-1), -1);
        check.due("5: above 200", x.map(201), -1);
        for (int wild : WILD) {
            check.due("5: wild", x.map(wild), -1);
        }
        check.due("5: year 0", x.map(0), 0);
        check.due("5: the same year", x.map(0), -1);
        check.due("5: the next", x.map(1), 1);
        check.due("5: below", x.map(0), -1);
        check.due("5: year 200", x.map(200), 2);
        check.due("5: none above", x.map(200), -1);
        check.due("5: three", x.count(2), 3);
        MovingBanks y = new MovingBanks();
        for (int m = 0; m < 10; m++) {
            check.due("5: map", y.map(3 * m), m);
        }
        check.due("5: an eleventh", y.map(100), -1);
        check.due("5: ten", y.count(2), 10);
    }

    private static void own() {
        MovingBanks x = new MovingBanks();
        x.land(4, 3);
        x.water(1, 2);
        check.due("6: a box", x.own(1, 1, 2, 2, 9), true);
        check.due("6: owner 10", x.own(0, 0, 3, 2, 10), false);
        check.due("6: owner -2", x.own(0, 0, 3, 2, -2), false);
        check.due("6: x above x2", x.own(2, 0, 1, 2, 1), false);
        check.due("6: y above y2", x.own(0, 2, 3, 1, 1), false);
        check.due("6: x below 0", x.own(-1, 0, 3, 1, 1), false);
        check.due("6: y below 0", x.own(0, -1, 3, 1, 1), false);
        check.due("6: x2 is w", x.own(0, 0, 4, 1, 1), false);
        check.due("6: y2 is h", x.own(0, 0, 3, 3, 1), false);
        for (int wild : WILD) {
            check.due("6: wild x2", x.own(0, 0, wild, 0, 1), false);
            check.due("6: wild y", x.own(0, wild, 0, wild, 1), false);
        }
        x.map(7);
        check.due("6: with one map", x.own(2, 2, 2, 2, -1), true);
        int[] want = {-1, -1, -1, -1, -1, 9, 9, -1, -1, 9, -1, -1};
        for (int c = 0; c < 12; c++) {
            check.due("6: owner of cell " + c, x.owner(c % 4, c / 4, 3), want[c]);
        }
        x.map(8);
        check.due("6: with two maps", x.own(0, 0, 0, 0, 1), false);
        check.due("6: nothing changed", x.owner(0, 0, 0), -1);
    }

    private static void deed() {
        MovingBanks x = new MovingBanks();
        x.land(3, 2);
        check.due("7: owner -1", x.deed(0, 0, 0, 0, -1, 0), -1);
        check.due("7: owner 10", x.deed(0, 0, 0, 0, 10, 0), -1);
        check.due("7: year -1", x.deed(0, 0, 0, 0, 0, -1), -1);
        check.due("7: year 201", x.deed(0, 0, 0, 0, 0, 201), -1);
        check.due("7: x above x2", x.deed(1, 0, 0, 0, 0, 0), -1);
        check.due("7: y above y2", x.deed(0, 1, 0, 0, 0, 0), -1);
        check.due("7: x2 is w", x.deed(0, 0, 3, 0, 0, 0), -1);
        check.due("7: y2 is h", x.deed(0, 0, 0, 2, 0, 0), -1);
        check.due("7: x below 0", x.deed(-1, 0, 0, 0, 0, 0), -1);
        check.due("7: y below 0", x.deed(0, -1, 0, 0, 0, 0), -1);
        for (int d = 0; d < 30; d++) {
            check.due("7: a deed", x.deed(0, 0, 2, 1, d % 10, d * 6 + 20), d);
        }
        check.due("7: a 31st", x.deed(0, 0, 2, 1, 1, 200), -1);
        check.due("7: 30 deeds", x.count(3), 30);
        x.own(0, 0, 1, 0, 3);
        x.water(0, 2);
        x.map(50);
        check.due("7: year 200, by the last one", x.owner(0, 0, 200), 9);
        check.due("7: water stays", x.owner(1, 0, 200), 3);
        check.due("7: without an owner", x.owner(2, 1, 200), -1);
        check.due("7: ahead of all", x.owner(0, 0, 19), 3);
    }

    private static void strike() {
        MovingBanks x = new MovingBanks();
        check.due("8: none", x.strike(0, true), false);
        x.own(0, 0, 0, 0, 0);
        x.map(0);
        x.deed(0, 0, 0, 0, 1, 5);
        x.deed(0, 0, 0, 0, 2, 5);
        check.due("8: the later of one year", x.owner(0, 0, 5), 2);
        check.due("8: struck", x.strike(1, true), true);
        check.due("8: struck again", x.strike(1, true), true);
        check.due("8: the other holds", x.owner(0, 0, 5), 1);
        check.due("8: not struck", x.count(4), 1);
        check.due("8: deeds", x.count(3), 2);
        check.due("8: struck too", x.strike(0, true), true);
        check.due("8: none holds", x.owner(0, 0, 200), 0);
        check.due("8: not struck any more", x.strike(1, false), true);
        check.due("8: holds again", x.owner(0, 0, 5), 2);
        check.due("8: -1", x.strike(-1, true), false);
        check.due("8: 2", x.strike(2, true), false);
        for (int wild : WILD) {
            check.due("8: wild", x.strike(wild, true), false);
        }
        x.land(1, 1);
        x.deed(0, 0, 0, 0, 1, 5);
        check.due("8: a new deed is not struck", x.count(4), 1);
    }

    private static void law() {
        MovingBanks x = new MovingBanks();
        int[][] bad = {{-1, 0, 0, 0}, {201, 0, 0, 0}, {0, -1, 0, 0}, {0, 2, 0, 0}, {0, 0, -1, 0},
            {0, 0, 2, 0}, {0, 0, 0, -1}, {0, 0, 0, 3}, {Integer.MIN_VALUE, 0, 0, 0},
            {0, Integer.MAX_VALUE, 0, 0}, {0, 0, Integer.MIN_VALUE, 0}, {0, 0, 0, Integer.MAX_VALUE}};
        for (int[] b : bad) {
            check.due("9: refused", x.law(b[0], b[1], b[2], b[3]), -1);
        }
        for (int n = 1; n <= 20; n++) {
            check.due("9: law", x.law(n * 10, n % 2, n / 2 % 2, n % 3), n);
        }
        check.due("9: a 21st", x.law(0, 0, 0, 0), -1);
        check.due("9: 20 told", x.count(5), 20);
    }

    /** One lost cell next to water, in year 50: by k its owner stays, by g it has none. */
    private static MovingBanks oneLost() {
        MovingBanks x = new MovingBanks();
        x.land(3, 1);
        x.own(0, 0, 2, 0, 6);
        x.water(0, 1);
        x.map(20);
        x.water(0, 3);
        x.map(50);
        return x;
    }

    private static void lawOfAYear() {
        MovingBanks x = oneLost();
        check.due("9: at first g", x.owner(1, 0, 50), -1);
        x.law(51, 0, 0, 0);
        check.due("9: a later year", x.owner(1, 0, 50), -1);
        x.law(50, 0, 1, 0);
        check.due("9: its own year", x.owner(1, 0, 50), 6);
        x.law(10, 1, 1, 0);
        check.due("9: a year below", x.owner(1, 0, 50), 6);
        x.law(50, 1, 0, 0);
        check.due("9: of equal ones the last", x.owner(1, 0, 50), -1);
        x.judge(1, 1);
        check.due("9: sudden by k", x.owner(1, 0, 50), 6);
        MovingBanks y = oneLost();
        y.law(0, 0, 0, 0);
        check.due("9: from year 0 on", y.owner(1, 0, 50), 6);
    }

    private static void reach() {
        MovingBanks x = new MovingBanks();
        check.due("10: at first 1", x.reach(12), 1);
        check.due("10: 12", x.reach(1), 12);
        check.due("10: 0", x.reach(0), -1);
        check.due("10: 13", x.reach(13), -1);
        for (int wild : WILD) {
            check.due("10: wild", x.reach(wild), -1);
        }
        check.due("10: stays", x.reach(1), 1);
        MovingBanks y = oneLost();
        y.water(0, 1);
        y.map(61);
        y.water(0, 4);
        y.map(62);
        check.due("10: far", y.step(3, 3), 2);
        check.due("10: above 1", y.step(3, 4), 1);
        y.reach(2);
        check.due("10: not above 2", y.step(3, 4), 0);
    }

    private static void judge() {
        MovingBanks x = oneLost();
        check.due("11: step 0", x.judge(0, 0), false);
        check.due("11: step 2", x.judge(2, 0), false);
        check.due("11: step -1", x.judge(-1, 0), false);
        check.due("11: how 2", x.judge(1, 2), false);
        check.due("11: how -2", x.judge(1, -2), false);
        for (int wild : WILD) {
            check.due("11: wild step", x.judge(wild, 0), false);
            check.due("11: wild how", x.judge(1, wild), false);
        }
        check.due("11: slow by itself", x.step(1, 4), 0);
        check.due("11: judged sudden", x.judge(1, 1), true);
        check.due("11: is sudden", x.step(1, 4), 1);
        check.due("11: so the owner stays", x.owner(1, 0, 50), 6);
        check.due("11: judged slow", x.judge(1, 0), true);
        check.due("11: is slow", x.step(1, 4), 0);
        check.due("11: so there is none", x.owner(1, 0, 50), -1);
        check.due("11: not judged", x.judge(1, -1), true);
        check.due("11: slow by itself again", x.step(1, 4), 0);
        check.due("11: weak asks it", x.weak(50), 1);
        MovingBanks y = new MovingBanks();
        check.due("11: no maps", y.judge(1, 0), false);
        y.map(0);
        check.due("11: one map", y.judge(1, 0), false);
    }

    private static void count() {
        MovingBanks x = oneLost();
        x.deed(0, 0, 0, 0, 1, 1);
        x.deed(0, 0, 0, 0, 1, 1);
        x.strike(0, true);
        x.law(0, 0, 0, 0);
        x.reach(5);
        x.chain(1, 0);
        int[] want = {3, 1, 2, 2, 1, 1, 5, 2};
        for (int what = 0; what < want.length; what++) {
            check.due("12: count(" + what + ")", x.count(what), want[what]);
        }
        check.due("12: count(8)", x.count(8), -1);
        check.due("12: count(-1)", x.count(-1), -1);
        for (int wild : WILD) {
            check.due("12: wild", x.count(wild), -1);
        }
    }
}

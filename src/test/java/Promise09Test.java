/** Promise 9: law. */
public final class Promise09Test extends Sentences {
    private static final int K = 0;
    private static final int G = 1;
    private static final int ISLE_N = 0;
    private static final int ISLE_S = 1;
    private static final int ISLE_K = 2;

    public static void main(String[] args) {
        new Promise09Test().run();
    }

    /** An isle of one cell, which owner 5 had, amid water of year 20; the nearest bank is owner 3's. */
    private static MovingBanks isle() {
        MovingBanks x = land(5, 1);
        x.own(0, 0, 4, 0, 5);
        x.own(0, 0, 0, 0, 3);
        draw(x, 10, ".~~~~");
        draw(x, 20, ".~.~~");
        x.judge(1, 0);
        return x;
    }

    @Says("how many were told in all")
    void howMany() {
        MovingBanks x = new MovingBanks();
        due("the first", x.law(50, K, K, ISLE_N), 1);
        due("of the same year", x.law(50, K, K, ISLE_N), 2);
        due("of a lesser year", x.law(0, G, G, ISLE_K), 3);
        due("count(5)", x.count(5), 3);
    }

    @Says("NONE: others; 20.")
    void twentyLaws() {
        MovingBanks x = oneLost(50);
        for (int n = 1; n <= 19; n++) {
            due("law " + n, x.law(50, G, K, ISLE_N), n);
        }
        due("the twentieth", x.law(50, K, G, ISLE_N), 20);
        due("one more", x.law(50, G, G, ISLE_N), NONE);
        due("count(5)", x.count(5), 20);
        due("the twentieth holds", x.owner(1, 0, 50), 6);
    }

    @Says("how many were told in all")
    void ofLandsAheadToo() {
        MovingBanks x = new MovingBanks();
        for (int n = 1; n <= 20; n++) {
            x.law(50, G, K, ISLE_N);
            x.land(2, 2);
        }
        due("one more", x.law(50, G, G, ISLE_N), NONE);
    }

    @Says("Three laws from a YEAR on")
    void theFirstYear() {
        MovingBanks x = oneLost(1);
        due("year 0", x.law(0, K, K, ISLE_N), 1);
        due("by k", x.owner(1, 0, 1), 6);
    }

    @Says("Three laws from a YEAR on")
    void theLastYear() {
        MovingBanks x = oneLost(200);
        due("year 200", x.law(200, K, K, ISLE_N), 1);
        due("by k", x.owner(1, 0, 200), 6);
    }

    @Says("NONE: others")
    void noSuchYear() {
        MovingBanks x = new MovingBanks();
        for (int year : new int[] {-1, 201, MIN, MAX}) {
            due("year " + year, x.law(year, K, K, ISLE_N), NONE);
        }
        due("count(5)", x.count(5), 0);
    }

    @Says("(0 k, 1 g; 0 k, 1 g; 0 n, 1 s, 2 k)")
    void noSuchLawForSlow() {
        MovingBanks x = new MovingBanks();
        for (int slow : new int[] {-1, 2, MIN, MAX}) {
            due("slow " + slow, x.law(0, slow, K, ISLE_N), NONE);
        }
        due("slow 0", x.law(0, 0, K, ISLE_N), 1);
        due("slow 1", x.law(0, 1, K, ISLE_N), 2);
    }

    @Says("(0 k, 1 g; 0 k, 1 g; 0 n, 1 s, 2 k)")
    void noSuchLawForSudden() {
        MovingBanks x = new MovingBanks();
        for (int sudden : new int[] {-1, 2, MIN, MAX}) {
            due("sudden " + sudden, x.law(0, K, sudden, ISLE_N), NONE);
        }
        due("sudden 0", x.law(0, K, 0, ISLE_N), 1);
        due("sudden 1", x.law(0, K, 1, ISLE_N), 2);
    }

    @Says("(0 k, 1 g; 0 k, 1 g; 0 n, 1 s, 2 k)")
    void noSuchLawForIsles() {
        MovingBanks x = new MovingBanks();
        for (int isle : new int[] {-1, 3, MIN, MAX}) {
            due("isle " + isle, x.law(0, K, K, isle), NONE);
        }
        due("isle 0", x.law(0, K, K, 0), 1);
        due("isle 1", x.law(0, K, K, 1), 2);
        due("isle 2", x.law(0, K, K, 2), 3);
    }

    @Says("at first g, k, n")
    void atFirst() {
        MovingBanks x = oneLost(50);
        due("slow by g", x.owner(1, 0, 50), NONE);
        x.judge(1, 1);
        due("sudden by k", x.owner(1, 0, 50), 6);
        due("an isle by n", isle().owner(2, 0, 20), 3);
    }

    @Says("SLOW: k, g; SUDDEN: k, g")
    void slowAndSuddenEachByItsOwn() {
        MovingBanks x = oneLost(50);
        x.law(0, K, G, ISLE_N);
        due("slow by k", x.owner(1, 0, 50), 6);
        x.judge(1, 1);
        due("sudden by g", x.owner(1, 0, 50), NONE);
        x.law(0, G, K, ISLE_N);
        due("sudden by k", x.owner(1, 0, 50), 6);
        x.judge(1, 0);
        due("slow by g", x.owner(1, 0, 50), NONE);
    }

    @Says("ISLE: n, s, k")
    void islesByEachLaw() {
        MovingBanks x = isle();
        x.law(0, G, K, ISLE_S);
        due("by s", x.owner(2, 0, 20), NONE);
        x.law(0, G, K, ISLE_K);
        due("by k", x.owner(2, 0, 20), 5);
        x.law(0, G, K, ISLE_N);
        due("by n", x.owner(2, 0, 20), 3);
    }

    @Says("each told from a YEAR on")
    void notAYearAhead() {
        MovingBanks x = oneLost(50);
        x.law(51, K, K, ISLE_N);
        due("from 51 on", x.owner(1, 0, 50), NONE);
        x.law(50, K, K, ISLE_N);
        due("from 50 on", x.owner(1, 0, 50), 6);
        MovingBanks y = oneLost(50);
        y.law(49, K, K, ISLE_N);
        due("from 49 on", y.owner(1, 0, 50), 6);
    }

    @Says("That law holds in a YEAR whose own is the greatest not above it")
    void theGreatestYearNotAbove() {
        MovingBanks x = oneLost(50);
        x.law(40, K, K, ISLE_N);
        x.law(30, G, G, ISLE_N);
        due("40 is above 30, told later", x.owner(1, 0, 50), 6);
        x.law(41, G, G, ISLE_N);
        due("41 is above 40", x.owner(1, 0, 50), NONE);
        x.law(60, K, K, ISLE_N);
        due("60 is above the year", x.owner(1, 0, 50), NONE);
    }

    @Says("of equal ones the one told last")
    void ofEqualOnesTheLast() {
        MovingBanks x = oneLost(50);
        x.law(50, K, K, ISLE_N);
        x.law(50, G, G, ISLE_N);
        due("g told last", x.owner(1, 0, 50), NONE);
        x.law(50, K, K, ISLE_N);
        due("k told last", x.owner(1, 0, 50), 6);
        x.law(0, G, G, ISLE_N);
        due("a lesser year told last", x.owner(1, 0, 50), 6);
    }

    @Says("of equal ones the one told last")
    void ofTheFirstYearToo() {
        MovingBanks x = oneLost(50);
        x.law(0, K, K, ISLE_N);
        x.law(0, G, G, ISLE_N);
        due("g told last", x.owner(1, 0, 50), NONE);
    }

    @Says("Refused calls answer NONE, or false, and change nothing.")
    void refusedChangesNothing() {
        changesNothing(x -> {
            x.law(-1, K, G, ISLE_N);
            x.law(201, K, G, ISLE_N);
            x.law(20, 2, G, ISLE_N);
            x.law(20, K, 2, ISLE_N);
            x.law(20, K, G, 3);
            x.law(20, -1, G, ISLE_N);
            x.law(20, K, -1, ISLE_N);
            x.law(20, K, G, -1);
        });
    }
}

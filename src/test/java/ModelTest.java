import java.util.NoSuchElementException;
import java.util.Random;

/** All promises: runs of calls, the same ones in each run of this test, on the class and on the plain model. */
public final class ModelTest {
    private static final int THROWN = Integer.MIN_VALUE + 7;
    private static final int CALLS = 512;
    private static final int[] EDGES = {-2, -1, 0, 1, 9, 10, 11, 12, 13, 20, 21, 30, 199, 200, 201,
        Integer.MIN_VALUE, Integer.MAX_VALUE};
    private static final Check check = new Check();

    private final Random random;
    private final MovingBanks x = new MovingBanks();
    private final PlainModel model = new PlainModel();
    private final int years;
    private final int owners;
    private int w = 1;
    private int h = 1;
    private int year;

    private ModelTest(long seed) {
        random = new Random(seed);
        years = random.nextBoolean() ? 25 : 200;
        owners = 2 + random.nextInt(9);
    }

    public static void main(String[] args) {
        int runs = args.length > 0 ? Integer.parseInt(args[0]) : 30;
        long from = args.length > 1 ? Long.parseLong(args[1]) : 1;
        for (long seed = from; seed < from + runs; seed++) {
            new ModelTest(seed).run(seed);
        }
        check.end();
    }

    private void run(long seed) {
        newLand();
        for (int i = 0; i < CALLS; i++) {
            call("seed " + seed + ", call " + i);
        }
    }

    private int below(int n) {
        return random.nextInt(n);
    }

    /** Mostly 0 .. n - 1, now and then what lies at an edge or far away. */
    private int any(int n) {
        return below(40) == 0 ? EDGES[below(EDGES.length)] : below(Math.max(1, n));
    }

    private int anyYear() {
        return any(years + 1);
    }

    private int anyStep() {
        return any(x.count(2) + 1);
    }

    private void newLand() {
        int most = below(4) == 0 ? 12 : 6;
        w = 1 + below(most);
        h = 1 + below(most);
        year = below(years / 5);
        check.due("land", x.land(w, h), model.land(w, h));
    }

    private void call(String at) {
        int kind = below(100);
        if (kind < 30) {
            drawing(at);
        } else if (kind < 50) {
            telling(at);
        } else {
            asking(at);
        }
    }

    private void drawing(String at) {
        int kind = below(12);
        if (kind < 6) {
            int y = any(h);
            int bits = below(3) == 0 ? random.nextInt() : random.nextInt() & random.nextInt();
            check.due(at + " water", x.water(y, bits), model.water(y, bits));
        } else if (kind < 8) {
            int y = any(h);
            int sort = any(3);
            int n = any(21) - below(2);
            int f = random.nextInt();
            int by = random.nextInt();
            check.due(at + " sheet", x.sheet(y, sort, n, f, by), model.sheet(y, sort, n, f, by));
        } else if (kind < 10) {
            drawMap(at);
        } else if (below(12) == 0) {
            if (below(4) == 0) {
                int a = any(12);
                int b = any(14);
                check.due(at + " land", x.land(a, b), model.land(a, b));
                w = x.count(0);
                h = x.count(1);
                year = 0;
            } else {
                newLand();
            }
        } else if (below(3) == 0) {
            int v = any(14);
            check.due(at + " reach", x.reach(v), model.reach(v));
        }
    }

    private void drawMap(String at) {
        int of = below(10) == 0 ? anyYear() : year;
        int got = x.map(of);
        check.due(at + " map", got, model.map(of));
        if (got >= 0) {
            year = of + 1 + below(Math.max(1, years / 10));
        }
    }

    private void telling(String at) {
        int a = any(w);
        int b = any(h);
        int a2 = below(20) == 0 ? any(w) : Math.min(w - 1, Math.max(0, a) % 12 + below(w));
        int b2 = below(20) == 0 ? any(h) : Math.min(h - 1, Math.max(0, b) % 12 + below(h));
        int whose = any(owners + 1) - (below(4) == 0 ? 1 : 0);
        int of = anyYear();
        switch (below(8)) {
            case 0, 1, 2 -> check.due(at + " own", x.own(a, b, a2, b2, whose), model.own(a, b, a2, b2, whose));
            case 3, 4 -> check.due(at + " deed", x.deed(a, b, a2, b2, whose, of), model.deed(a, b, a2, b2, whose, of));
            case 5 -> {
                int d = any(x.count(3) + 1);
                boolean is = random.nextBoolean();
                check.due(at + " strike", x.strike(d, is), model.strike(d, is));
            }
            case 6 -> {
                int slow = any(2);
                int sudden = any(2);
                int isle = any(3);
                if (below(4) == 0) {
                    check.due(at + " law", x.law(of, slow, sudden, isle), model.law(of, slow, sudden, isle));
                }
            }
            default -> {
                int s = anyStep();
                int how = any(4) - 1;
                check.due(at + " judge", x.judge(s, how), model.judge(s, how));
            }
        }
    }

    private void asking(String at) {
        int a = any(w);
        int b = any(h);
        int whose = any(owners + 1) - below(2);
        int of = anyYear();
        int s = anyStep();
        switch (below(13)) {
            case 0 -> check.due(at + " wet", x.wet(a, b, of), model.wet(a, b, of));
            case 1, 2 -> check.due(at + " owner", x.owner(a, b, of), model.owner(a, b, of));
            case 3 -> check.due(at + " area", x.area(whose, of), model.area(whose, of));
            case 4 -> check.due(at + " front", x.front(whose, of), model.front(whose, of));
            case 5 -> askTax(at, whose, of);
            case 6 -> askChain(at, a, b);
            case 7 -> check.due(at + " banks", x.banks(of), model.banks(of));
            case 8, 9 -> {
                int what = any(9);
                check.due(at + " step " + s + " " + what, x.step(s, what), model.step(s, what));
            }
            case 10 -> check.due(at + " moved", movedOf(whose, s), movedOfModel(whose, s));
            case 11 -> check.due(at + " doubt", x.doubt(s, of), model.doubt(s, of));
            default -> askRest(at, of);
        }
    }

    private void askTax(String at, int whose, int from) {
        int to = below(10) == 0 ? anyYear() : Math.min(200, Math.max(0, from) % 1000 + below(12));
        check.due(at + " tax", x.tax(whose, from, to), model.tax(whose, from, to));
    }

    private void askChain(String at, int a, int b) {
        if (below(8) != 0) {
            return;
        }
        check.due(at + " chain", x.chain(a, b), model.chain(a, b));
        for (int i = -1; i <= model.count(7); i++) {
            check.due(at + " row " + i, rowOf(i), rowOfModel(i));
        }
    }

    private void askRest(String at, int of) {
        if (below(3) == 0) {
            check.due(at + " weak", x.weak(of), model.weak(of));
        } else {
            int what = any(9);
            check.due(at + " count " + what, x.count(what), model.count(what));
        }
    }

    private int movedOf(int whose, int s) {
        try {
            return x.moved(whose, s);
        } catch (NoSuchElementException e) {
            return THROWN;
        }
    }

    private int movedOfModel(int whose, int s) {
        try {
            return model.moved(whose, s);
        } catch (NoSuchElementException e) {
            return THROWN;
        }
    }

    private int rowOf(int i) {
        try {
            return x.row(i);
        } catch (NoSuchElementException e) {
            return THROWN;
        }
    }

    private int rowOfModel(int i) {
        try {
            return model.row(i);
        } catch (NoSuchElementException e) {
            return THROWN;
        }
    }
}

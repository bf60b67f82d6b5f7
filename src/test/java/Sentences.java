import java.lang.reflect.InvocationTargetException;
import java.lang.reflect.Method;
import java.util.Arrays;
import java.util.Comparator;
import java.util.List;
import java.util.NoSuchElementException;
import java.util.function.Consumer;

/**
 * The tests of one promise. Each method with Says is a test of its own for the words that it quotes;
 * all of them are found and run, so that none can be forgotten.
 */
abstract class Sentences {
    static final int NONE = MovingBanks.NONE;
    static final int REFUSED = -2;
    static final int MIN = Integer.MIN_VALUE;
    static final int MAX = Integer.MAX_VALUE;
    private static final long THROWN = Long.MIN_VALUE;

    private String at = "";
    private int asked = 0;
    private int wrong = 0;

    final void run() {
        List<Method> tests = testsOf(getClass());
        for (Method test : tests) {
            at = getClass().getSimpleName() + "." + test.getName();
            int before = wrong;
            try {
                test.setAccessible(true);
                test.invoke(this);
            } catch (InvocationTargetException e) {
                wrong++;
                System.out.println(at + ": threw " + e.getCause());
            } catch (IllegalAccessException e) {
                throw new IllegalStateException(e);
            }
            if (wrong > before) {
                System.out.println("    the document: " + test.getAnnotation(Says.class).value());
            }
        }
        System.out.println(tests.size() + " tests, " + asked + " answers, " + wrong + " wrong");
        if (wrong != 0 || tests.isEmpty()) {
            System.exit(1);
        }
    }

    static List<Method> testsOf(Class<?> of) {
        return Arrays.stream(of.getDeclaredMethods()).filter(m -> m.isAnnotationPresent(Says.class))
                .sorted(Comparator.comparing(Method::getName)).toList();
    }

    // ---- what is due

    final void due(String what, long got, long want) {
        asked++;
        if (got != want) {
            wrong++;
            System.out.println(at + ": " + what + " answered " + got + ", due is " + want);
        }
    }

    final void due(String what, boolean got, boolean want) {
        due(what, got ? 1 : 0, want ? 1 : 0);
    }

    final void due(String what, String got, String want) {
        asked++;
        if (!got.equals(want)) {
            wrong++;
            System.out.println(at + ": " + what + " is\n" + got + "due is\n" + want);
        }
    }

    /** Owners of all cells of a year: one text a row, '-' for none. */
    final void ownersDue(MovingBanks x, int year, String... rows) {
        for (int y = 0; y < rows.length; y++) {
            for (int c = 0; c < rows[y].length(); c++) {
                char sign = rows[y].charAt(c);
                due("owner(" + c + ", " + y + ", " + year + ")", x.owner(c, y, year), sign == '-' ? NONE : sign - '0');
            }
        }
    }

    /** All cells of a year: one text a row, '~' for water. */
    final void waterDue(MovingBanks x, int year, String... rows) {
        for (int y = 0; y < rows.length; y++) {
            for (int c = 0; c < rows[y].length(); c++) {
                due("wet(" + c + ", " + y + ", " + year + ")", x.wet(c, y, year), rows[y].charAt(c) == '~' ? 1 : 0);
            }
        }
    }

    /** What 0, 1, .. of a step. */
    final void stepDue(MovingBanks x, int step, int... want) {
        for (int what = 0; what < want.length; what++) {
            due("step(" + step + ", " + what + ")", x.step(step, what), want[what]);
        }
    }

    final void countsDue(MovingBanks x, int... want) {
        for (int what = 0; what < want.length; what++) {
            due("count(" + what + ")", x.count(what), want[what]);
        }
    }

    final void rowDue(MovingBanks x, int... want) {
        due("count(7)", x.count(7), want.length);
        for (int i = 0; i < want.length; i++) {
            due("row(" + i + ")", rowOf(x, i), want[i]);
        }
        noRow(x, want.length);
    }

    final void noRow(MovingBanks x, int i) {
        due("row(" + i + ") throws NoSuchElementException", rowOf(x, i), THROWN);
    }

    final void noMoved(MovingBanks x, int owner, int step) {
        due("moved(" + owner + ", " + step + ") throws NoSuchElementException", movedOf(x, owner, step), THROWN);
    }

    /** The refused calls, told to one of two objects with the same story, leave it as the other one is. */
    final void changesNothing(Consumer<MovingBanks> refused) {
        MovingBanks x = ofAll();
        MovingBanks y = ofAll();
        refused.accept(x);
        due("the object behind the refused calls", stateOf(x), stateOf(y));
    }

    // ---- stories

    static MovingBanks land(int w, int h) {
        MovingBanks x = new MovingBanks();
        if (!x.land(w, h)) {
            throw new IllegalStateException("the test's own land was refused");
        }
        return x;
    }

    /** The next map, one text a row, '~' for water; rows that are not told stay as they are. */
    static void draw(MovingBanks x, int year, String... rows) {
        for (int y = 0; y < rows.length; y++) {
            int bits = 0;
            for (int c = 0; c < rows[y].length(); c++) {
                bits |= rows[y].charAt(c) == '~' ? 1 << c : 0;
            }
            x.water(y, bits);
        }
        if (x.map(year) < 0) {
            throw new IllegalStateException("the test's own map of " + year + " was refused");
        }
    }

    /** Something of everything: maps, owners, deeds, a struck one, laws, a judged step, a row, a next map begun. */
    static MovingBanks ofAll() {
        MovingBanks x = land(3, 2);
        x.own(0, 0, 1, 1, 4);
        x.own(2, 0, 2, 1, 5);
        draw(x, 10, ".~.", "...");
        x.deed(0, 0, 0, 1, 6, 12);
        x.deed(2, 0, 2, 1, 7, 12);
        x.strike(1, true);
        draw(x, 20, "..~", "...");
        x.law(15, 1, 0, 2);
        x.reach(3);
        x.judge(1, 1);
        x.chain(0, 0);
        x.water(1, 2);
        return x;
    }

    /** One lost cell of owner 6 beside water, slow by itself, in a year: by k its owner stays, by g it has none. */
    static MovingBanks oneLost(int year) {
        MovingBanks x = land(3, 1);
        x.own(0, 0, 2, 0, 6);
        draw(x, 0, "~..");
        draw(x, year, "~~.");
        return x;
    }

    /** All that can be asked: the last questions take the next map, to see how it stands. */
    static String stateOf(MovingBanks x) {
        StringBuilder s = new StringBuilder();
        for (int what = 0; what < 8; what++) {
            s.append(x.count(what)).append(' ');
        }
        s.append('\n');
        int numbers = x.count(7);
        for (int i = 0; i < numbers; i++) {
            s.append(rowOf(x, i)).append(' ');
        }
        s.append("weak ").append(x.weak(200)).append('\n');
        for (int m = 1; m < x.count(2); m++) {
            for (int what = 0; what < 8; what++) {
                s.append(x.step(m, what)).append(' ');
            }
            s.append('\n');
        }
        for (int y = 0; y < x.count(1); y++) {
            for (int c = 0; c < x.count(0); c++) {
                cellTo(s, x, c, y);
            }
        }
        s.append("next ").append(x.map(200)).append(' ');
        for (int y = 0; y < x.count(1); y++) {
            for (int c = 0; c < x.count(0); c++) {
                s.append(x.wet(c, y, 200));
            }
        }
        return s.append('\n').toString();
    }

    private static void cellTo(StringBuilder s, MovingBanks x, int c, int y) {
        s.append(x.owner(c, y, 0)).append(' ').append(x.wet(c, y, 0)).append(x.wet(c, y, 200));
        int owners = x.chain(c, y);
        for (int i = 0; i < 2 * owners; i++) {
            s.append(' ').append(rowOf(x, i));
        }
        s.append('\n');
    }

    private static long rowOf(MovingBanks x, int i) {
        try {
            return x.row(i);
        } catch (NoSuchElementException e) {
            return THROWN;
        }
    }

    static long movedOf(MovingBanks x, int owner, int step) {
        try {
            return x.moved(owner, step);
        } catch (NoSuchElementException e) {
            return THROWN;
        }
    }
}

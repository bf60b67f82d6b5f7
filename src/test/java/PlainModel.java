import java.util.ArrayList;
import java.util.HashMap;
import java.util.HashSet;
import java.util.List;
import java.util.Map;
import java.util.NoSuchElementException;
import java.util.Set;

/**
 * The document's words once more, as slow and as near to them as can be: each year from 0 on, each
 * set of cells made anew. Nothing here is shared with the class; the two are compared by ModelTest.
 */
final class PlainModel {
    record Cell(int x, int y) {
        int apart(Cell o) {
            return Math.max(Math.abs(x - o.x), Math.abs(y - o.y));
        }

        int sum(Cell o) {
            return Math.abs(x - o.x) + Math.abs(y - o.y);
        }

        boolean next(Cell o) {
            return sum(o) == 1;
        }
    }

    record Chart(int year, Set<Cell> water) {
    }

    record Law(int year, int slow, int sudden, int isle) {
    }

    static final class Deed {
        int x, y, x2, y2, owner, year;
        boolean struck;

        boolean holds(Cell c) {
            return c.x >= x && c.x <= x2 && c.y >= y && c.y <= y2;
        }
    }

    private int w = 1;
    private int h = 1;
    private int reach = 1;
    private Set<Cell> next = new HashSet<>();
    private final List<Chart> maps = new ArrayList<>();
    private final Map<Cell, Integer> first = new HashMap<>();
    private final List<Deed> deeds = new ArrayList<>();
    private final List<Law> laws = new ArrayList<>();
    private final Map<Integer, Integer> judged = new HashMap<>();
    private List<Integer> row = new ArrayList<>();

    private List<Cell> cells() {
        List<Cell> all = new ArrayList<>();
        for (int y = 0; y < h; y++) {
            for (int x = 0; x < w; x++) {
                all.add(new Cell(x, y));
            }
        }
        return all;
    }

    private boolean isCell(int x, int y) {
        return x >= 0 && y >= 0 && x < w && y < h;
    }

    private boolean isBox(int x, int y, int x2, int y2) {
        return isCell(x, y) && isCell(x2, y2) && x2 >= x && y2 >= y;
    }

    private static boolean isYear(int year) {
        return year >= 0 && year <= 200;
    }

    private boolean isStep(int step) {
        return step >= 1 && step <= maps.size() - 1;
    }

    boolean land(int w, int h) {
        if (w < 1 || h < 1 || w > 12 || h > 12) {
            return false;
        }
        this.w = w;
        this.h = h;
        next = new HashSet<>();
        maps.clear();
        first.clear();
        deeds.clear();
        judged.clear();
        return true;
    }

    int water(int y, int bits) {
        if (y < 0 || y >= h || maps.size() == 10) {
            return -1;
        }
        next.removeIf(c -> c.y() == y);
        int n = 0;
        for (int x = 0; x < w; x++) {
            if ((bits & (1 << x)) != 0) {
                next.add(new Cell(x, y));
                n++;
            }
        }
        return n;
    }

    int sheet(int y, int kind, int n, int f, int step) {
        if (y < 0 || y >= h || kind < 0 || kind > 2 || n > 20 || maps.size() == 10) {
            return -1;
        }
        if (kind == 2) {
            return 0;
        }
        if (n < 0) {
            return -2;
        }
        int told = 0;
        int entry = f;
        for (int i = 0; i < n && y + i < h; i++) {
            water(y + i, kind == 0 ? Byte.toUnsignedInt((byte) entry) : entry);
            entry += step;
            told++;
        }
        return told;
    }

    int map(int year) {
        if (!isYear(year) || maps.size() == 10) {
            return -1;
        }
        if (!maps.isEmpty() && maps.get(maps.size() - 1).year() >= year) {
            return -1;
        }
        maps.add(new Chart(year, new HashSet<>(next)));
        return maps.size() - 1;
    }

    boolean own(int x, int y, int x2, int y2, int owner) {
        if (!isBox(x, y, x2, y2) || owner < -1 || owner > 9 || maps.size() > 1) {
            return false;
        }
        for (Cell c : cells()) {
            if (c.x() >= x && c.x() <= x2 && c.y() >= y && c.y() <= y2) {
                first.put(c, owner);
            }
        }
        return true;
    }

    int deed(int x, int y, int x2, int y2, int owner, int year) {
        if (!isBox(x, y, x2, y2) || owner < 0 || owner > 9 || !isYear(year) || deeds.size() == 30) {
            return -1;
        }
        Deed d = new Deed();
        d.x = x;
        d.y = y;
        d.x2 = x2;
        d.y2 = y2;
        d.owner = owner;
        d.year = year;
        deeds.add(d);
        return deeds.size() - 1;
    }

    boolean strike(int deed, boolean is) {
        if (deed < 0 || deed >= deeds.size()) {
            return false;
        }
        deeds.get(deed).struck = is;
        return true;
    }

    int law(int year, int slow, int sudden, int isle) {
        if (!isYear(year) || slow < 0 || slow > 1 || sudden < 0 || sudden > 1 || isle < 0 || isle > 2
                || laws.size() == 20) {
            return -1;
        }
        laws.add(new Law(year, slow, sudden, isle));
        return laws.size();
    }

    int reach(int v) {
        if (v < 1 || v > 12) {
            return -1;
        }
        int was = reach;
        reach = v;
        return was;
    }

    boolean judge(int step, int how) {
        if (!isStep(step) || how < -1 || how > 1) {
            return false;
        }
        if (how == -1) {
            judged.remove(step);
        } else {
            judged.put(step, how);
        }
        return true;
    }

    int count(int what) {
        return switch (what) {
            case 0 -> w;
            case 1 -> h;
            case 2 -> maps.size();
            case 3 -> deeds.size();
            case 4 -> (int) deeds.stream().filter(d -> !d.struck).count();
            case 5 -> laws.size();
            case 6 -> reach;
            case 7 -> row.size();
            default -> -1;
        };
    }

    // ---- what a step is

    private Set<Cell> lost(int m) {
        Set<Cell> s = new HashSet<>(maps.get(m).water());
        s.removeAll(maps.get(m - 1).water());
        return s;
    }

    private Set<Cell> gained(int m) {
        Set<Cell> s = new HashSet<>(maps.get(m - 1).water());
        s.removeAll(maps.get(m).water());
        return s;
    }

    /** Row by row. */
    private List<Cell> fast(int m) {
        List<Cell> all = cells();
        all.removeAll(maps.get(m - 1).water());
        all.removeAll(maps.get(m).water());
        return all;
    }

    private int far(int m) {
        int far = 0;
        for (Cell c : gained(m)) {
            far = Math.max(far, fast(m).stream().mapToInt(c::apart).min().orElse(13));
        }
        for (Cell c : lost(m)) {
            far = Math.max(far, maps.get(m - 1).water().stream().mapToInt(c::apart).min().orElse(13));
        }
        return far;
    }

    private boolean sudden(int m) {
        Integer told = judged.get(m);
        return told != null ? told == 1 : far(m) > reach;
    }

    /** Parts by joining sets until no two are next any more. */
    private static List<Set<Cell>> parts(Set<Cell> of) {
        List<Set<Cell>> parts = new ArrayList<>();
        for (Cell c : of) {
            Set<Cell> joined = new HashSet<>();
            joined.add(c);
            List<Set<Cell>> others = new ArrayList<>();
            for (Set<Cell> p : parts) {
                if (p.stream().anyMatch(c::next)) {
                    joined.addAll(p);
                } else {
                    others.add(p);
                }
            }
            others.add(joined);
            parts = others;
        }
        return parts;
    }

    private boolean isShore(Set<Cell> part, int m) {
        return fast(m).stream().anyMatch(f -> part.stream().anyMatch(f::next));
    }

    private Law lawIn(int year) {
        Law best = new Law(-1, 1, 0, 0);
        for (Law l : laws) {
            if (l.year() <= year && l.year() >= best.year()) {
                best = l;
            }
        }
        return best;
    }

    private Map<Cell, Integer> behindStep(Map<Cell, Integer> ahead, int m, boolean isSudden) {
        Law l = lawIn(maps.get(m).year());
        Map<Cell, Integer> behind = new HashMap<>(ahead);
        if ((isSudden ? l.sudden() : l.slow()) == 0) {
            return behind;
        }
        for (Cell c : lost(m)) {
            behind.put(c, -1);
        }
        for (Set<Cell> part : parts(gained(m))) {
            if (isShore(part, m)) {
                for (Cell c : part) {
                    behind.put(c, ownerOfNearest(ahead, m, Set.of(c)));
                }
            } else if (l.isle() != 2) {
                int to = l.isle() == 1 ? -1 : ownerOfNearest(ahead, m, part);
                for (Cell c : part) {
                    behind.put(c, to);
                }
            }
        }
        return behind;
    }

    private int ownerOfNearest(Map<Cell, Integer> ahead, int m, Set<Cell> to) {
        Cell best = null;
        int least = 1000;
        for (Cell f : fast(m)) {
            int d = to.stream().mapToInt(f::sum).min().orElse(1000);
            if (d < least) {
                least = d;
                best = f;
            }
        }
        return best == null ? -1 : ahead.get(best);
    }

    private Chart chartIn(int year) {
        Chart c = maps.get(0);
        for (Chart m : maps) {
            if (m.year() <= year) {
                c = m;
            }
        }
        return c;
    }

    /** All years' ends, as far as asked; a step of the last year alone if deedsToo is not. */
    private Map<Cell, Integer> ownersIn(int year, int turned, boolean deedsToo) {
        Map<Cell, Integer> now = new HashMap<>();
        for (Cell c : cells()) {
            now.put(c, first.getOrDefault(c, -1));
        }
        for (int y = 0; y <= year; y++) {
            for (int m = 1; m < maps.size(); m++) {
                if (maps.get(m).year() == y) {
                    now = behindStep(now, m, sudden(m) ^ (m == turned));
                }
            }
            if (y < year || deedsToo) {
                for (Deed d : deeds) {
                    for (Cell c : cells()) {
                        boolean dry = !chartIn(y).water().contains(c);
                        if (d.year == y && !d.struck && d.holds(c) && dry && now.get(c) != -1) {
                            now.put(c, d.owner);
                        }
                    }
                }
            }
        }
        return now;
    }

    private static int differing(Map<Cell, Integer> a, Map<Cell, Integer> b) {
        int n = 0;
        for (Cell c : a.keySet()) {
            n += a.get(c).intValue() == b.get(c).intValue() ? 0 : 1;
        }
        return n;
    }

    private int dryOf(Map<Cell, Integer> owners, int owner, Set<Cell> water) {
        int n = 0;
        for (Cell c : cells()) {
            n += !water.contains(c) && owners.get(c) == owner ? 1 : 0;
        }
        return n;
    }

    // ---- whose it is

    int wet(int x, int y, int year) {
        if (!isCell(x, y) || !isYear(year) || maps.isEmpty()) {
            return -1;
        }
        return chartIn(year).water().contains(new Cell(x, y)) ? 1 : 0;
    }

    int owner(int x, int y, int year) {
        if (!isCell(x, y) || !isYear(year) || maps.isEmpty()) {
            return -2;
        }
        return ownersIn(year, -1, true).get(new Cell(x, y));
    }

    int area(int owner, int year) {
        if (owner < -1 || owner > 9 || !isYear(year) || maps.isEmpty()) {
            return -2;
        }
        return dryOf(ownersIn(year, -1, true), owner, chartIn(year).water());
    }

    int front(int owner, int year) {
        if (owner < -1 || owner > 9 || !isYear(year) || maps.isEmpty()) {
            return -2;
        }
        Set<Cell> water = chartIn(year).water();
        Map<Cell, Integer> owners = ownersIn(year, -1, true);
        return (int) cells().stream().filter(c -> !water.contains(c) && owners.get(c) == owner
                && water.stream().anyMatch(c::next)).count();
    }

    int tax(int owner, int from, int to) {
        if (!isYear(from) || !isYear(to) || from > to || area(owner, from) == -2) {
            return -2;
        }
        int sum = 0;
        for (int y = from; y <= to; y++) {
            sum += area(owner, y);
        }
        return sum;
    }

    int chain(int x, int y) {
        if (!isCell(x, y) || maps.isEmpty()) {
            return -1;
        }
        row = new ArrayList<>();
        for (int year = maps.get(0).year(); year <= 200; year++) {
            int owner = owner(x, y, year);
            if (row.isEmpty() || row.get(row.size() - 2) != owner) {
                row.add(owner);
                row.add(year);
            }
        }
        return row.size() / 2;
    }

    int banks(int year) {
        if (!isYear(year) || maps.isEmpty()) {
            return -1;
        }
        Set<Cell> dry = new HashSet<>(cells());
        dry.removeAll(chartIn(year).water());
        return parts(dry).size();
    }

    // ---- steps

    int step(int step, int what) {
        if (!isStep(step)) {
            return -1;
        }
        int year = maps.get(step).year();
        return switch (what) {
            case 0 -> year;
            case 1 -> lost(step).size();
            case 2 -> gained(step).size();
            case 3 -> far(step);
            case 4 -> sudden(step) ? 1 : 0;
            case 5 -> parts(gained(step)).size();
            case 6 -> (int) parts(gained(step)).stream().filter(p -> !isShore(p, step)).count();
            case 7 -> differing(ownersIn(year - 1, -1, true), ownersIn(year, -1, false));
            default -> -1;
        };
    }

    int moved(int owner, int step) {
        if (owner < 0 || owner > 9 || !isStep(step)) {
            throw new NoSuchElementException();
        }
        int year = maps.get(step).year();
        return dryOf(ownersIn(year, -1, false), owner, maps.get(step).water())
                - dryOf(ownersIn(year - 1, -1, true), owner, maps.get(step - 1).water());
    }

    int doubt(int step, int year) {
        if (!isStep(step) || !isYear(year)) {
            return -1;
        }
        return differing(ownersIn(year, -1, true), ownersIn(year, step, true));
    }

    int weak(int year) {
        if (!isYear(year)) {
            return -1;
        }
        int best = -1;
        for (int m = maps.size() - 1; m >= 1; m--) {
            if (!judged.containsKey(m) && (best == -1 || doubt(m, year) >= doubt(best, year))) {
                best = m;
            }
        }
        return best;
    }

    int row(int i) {
        if (i < 0 || i >= row.size()) {
            throw new NoSuchElementException();
        }
        return row.get(i);
    }
}

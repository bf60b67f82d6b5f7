import java.util.Arrays;
import java.util.NoSuchElementException;

/**
 * A river on maps of many years, and whose each cell is in each year.
 *
 * Only what was told is kept (maps, first owners, deeds, laws, judgements); every question about
 * owners is answered by a replay from the first owners on, so that a later word on an earlier year
 * counts at once.
 */
public final class MovingBanks {
    public static final int NONE = -1;

    /** The refusal of those calls whose NONE is an answer. */
    private static final int REFUSED = -2;

    private static final int MOST_SIDE = 12;
    private static final int MOST_CELLS = MOST_SIDE * MOST_SIDE;
    private static final int MOST_MAPS = 10;
    private static final int MOST_DEEDS = 30;
    private static final int MOST_LAWS = 20;
    private static final int MOST_ENTRIES = 20;
    private static final int MOST_REACH = 12;
    private static final int LAST_YEAR = 200;
    private static final int LAST_OWNER = 9;
    private static final int SIDES_OF_A_CELL = 4;
    private static final int FAR_FROM_ALL = 13;

    private static final int BYTE_SHEET = 0;
    private static final int MISSING_SHEET = 2;

    private static final int BY_K = 0;
    private static final int BY_G = 1;
    private static final int ISLE_TO_NEAREST = 0;
    private static final int ISLE_TO_NONE = 1;
    private static final int ISLE_KEPT = 2;

    private static final int JUDGED_SUDDEN = 1;

    // What a cell is by a step; in this order all that are dry behind it come last.
    private static final int STILL_WATER = 0;
    private static final int LOST = 1;
    private static final int NEW_SHORE = 2;
    private static final int NEW_ISLE = 3;
    private static final int FAST = 4;

    private final Ground ground;
    private final Survey survey;
    private final Atlas atlas;
    private final Deeds deeds;
    private final Laws laws;
    private final Replay replay;
    private final int[] rowNumbers;
    private int rowLength;

    public MovingBanks() {
        ground = new Ground();
        survey = new Survey(ground);
        atlas = new Atlas(ground, survey);
        deeds = new Deeds();
        laws = new Laws();
        replay = new Replay(ground, atlas, deeds, laws);
        // An owner changes by a step or a deed alone, and each tells an owner and a year at most.
        rowNumbers = new int[2 * (MOST_MAPS + MOST_DEEDS)];
        rowLength = 0;
    }

    // ---- the land

    public boolean land(int w, int h) {
        if (w < 1 || w > MOST_SIDE || h < 1 || h > MOST_SIDE) {
            return false;
        }
        ground.lay(w, h);
        atlas.clear();
        deeds.clear();
        replay.forgetFirst();
        return true;
    }

    public int water(int y, int bits) {
        if (!ground.hasLine(y) || atlas.isFull()) {
            return NONE;
        }
        return atlas.draftLine(y, bits);
    }

    public int sheet(int y, int kind, int n, int f, int step) {
        boolean isKind = kind >= BYTE_SHEET && kind <= MISSING_SHEET;
        if (!ground.hasLine(y) || !isKind || n > MOST_ENTRIES || atlas.isFull()) {
            return NONE;
        }
        if (kind == MISSING_SHEET) {
            return 0;
        }
        if (n < 0) {
            return REFUSED;
        }
        int lines = Math.min(n, ground.high - y);
        for (int i = 0; i < lines; i++) {
            int entry = f + i * step;
            atlas.draftLine(y + i, kind == BYTE_SHEET ? entry & 255 : entry);
        }
        return lines;
    }

    public int map(int year) {
        if (!isYear(year) || atlas.isFull() || year <= atlas.latestYear()) {
            return NONE;
        }
        return atlas.add(year);
    }

    public boolean own(int x, int y, int x2, int y2, int owner) {
        if (!ground.hasBox(x, y, x2, y2) || !isOwnerOrNone(owner) || atlas.maps > 1) {
            return false;
        }
        replay.setFirst(x, y, x2, y2, owner);
        return true;
    }

    public int deed(int x, int y, int x2, int y2, int owner, int year) {
        if (!ground.hasBox(x, y, x2, y2) || !isOwner(owner) || !isYear(year) || deeds.isFull()) {
            return NONE;
        }
        return deeds.add(x, y, x2, y2, owner, year);
    }

    public boolean strike(int deed, boolean is) {
        if (!deeds.has(deed)) {
            return false;
        }
        deeds.struck[deed] = is;
        return true;
    }

    public int law(int year, int slow, int sudden, int isle) {
        boolean areLaws = isBetween(slow, BY_K, BY_G) && isBetween(sudden, BY_K, BY_G)
                && isBetween(isle, ISLE_TO_NEAREST, ISLE_KEPT);
        if (!isYear(year) || !areLaws || laws.isFull()) {
            return NONE;
        }
        return laws.add(year, slow, sudden, isle);
    }

    public int reach(int v) {
        if (!isBetween(v, 1, MOST_REACH)) {
            return NONE;
        }
        int was = atlas.slowUpTo;
        atlas.slowUpTo = v;
        return was;
    }

    public boolean judge(int step, int how) {
        if (!atlas.hasStep(step) || !isBetween(how, NONE, JUDGED_SUDDEN)) {
            return false;
        }
        atlas.leaves[step].judged = how;
        return true;
    }

    public int count(int what) {
        switch (what) {
            case 0: return ground.wide;
            case 1: return ground.high;
            case 2: return atlas.maps;
            case 3: return deeds.size;
            case 4: return deeds.notStruck();
            case 5: return laws.told;
            case 6: return atlas.slowUpTo;
            case 7: return rowLength;
            default: return NONE;
        }
    }

    // ---- whose it is

    public int wet(int x, int y, int year) {
        if (!ground.has(x, y) || !isYear(year) || atlas.isEmpty()) {
            return NONE;
        }
        return atlas.leafIn(year).isDry(ground.cellAt(x, y)) ? 0 : 1;
    }

    public int owner(int x, int y, int year) {
        if (!ground.has(x, y) || !isYear(year) || atlas.isEmpty()) {
            return REFUSED;
        }
        replay.runFromFirst(year, NONE);
        return replay.owners[ground.cellAt(x, y)];
    }

    public int area(int owner, int year) {
        return tax(owner, year, year);
    }

    public int front(int owner, int year) {
        if (!isOwnerOrNone(owner) || !isYear(year) || atlas.isEmpty()) {
            return REFUSED;
        }
        replay.runFromFirst(year, NONE);
        return replay.dryByWaterOf(owner);
    }

    public int tax(int owner, int from, int to) {
        if (!isOwnerOrNone(owner) || !isYear(from) || !isYear(to) || from > to || atlas.isEmpty()) {
            return REFUSED;
        }
        replay.runFromFirst(from, NONE);
        int cells = replay.dryOf(owner);
        int sum = cells;
        for (int year = from + 1; year <= to; year++) {
            if (replay.runTo(year)) {
                cells = replay.dryOf(owner);
            }
            sum += cells;
        }
        return sum;
    }

    public int chain(int x, int y) {
        if (!ground.has(x, y) || atlas.isEmpty()) {
            return NONE;
        }
        int cell = ground.cellAt(x, y);
        int start = atlas.leaves[0].year;
        replay.runFromFirst(start, NONE);
        int last = replay.owners[cell];
        rowLength = 0;
        tell(last, start);
        for (int year = start + 1; year <= LAST_YEAR; year++) {
            replay.runTo(year);
            if (replay.owners[cell] != last) {
                last = replay.owners[cell];
                tell(last, year);
            }
        }
        return rowLength / 2;
    }

    public int banks(int year) {
        if (!isYear(year) || atlas.isEmpty()) {
            return NONE;
        }
        return survey.dryParts(atlas.leafIn(year));
    }

    // ---- steps

    public int step(int step, int what) {
        if (!atlas.hasStep(step)) {
            return NONE;
        }
        Leaf leaf = atlas.leaves[step];
        switch (what) {
            case 0: return leaf.year;
            case 1: return leaf.lostCells;
            case 2: return leaf.newCells;
            case 3: return leaf.far;
            case 4: return atlas.isSudden(step) ? 1 : 0;
            case 5: return leaf.parts;
            case 6: return leaf.isles;
            case 7: return replay.changedBy(step);
            default: return NONE;
        }
    }

    public int moved(int owner, int step) throws NoSuchElementException {
        if (!isOwner(owner) || !atlas.hasStep(step)) {
            throw new NoSuchElementException("no such owner or step");
        }
        return replay.wonBy(owner, step);
    }

    public int doubt(int step, int year) {
        if (!atlas.hasStep(step) || !isYear(year)) {
            return NONE;
        }
        replay.runFromFirst(year, NONE);
        replay.keep();
        return replay.changedByDoubt(step, year);
    }

    public int weak(int year) {
        if (!isYear(year) || atlas.isEmpty()) {
            return NONE;
        }
        replay.runFromFirst(year, NONE);
        replay.keep();
        int weakest = NONE;
        int most = NONE;
        for (int step = 1; step < atlas.maps; step++) {
            if (atlas.leaves[step].judged == NONE) {
                int changed = replay.changedByDoubt(step, year);
                if (changed > most) {
                    most = changed;
                    weakest = step;
                }
            }
        }
        return weakest;
    }

    public int row(int i) throws NoSuchElementException {
        if (i < 0 || i >= rowLength) {
            throw new NoSuchElementException("no such number of the row");
        }
        return rowNumbers[i];
    }

    private void tell(int owner, int year) {
        if (rowLength + 2 <= rowNumbers.length) {
            rowNumbers[rowLength] = owner;
            rowNumbers[rowLength + 1] = year;
            rowLength += 2;
        }
    }

    private static boolean isBetween(int v, int least, int most) {
        return v >= least && v <= most;
    }

    private static boolean isYear(int year) {
        return isBetween(year, 0, LAST_YEAR);
    }

    private static boolean isOwner(int owner) {
        return isBetween(owner, 0, LAST_OWNER);
    }

    private static boolean isOwnerOrNone(int owner) {
        return owner == NONE || isOwner(owner);
    }

    /** The cells and how they lie. A cell's number counts row by row, so "the first" is the least. */
    private static final class Ground {
        int wide = 1;
        int high = 1;
        int cells = 1;
        // Kept for each cell, so that nothing has to be divided by the width.
        final int[] columns = new int[MOST_CELLS];
        final int[] lines = new int[MOST_CELLS];

        void lay(int w, int h) {
            wide = w;
            high = h;
            cells = w * h;
            for (int y = 0; y < h; y++) {
                for (int x = 0; x < w; x++) {
                    columns[y * w + x] = x;
                    lines[y * w + x] = y;
                }
            }
        }

        boolean hasLine(int y) {
            return y >= 0 && y < high;
        }

        boolean has(int x, int y) {
            return x >= 0 && x < wide && hasLine(y);
        }

        boolean hasBox(int x, int y, int x2, int y2) {
            return has(x, y) && has(x2, y2) && x <= x2 && y <= y2;
        }

        int cellAt(int x, int y) {
            return y * wide + x;
        }

        /** The cell next to another one on a side (0 .. 3), or NONE at the edge of the land. */
        int beside(int cell, int side) {
            switch (side) {
                case 0: return lines[cell] > 0 ? cell - wide : NONE;
                case 1: return columns[cell] > 0 ? cell - 1 : NONE;
                case 2: return columns[cell] < wide - 1 ? cell + 1 : NONE;
                default: return lines[cell] < high - 1 ? cell + wide : NONE;
            }
        }

        int apart(int a, int b) {
            return Math.max(Math.abs(columns[a] - columns[b]), Math.abs(lines[a] - lines[b]));
        }

        int walk(int a, int b) {
            return Math.abs(columns[a] - columns[b]) + Math.abs(lines[a] - lines[b]);
        }
    }

    /** One map, with the step that leads to it (map 0: a step that moved nothing). */
    private static final class Leaf {
        int year;
        int lostCells;
        int newCells;
        int far;
        int parts;
        int isles;
        int judged = NONE;
        final int[] kinds = new int[MOST_CELLS];
        // For new cells: the fast cell whose owner they get, if the laws want it so.
        final int[] heirOf = new int[MOST_CELLS];

        boolean isDry(int cell) {
            return kinds[cell] >= NEW_SHORE;
        }

        boolean isNew(int cell) {
            return kinds[cell] == NEW_SHORE || kinds[cell] == NEW_ISLE;
        }

        boolean wasWater(int cell) {
            return kinds[cell] == STILL_WATER || isNew(cell);
        }
    }

    /** Finds what hangs on the maps alone, once for each map: how far a step went, and its parts. */
    private static final class Survey {
        final Ground ground;
        final boolean[] open = new boolean[MOST_CELLS];
        final int[] part = new int[MOST_CELLS];
        int partSize;

        Survey(Ground itsGround) {
            ground = itsGround;
        }

        void measure(Leaf leaf) {
            leaf.lostCells = 0;
            leaf.newCells = 0;
            leaf.far = 0;
            for (int cell = 0; cell < ground.cells; cell++) {
                if (leaf.isNew(cell)) {
                    leaf.newCells++;
                    leaf.far = Math.max(leaf.far, apartFromFast(leaf, cell));
                } else if (leaf.kinds[cell] == LOST) {
                    leaf.lostCells++;
                    leaf.far = Math.max(leaf.far, apartFromOldWater(leaf, cell));
                }
            }
        }

        int dryParts(Leaf leaf) {
            for (int cell = 0; cell < ground.cells; cell++) {
                open[cell] = leaf.isDry(cell);
            }
            int parts = 0;
            for (int cell = 0; cell < ground.cells; cell++) {
                if (open[cell]) {
                    gather(cell);
                    parts++;
                }
            }
            return parts;
        }

        private int apartFromFast(Leaf leaf, int cell) {
            int least = FAR_FROM_ALL;
            for (int other = 0; other < ground.cells; other++) {
                if (leaf.kinds[other] == FAST) {
                    least = Math.min(least, ground.apart(cell, other));
                }
            }
            return least;
        }

        private int apartFromOldWater(Leaf leaf, int cell) {
            int least = FAR_FROM_ALL;
            for (int other = 0; other < ground.cells; other++) {
                if (leaf.wasWater(other)) {
                    least = Math.min(least, ground.apart(cell, other));
                }
            }
            return least;
        }

        void sortParts(Leaf leaf) {
            leaf.parts = 0;
            leaf.isles = 0;
            for (int cell = 0; cell < ground.cells; cell++) {
                open[cell] = leaf.isNew(cell);
            }
            for (int cell = 0; cell < ground.cells; cell++) {
                if (open[cell]) {
                    gather(cell);
                    leaf.parts++;
                    if (partIsByFast(leaf)) {
                        settleShore(leaf);
                    } else {
                        leaf.isles++;
                        settleIsle(leaf);
                    }
                }
            }
        }

        /** Takes all open cells that hang together with a first one out, into the part. */
        private void gather(int first) {
            open[first] = false;
            part[0] = first;
            partSize = 1;
            for (int i = 0; i < partSize && i < MOST_CELLS; i++) {
                for (int side = 0; side < SIDES_OF_A_CELL; side++) {
                    int cell = ground.beside(part[i], side);
                    if (cell != NONE && open[cell] && partSize < MOST_CELLS) {
                        open[cell] = false;
                        part[partSize] = cell;
                        partSize++;
                    }
                }
            }
        }

        private boolean partIsByFast(Leaf leaf) {
            for (int i = 0; i < partSize; i++) {
                for (int side = 0; side < SIDES_OF_A_CELL; side++) {
                    int cell = ground.beside(part[i], side);
                    if (cell != NONE && leaf.kinds[cell] == FAST) {
                        return true;
                    }
                }
            }
            return false;
        }

        private void settleShore(Leaf leaf) {
            for (int i = 0; i < partSize; i++) {
                leaf.kinds[part[i]] = NEW_SHORE;
                leaf.heirOf[part[i]] = fastNearestTo(leaf, i, i + 1);
            }
        }

        private void settleIsle(Leaf leaf) {
            int heir = fastNearestTo(leaf, 0, partSize);
            for (int i = 0; i < partSize; i++) {
                leaf.kinds[part[i]] = NEW_ISLE;
                leaf.heirOf[part[i]] = heir;
            }
        }

        /** The fast cell nearest to any of the part's cells from one place to ahead of another. */
        private int fastNearestTo(Leaf leaf, int from, int to) {
            int nearest = NONE;
            int least = 2 * MOST_SIDE;
            for (int cell = 0; cell < ground.cells; cell++) {
                if (leaf.kinds[cell] == FAST) {
                    for (int i = from; i < to; i++) {
                        int walk = ground.walk(cell, part[i]);
                        if (walk < least) {
                            least = walk;
                            nearest = cell;
                        }
                    }
                }
            }
            return nearest;
        }
    }

    /** The maps in order of their years, the draft of the next one, and what is said of steps. */
    private static final class Atlas {
        final Ground ground;
        final Survey survey;
        final Leaf[] leaves = new Leaf[MOST_MAPS];
        final boolean[] draft = new boolean[MOST_CELLS];
        int maps;
        int slowUpTo = 1;

        Atlas(Ground itsGround, Survey itsSurvey) {
            ground = itsGround;
            survey = itsSurvey;
            for (int m = 0; m < MOST_MAPS; m++) {
                leaves[m] = new Leaf();
            }
        }

        void clear() {
            maps = 0;
            for (int cell = 0; cell < MOST_CELLS; cell++) {
                draft[cell] = false;
            }
        }

        boolean isEmpty() {
            return maps == 0;
        }

        boolean isFull() {
            return maps >= MOST_MAPS;
        }

        boolean hasStep(int step) {
            return step >= 1 && step < maps;
        }

        int latestYear() {
            return maps == 0 ? NONE : leaves[maps - 1].year;
        }

        int draftLine(int y, int bits) {
            int wet = 0;
            for (int x = 0; x < ground.wide; x++) {
                boolean is = ((bits >> x) & 1) == 1;
                draft[ground.cellAt(x, y)] = is;
                wet += is ? 1 : 0;
            }
            return wet;
        }

        /** The draft becomes a map, and stays as it is: so the next one begins as this one. */
        int add(int year) {
            int number = maps;
            Leaf leaf = leaves[number];
            leaf.year = year;
            leaf.judged = NONE;
            for (int cell = 0; cell < ground.cells; cell++) {
                boolean was = number == 0 ? draft[cell] : !leaves[number - 1].isDry(cell);
                leaf.kinds[cell] = kindBetween(was, draft[cell]);
            }
            survey.measure(leaf);
            survey.sortParts(leaf);
            maps++;
            return number;
        }

        Leaf leafIn(int year) {
            int latest = 0;
            for (int m = 1; m < maps; m++) {
                if (leaves[m].year <= year) {
                    latest = m;
                }
            }
            return leaves[latest];
        }

        boolean isSudden(int step) {
            Leaf leaf = leaves[step];
            return leaf.judged == NONE ? leaf.far > slowUpTo : leaf.judged == JUDGED_SUDDEN;
        }

        private static int kindBetween(boolean wasWater, boolean isWater) {
            if (isWater) {
                return wasWater ? STILL_WATER : LOST;
            }
            // Which new ones are shore is found by the survey, when all kinds are known.
            return wasWater ? NEW_ISLE : FAST;
        }
    }

    /** The deeds by their numbers, and the order in which they come: by years, then by numbers. */
    private static final class Deeds {
        int size;
        final int[] left = new int[MOST_DEEDS];
        final int[] top = new int[MOST_DEEDS];
        final int[] right = new int[MOST_DEEDS];
        final int[] bottom = new int[MOST_DEEDS];
        final int[] givenTo = new int[MOST_DEEDS];
        final int[] years = new int[MOST_DEEDS];
        final boolean[] struck = new boolean[MOST_DEEDS];
        final int[] order = new int[MOST_DEEDS];

        void clear() {
            size = 0;
        }

        boolean isFull() {
            return size >= MOST_DEEDS;
        }

        boolean has(int number) {
            return number >= 0 && number < size;
        }

        int add(int x, int y, int x2, int y2, int to, int year) {
            int number = size;
            left[number] = x;
            top[number] = y;
            right[number] = x2;
            bottom[number] = y2;
            givenTo[number] = to;
            years[number] = year;
            struck[number] = false;
            int place = number;
            while (place > 0 && years[order[place - 1]] > year) {
                order[place] = order[place - 1];
                place--;
            }
            order[place] = number;
            size++;
            return number;
        }

        int notStruck() {
            int standing = 0;
            for (int d = 0; d < size; d++) {
                standing += struck[d] ? 0 : 1;
            }
            return standing;
        }
    }

    /** The laws told; place 0 has those that hold at first, as from a year ahead of all. */
    private static final class Laws {
        int told;
        final int[] years = new int[MOST_LAWS + 1];
        final int[] forSlow = new int[MOST_LAWS + 1];
        final int[] forSudden = new int[MOST_LAWS + 1];
        final int[] forIsles = new int[MOST_LAWS + 1];

        Laws() {
            years[0] = NONE;
            forSlow[0] = BY_G;
            forSudden[0] = BY_K;
            forIsles[0] = ISLE_TO_NEAREST;
        }

        boolean isFull() {
            return told >= MOST_LAWS;
        }

        int add(int year, int slow, int sudden, int isles) {
            told++;
            years[told] = year;
            forSlow[told] = slow;
            forSudden[told] = sudden;
            forIsles[told] = isles;
            return told;
        }

        int placeFor(int year) {
            int place = 0;
            for (int i = 1; i <= told; i++) {
                if (years[i] <= year && years[i] >= years[place]) {
                    place = i;
                }
            }
            return place;
        }
    }

    /** Runs steps and deeds in the order of years over the first owners. */
    private static final class Replay {
        final Ground ground;
        final Atlas atlas;
        final Deeds deeds;
        final Laws laws;
        final int[] firstOwners = new int[MOST_CELLS];
        final int[] owners = new int[MOST_CELLS];
        final int[] keptOwners = new int[MOST_CELLS];
        int mapNow;
        int deedsDone;
        int turnedStep;

        Replay(Ground itsGround, Atlas itsAtlas, Deeds itsDeeds, Laws itsLaws) {
            ground = itsGround;
            atlas = itsAtlas;
            deeds = itsDeeds;
            laws = itsLaws;
            Arrays.fill(firstOwners, NONE);
        }

        void forgetFirst() {
            Arrays.fill(firstOwners, NONE);
        }

        void setFirst(int x, int y, int x2, int y2, int to) {
            for (int line = y; line <= y2; line++) {
                for (int column = x; column <= x2; column++) {
                    firstOwners[ground.cellAt(column, line)] = to;
                }
            }
        }

        /** Runs anew up to a year's end; the turned step is sudden where it is slow, or the other way round. */
        void runFromFirst(int year, int turned) {
            System.arraycopy(firstOwners, 0, owners, 0, MOST_CELLS);
            mapNow = 0;
            deedsDone = 0;
            turnedStep = turned;
            runTo(year);
        }

        /** Runs on up to a year's end: whether there was a step or a deed on the way. */
        boolean runTo(int year) {
            boolean any = false;
            for (int i = 0; i < MOST_MAPS + MOST_DEEDS; i++) {
                int stepYear = nextStepYear();
                int deedYear = nextDeedYear();
                if (Math.min(stepYear, deedYear) > year) {
                    return any;
                }
                any = true;
                if (stepYear <= deedYear) {
                    takeStep();
                } else {
                    takeDeed();
                }
            }
            return any;
        }

        private int nextStepYear() {
            return mapNow + 1 < atlas.maps ? atlas.leaves[mapNow + 1].year : LAST_YEAR + 1;
        }

        private int nextDeedYear() {
            return deedsDone < deeds.size ? deeds.years[deeds.order[deedsDone]] : LAST_YEAR + 1;
        }

        private void takeStep() {
            mapNow++;
            Leaf leaf = atlas.leaves[mapNow];
            int place = laws.placeFor(leaf.year);
            boolean isSudden = atlas.isSudden(mapNow) != (mapNow == turnedStep);
            int lawNow = isSudden ? laws.forSudden[place] : laws.forSlow[place];
            if (lawNow == BY_G) {
                shiftOwners(leaf, laws.forIsles[place]);
            }
        }

        /** Owners of fast cells stay, so the cells can be gone through in any order. */
        private void shiftOwners(Leaf leaf, int isleLaw) {
            for (int cell = 0; cell < ground.cells; cell++) {
                int kind = leaf.kinds[cell];
                if (kind == LOST || (kind == NEW_ISLE && isleLaw == ISLE_TO_NONE)) {
                    owners[cell] = NONE;
                } else if (kind == NEW_SHORE || (kind == NEW_ISLE && isleLaw == ISLE_TO_NEAREST)) {
                    int heir = leaf.heirOf[cell];
                    owners[cell] = heir == NONE ? NONE : owners[heir];
                }
            }
        }

        private void takeDeed() {
            int d = deeds.order[deedsDone];
            deedsDone++;
            if (deeds.struck[d]) {
                return;
            }
            Leaf leaf = atlas.leaves[mapNow];
            for (int y = deeds.top[d]; y <= deeds.bottom[d]; y++) {
                for (int x = deeds.left[d]; x <= deeds.right[d]; x++) {
                    int cell = ground.cellAt(x, y);
                    if (leaf.isDry(cell) && owners[cell] != NONE) {
                        owners[cell] = deeds.givenTo[d];
                    }
                }
            }
        }

        int dryOf(int whose) {
            Leaf leaf = atlas.leaves[mapNow];
            int cells = 0;
            for (int cell = 0; cell < ground.cells; cell++) {
                if (leaf.isDry(cell) && owners[cell] == whose) {
                    cells++;
                }
            }
            return cells;
        }

        int dryByWaterOf(int whose) {
            Leaf leaf = atlas.leaves[mapNow];
            int cells = 0;
            for (int cell = 0; cell < ground.cells; cell++) {
                if (leaf.isDry(cell) && owners[cell] == whose && isByWater(leaf, cell)) {
                    cells++;
                }
            }
            return cells;
        }

        private boolean isByWater(Leaf leaf, int cell) {
            for (int side = 0; side < SIDES_OF_A_CELL; side++) {
                int other = ground.beside(cell, side);
                if (other != NONE && !leaf.isDry(other)) {
                    return true;
                }
            }
            return false;
        }

        void keep() {
            System.arraycopy(owners, 0, keptOwners, 0, MOST_CELLS);
        }

        private int differing() {
            int cells = 0;
            for (int cell = 0; cell < ground.cells; cell++) {
                if (owners[cell] != keptOwners[cell]) {
                    cells++;
                }
            }
            return cells;
        }

        /** A step is taken ahead of the deeds of its year: all that comes ahead of it is of lesser years. */
        private void runAheadOf(int number) {
            runFromFirst(atlas.leaves[number].year - 1, NONE);
        }

        int changedBy(int number) {
            runAheadOf(number);
            keep();
            takeStep();
            return differing();
        }

        int wonBy(int whose, int number) {
            runAheadOf(number);
            int ahead = dryOf(whose);
            takeStep();
            return dryOf(whose) - ahead;
        }

        /** How many cells are another's than those kept, if a step were turned. */
        int changedByDoubt(int number, int year) {
            runFromFirst(year, number);
            return differing();
        }
    }
}

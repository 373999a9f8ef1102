import java.util.Arrays;

public final class Eddyhall {
    public static final int NONE = -1;
    public static final int FREE = 0, WALL = 1, INLET = 2, OUTLET = 3;

    private static final int ROWS = 8, COLUMNS = 12, CELLS = 96;
    private static final int WAYS = 4, RIGHT = 0, UP = 1, LEFT = 2, DOWN = 3;
    private static final int EVERY_WAY = 15, LEVEL_PAIR = 5, UPRIGHT_PAIR = 10;
    private static final int BODIES = 4, MOST_CELLS_OF_BODY = 12, MOST_FAULT = 5;
    private static final int PROBES = 4;
    private static final int MOST_STEPS = 5000, MOST_STEPS_A_CALL = 200;
    private static final int MOST_STEPS_AHEAD = 5, MOST_STEPS_BETTER = 10;
    private static final int MOST_ROUNDS_A_CALL = 100;
    private static final int MOST_BROUGHT = 100000, MOST_COUNTS = 1000000;
    private static final int BLOCK = 2;

    private final Water water;
    private final Water trial;
    private final Counts counts;
    private final Probes probes;
    private final int[] faults;
    private int stepsSoFar;
    private int reach;

    public Eddyhall() {
        water = new Water();
        trial = new Water();
        counts = new Counts();
        probes = new Probes();
        faults = new int[BODIES];
    }

    // ---- what is told

    public void wall(int cell, int body) throws IndexOutOfBoundsException, IllegalStateException {
        if (isNoCell(cell) || (body != NONE && isNoBody(body))) {
            throw new IndexOutOfBoundsException();
        }
        if (!mayBeWall(cell) || (body != NONE && water.cellsOfBody(body) >= MOST_CELLS_OF_BODY)) {
            throw new IllegalStateException();
        }
        water.kinds[cell] = WALL;
        water.bodies[cell] = body;
        reach = 0;
    }

    public int clear(int cell) throws IndexOutOfBoundsException {
        if (isNoCell(cell)) {
            throw new IndexOutOfBoundsException();
        }
        int before = water.kinds[cell];
        water.makeFree(cell);
        reach = 0;
        return before;
    }

    public void open(int cell, int kind)
            throws IndexOutOfBoundsException, IllegalArgumentException, IllegalStateException {
        if (isNoCell(cell)) {
            throw new IndexOutOfBoundsException();
        }
        if (kind != INLET && kind != OUTLET) {
            throw new IllegalArgumentException();
        }
        if (water.kinds[cell] != FREE) {
            throw new IllegalStateException();
        }
        water.kinds[cell] = kind;
        reach = 0;
    }

    public int particle(int cell, int way)
            throws IndexOutOfBoundsException, IllegalArgumentException, IllegalStateException {
        if (isNoCell(cell)) {
            throw new IndexOutOfBoundsException();
        }
        if (isOutside(way, 0, WAYS - 1)) {
            throw new IllegalArgumentException();
        }
        if (water.kinds[cell] == WALL || has(water.particles[cell], way)) {
            throw new IllegalStateException();
        }
        water.letIn(cell, way);
        reach = 0;
        return water.particles[cell];
    }

    public int ink(int cell) throws IndexOutOfBoundsException {
        if (isNoCell(cell)) {
            throw new IndexOutOfBoundsException();
        }
        int plain = water.particles[cell] & ~water.dyed[cell];
        water.dyed[cell] = water.particles[cell];
        reach = 0;
        return Integer.bitCount(plain);
    }

    public int probe(int cell) throws IndexOutOfBoundsException, IllegalStateException {
        if (isNoCell(cell)) {
            throw new IndexOutOfBoundsException();
        }
        if (water.kinds[cell] == WALL || probes.many >= PROBES) {
            throw new IllegalStateException();
        }
        reach = 0;
        return probes.setInto(cell);
    }

    public int fault(int body, int fault) throws IndexOutOfBoundsException, IllegalArgumentException {
        if (isNoBody(body)) {
            throw new IndexOutOfBoundsException();
        }
        if (isOutside(fault, -MOST_FAULT, MOST_FAULT)) {
            throw new IllegalArgumentException();
        }
        int before = faults[body];
        faults[body] = fault;
        return before;
    }

    public int bring(int cell, int way, int many)
            throws IndexOutOfBoundsException, IllegalArgumentException, IllegalStateException {
        if (isNoCell(cell)) {
            throw new IndexOutOfBoundsException();
        }
        if (isOutside(way, 0, WAYS - 1) || isOutside(many, 1, MOST_BROUGHT)) {
            throw new IllegalArgumentException();
        }
        if (water.kinds[cell] == WALL || counts.all + many > MOST_COUNTS) {
            throw new IllegalStateException();
        }
        counts.all += many;
        counts.rows[way][cell] += many;
        return counts.rows[way][cell];
    }

    // ---- STEPS, rounds

    public int step(int steps) throws IllegalArgumentException, IllegalStateException {
        if (isOutside(steps, 1, MOST_STEPS_A_CALL)) {
            throw new IllegalArgumentException();
        }
        if (stepsSoFar + steps > MOST_STEPS) {
            throw new IllegalStateException();
        }
        boolean isClosed = water.isClosed();
        for (int i = 0; i < steps; i++) {
            water.passStep();
            probes.recordAll(water);
            stepsSoFar++;
            reach = isClosed ? reach + 1 : 0;
        }
        return stepsSoFar;
    }

    public int back(int steps) throws IllegalArgumentException, IllegalStateException {
        if (isOutside(steps, 1, MOST_STEPS_A_CALL)) {
            throw new IllegalArgumentException();
        }
        if (reach < steps) {
            throw new IllegalStateException();
        }
        for (int i = 0; i < steps; i++) {
            water.undoStep();
            probes.loseLatest();
            stepsSoFar--;
            reach--;
        }
        return stepsSoFar;
    }

    public long flow(int rounds) throws IllegalArgumentException {
        if (isOutside(rounds, 1, MOST_ROUNDS_A_CALL)) {
            throw new IllegalArgumentException();
        }
        for (int i = 0; i < rounds; i++) {
            counts.passRound(water);
        }
        return counts.rounds;
    }

    // ---- what there is

    public int cellOf(int cell, int what) throws IndexOutOfBoundsException, IllegalArgumentException {
        if (isNoCell(cell)) {
            throw new IndexOutOfBoundsException();
        }
        switch (what) {
            case 0:
                return water.kinds[cell];
            case 1:
                return water.bodies[cell];
            case 2:
                return water.particles[cell];
            case 3:
                return water.dyed[cell];
            case 4:
            case 5:
            case 6:
            case 7:
                return counts.rows[what - 4][cell];
            default:
                throw new IllegalArgumentException();
        }
    }

    public int bodyOf(int body, int what) throws IndexOutOfBoundsException, IllegalArgumentException {
        if (isNoBody(body)) {
            throw new IndexOutOfBoundsException();
        }
        switch (what) {
            case 0:
                return water.cellsOfBody(body);
            case 1:
                return water.hits[body];
            case 2:
                return water.pushRight[body];
            case 3:
                return water.pushUp[body];
            case 4:
                return water.pushRight[body] + faults[body] * water.hits[body];
            case 5:
                return water.pushUp[body] + faults[body] * water.hits[body];
            default:
                throw new IllegalArgumentException();
        }
    }

    public long sum(int what) throws IllegalArgumentException {
        switch (what) {
            case 0:
                return stepsSoFar;
            case 1:
                return reach;
            case 2:
                return bitsOf(water.particles);
            case 3:
                return bitsOf(water.dyed);
            case 4:
                return water.goingMore(RIGHT);
            case 5:
                return water.goingMore(UP);
            case 6:
                return water.meetings;
            case 7:
                return counts.all;
            default:
                throw new IllegalArgumentException();
        }
    }

    public long left(boolean isUp) {
        int way = isUp ? UP : RIGHT;
        int other = opposite(way);
        long cameMore = water.came[way] - water.came[other];
        long goneMore = water.gone[way] - water.gone[other];
        long struckMore = water.struck[way] - water.struck[other];
        return cameMore - water.goingMore(way) - goneMore - 2 * struckMore;
    }

    public long average(boolean isCounts, int what, int top, int left, int rows, int columns)
            throws IllegalArgumentException {
        if (isOutside(what, 0, 2) || isNoWindow(top, left, rows, columns)) {
            throw new IllegalArgumentException();
        }
        Tally tally = tallyOf(isCounts, what, new Window(top, left, rows, columns));
        return tally.cells <= 0 ? 0 : Math.floorDiv(100 * tally.total, tally.cells);
    }

    public long scatter(boolean isCounts, int what, int top, int left, int rows, int columns)
            throws IllegalArgumentException {
        if (isOutside(what, 0, 2) || isNoWindow(top, left, rows, columns)) {
            throw new IllegalArgumentException();
        }
        Tally tally = tallyOf(isCounts, what, new Window(top, left, rows, columns));
        if (tally.cells <= 0) {
            return 0;
        }
        long spread = tally.cells * tally.squares - tally.total * tally.total;
        return Math.floorDiv(100 * spread, tally.cells * tally.cells);
    }

    public float likeness(int top, int left, int rows, int columns) throws IllegalArgumentException {
        if (isNoWindow(top, left, rows, columns)) {
            throw new IllegalArgumentException();
        }
        Window window = new Window(top, left, rows, columns);
        Tally many = tallyOf(false, 0, window);
        if (many.total <= 0 || many.cells <= 0) {
            return 0.0f;
        }
        float n = (float) many.total;
        float f = (float) tallyOf(false, 1, window).total;
        float c = (float) many.cells;
        float speed = f / n;
        float thickness = n / c;
        return speed * (float) rows * thickness;
    }

    public int ahead(int cell, int steps) throws IndexOutOfBoundsException, IllegalArgumentException {
        if (isNoCell(cell)) {
            throw new IndexOutOfBoundsException();
        }
        if (isOutside(steps, 0, MOST_STEPS_AHEAD)) {
            throw new IllegalArgumentException();
        }
        trial.becomeLike(water);
        for (int i = 0; i < steps; i++) {
            trial.passStep();
        }
        return trial.particles[cell];
    }

    public int aheadAnew(int cell, int steps) throws IndexOutOfBoundsException, IllegalArgumentException {
        if (isNoCell(cell)) {
            throw new IndexOutOfBoundsException();
        }
        if (isOutside(steps, 0, MOST_STEPS_AHEAD)) {
            throw new IllegalArgumentException();
        }
        return arrived(water, cell, steps);
    }

    public long mixed(int what) throws IllegalArgumentException {
        switch (what) {
            case 0:
                return edgesOfInk();
            case 1:
                return unevenInk();
            default:
                throw new IllegalArgumentException();
        }
    }

    public int record(int probe, int ago) throws IndexOutOfBoundsException {
        if (isOutside(probe, 0, probes.many - 1) || isOutside(ago, 0, probes.recorded[probe] - 1)) {
            throw new IndexOutOfBoundsException();
        }
        return probes.rows[probe][probes.recorded[probe] - 1 - ago];
    }

    public int beat(int probe) throws IndexOutOfBoundsException {
        if (isOutside(probe, 0, probes.many - 1)) {
            throw new IndexOutOfBoundsException();
        }
        return probes.changesOfSign(probe);
    }

    public int better(int body, int steps) throws IndexOutOfBoundsException, IllegalArgumentException {
        if (isNoBody(body)) {
            throw new IndexOutOfBoundsException();
        }
        if (isOutside(steps, 1, MOST_STEPS_BETTER)) {
            throw new IllegalArgumentException();
        }
        int best = NONE;
        int least = pushWithout(NONE, body, steps);
        for (int cell = 0; cell < CELLS; cell++) {
            if (water.bodies[cell] == body) {
                int push = pushWithout(cell, body, steps);
                if (push < least) {
                    least = push;
                    best = cell;
                }
            }
        }
        return best;
    }

    // ---- what the calls share

    private static boolean isOutside(int number, int least, int most) {
        return number < least || number > most;
    }

    private static boolean isNoCell(int cell) {
        return cell < 0 || cell >= CELLS;
    }

    private static boolean isNoBody(int body) {
        return body < 0 || body >= BODIES;
    }

    private static boolean isNoWindow(int top, int leftmost, int rows, int columns) {
        return isOutside(top, 0, ROWS - 1) || isOutside(leftmost, 0, COLUMNS - 1)
                || isOutside(rows, 1, ROWS - top) || isOutside(columns, 1, COLUMNS);
    }

    private static int opposite(int way) {
        return way ^ 2;
    }

    private static boolean has(int particles, int way) {
        return (particles >> way & 1) != 0;
    }

    private static int turned(int particles, int by) {
        return (particles << by | particles >> WAYS - by) & EVERY_WAY;
    }

    private static boolean isMeeting(int particles) {
        return particles == LEVEL_PAIR || particles == UPRIGHT_PAIR;
    }

    /** The CELL beside in a WAY; NONE is the RIM. */
    private static int beside(int cell, int way) {
        switch (way) {
            case RIGHT:
                return cell % COLUMNS == COLUMNS - 1 ? cell - (COLUMNS - 1) : cell + 1;
            case UP:
                return cell < COLUMNS ? NONE : cell - COLUMNS;
            case LEFT:
                return cell % COLUMNS == 0 ? cell + (COLUMNS - 1) : cell - 1;
            default:
                return cell >= CELLS - COLUMNS ? NONE : cell + COLUMNS;
        }
    }

    private static int bitsOf(int[] sets) {
        int many = 0;
        for (int set : sets) {
            many += Integer.bitCount(set);
        }
        return many;
    }

    private boolean mayBeWall(int cell) {
        return water.kinds[cell] == FREE && water.particles[cell] == 0
                && !counts.areAt(cell) && !probes.areAt(cell);
    }

    private Tally tallyOf(boolean isCounts, int what, Window window) {
        Tally tally = new Tally();
        for (int cell = 0; cell < CELLS; cell++) {
            if (water.kinds[cell] != WALL && window.holds(cell)) {
                tally.take(isCounts ? counts.numberAt(cell, what) : water.numberAt(cell, what));
            }
        }
        return tally;
    }

    /** Asks only the CELLS from which particles can have come, never the whole water. */
    private static int arrived(Water water, int cell, int steps) {
        if (water.isShut(cell) || steps > MOST_STEPS_AHEAD) {
            return 0;
        }
        if (steps <= 0) {
            return water.particles[cell];
        }
        if (water.kinds[cell] == OUTLET) {
            return 0;
        }
        int found = water.kinds[cell] == INLET ? 1 << RIGHT : 0;
        for (int way = 0; way < WAYS; way++) {
            int source = beside(cell, opposite(way));
            boolean isSentBack = water.isShut(source);
            int there = arrived(water, isSentBack ? cell : source, steps - 1);
            int met = isMeeting(there) ? turned(there, 1) : there;
            if (has(met, isSentBack ? opposite(way) : way)) {
                found |= 1 << way;
            }
        }
        return found;
    }

    private int edgesOfInk() {
        int pairs = 0;
        for (int cell = 0; cell < CELLS; cell++) {
            // Only these two WAYS, so that each pair is counted from one side.
            pairs += isEdgeOfInk(cell, beside(cell, RIGHT)) ? 1 : 0;
            pairs += isEdgeOfInk(cell, beside(cell, DOWN)) ? 1 : 0;
        }
        return pairs;
    }

    private boolean isEdgeOfInk(int cell, int other) {
        if (isNoCell(cell) || isNoCell(other)) {
            return false;
        }
        return (water.isAllDyed(cell) && water.isAllPlain(other))
                || (water.isAllPlain(cell) && water.isAllDyed(other));
    }

    private long unevenInk() {
        long all = bitsOf(water.particles);
        long allDyed = bitsOf(water.dyed);
        long uneven = 0;
        for (int row = 0; row < ROWS; row += BLOCK) {
            for (int column = 0; column < COLUMNS; column += BLOCK) {
                Window block = new Window(row, column, BLOCK, BLOCK);
                long dyed = bitsWithin(block, water.dyed);
                long many = bitsWithin(block, water.particles);
                uneven += Math.abs(dyed * all - allDyed * many);
            }
        }
        return uneven;
    }

    private static int bitsWithin(Window window, int[] sets) {
        int many = 0;
        for (int cell = 0; cell < CELLS && cell < sets.length; cell++) {
            if (window.holds(cell)) {
                many += Integer.bitCount(sets[cell]);
            }
        }
        return many;
    }

    /** How much more a BODY is pushed to the right in STEPS from now on, one CELL (or NONE) being FREE. */
    private int pushWithout(int cell, int body, int steps) {
        trial.becomeLike(water);
        if (!isNoCell(cell)) {
            trial.makeFree(cell);
        }
        for (int i = 0; i < steps; i++) {
            trial.passStep();
        }
        return isNoBody(body) ? 0 : trial.pushRight[body] - water.pushRight[body];
    }

    /** The CELLS, their particles, and what the STEPS did to the BODIES. */
    private static final class Water {
        private final int[] kinds = new int[CELLS];
        private final int[] bodies = new int[CELLS];
        private final int[] particles = new int[CELLS];
        private final int[] dyed = new int[CELLS];
        private final int[] hoppedParticles = new int[CELLS];
        private final int[] hoppedDyed = new int[CELLS];
        private final int[] hits = new int[BODIES];
        private final int[] pushRight = new int[BODIES];
        private final int[] pushUp = new int[BODIES];
        // One each WAY, for the account that left() gives.
        private final int[] came = new int[WAYS];
        private final int[] gone = new int[WAYS];
        private final int[] struck = new int[WAYS];
        private int meetings;

        private Water() {
            Arrays.fill(bodies, NONE);
        }

        private void becomeLike(Water other) {
            System.arraycopy(other.kinds, 0, kinds, 0, CELLS);
            System.arraycopy(other.bodies, 0, bodies, 0, CELLS);
            System.arraycopy(other.particles, 0, particles, 0, CELLS);
            System.arraycopy(other.dyed, 0, dyed, 0, CELLS);
            System.arraycopy(other.hits, 0, hits, 0, BODIES);
            System.arraycopy(other.pushRight, 0, pushRight, 0, BODIES);
            System.arraycopy(other.pushUp, 0, pushUp, 0, BODIES);
            System.arraycopy(other.came, 0, came, 0, WAYS);
            System.arraycopy(other.gone, 0, gone, 0, WAYS);
            System.arraycopy(other.struck, 0, struck, 0, WAYS);
            meetings = other.meetings;
        }

        private void makeFree(int cell) {
            kinds[cell] = FREE;
            bodies[cell] = NONE;
        }

        private void letIn(int cell, int way) {
            particles[cell] |= 1 << way;
            came[way]++;
        }

        private boolean isShut(int cell) {
            return isNoCell(cell) || kinds[cell] == WALL;
        }

        private boolean isClosed() {
            for (int kind : kinds) {
                if (kind == INLET || kind == OUTLET) {
                    return false;
                }
            }
            return true;
        }

        private boolean isAllDyed(int cell) {
            return particles[cell] != 0 && dyed[cell] == particles[cell];
        }

        private boolean isAllPlain(int cell) {
            return particles[cell] != 0 && dyed[cell] == 0;
        }

        private int cellsOfBody(int body) {
            int many = 0;
            for (int other : bodies) {
                many += other == body ? 1 : 0;
            }
            return many;
        }

        private int numberAt(int cell, int what) {
            return what == 0 ? Integer.bitCount(particles[cell]) : moreAt(cell, what == 1 ? RIGHT : UP);
        }

        /** How many particles of a CELL go in a WAY, less those that go in the opposite one. */
        private int moreAt(int cell, int way) {
            return (particles[cell] >> way & 1) - (particles[cell] >> opposite(way) & 1);
        }

        private int goingMore(int way) {
            int more = 0;
            for (int cell = 0; cell < CELLS; cell++) {
                more += moreAt(cell, way);
            }
            return more;
        }

        private void passStep() {
            turnMeetings(1);
            hopAll(1);
            emptyOutlets();
            fillInlets();
        }

        /** Undoes a STEP without INLETS and OUTLETS: particles that all turn round go the same way home. */
        private void undoStep() {
            turnRound();
            hopAll(-1);
            turnRound();
            turnMeetings(-1);
        }

        /** A meeting is undone where it was by turning on, but the other way, so sign is 1 or -1. */
        private void turnMeetings(int sign) {
            int by = sign > 0 ? 1 : WAYS - 1;
            for (int cell = 0; cell < CELLS; cell++) {
                if (isMeeting(particles[cell])) {
                    particles[cell] = turned(particles[cell], by);
                    dyed[cell] = turned(dyed[cell], by);
                    meetings += sign;
                }
            }
        }

        private void turnRound() {
            for (int cell = 0; cell < CELLS; cell++) {
                particles[cell] = turned(particles[cell], 2);
                dyed[cell] = turned(dyed[cell], 2);
            }
        }

        /** All hops; sign is 1 to count the hits, or -1 to take them off. */
        private void hopAll(int sign) {
            Arrays.fill(hoppedParticles, 0);
            Arrays.fill(hoppedDyed, 0);
            for (int cell = 0; cell < CELLS; cell++) {
                for (int way = 0; way < WAYS && particles[cell] != 0; way++) {
                    if (has(particles[cell], way)) {
                        hopOne(cell, way, sign);
                    }
                }
            }
            System.arraycopy(hoppedParticles, 0, particles, 0, CELLS);
            System.arraycopy(hoppedDyed, 0, dyed, 0, CELLS);
        }

        private void hopOne(int cell, int way, int sign) {
            int target = beside(cell, way);
            int reached = target;
            int going = way;
            if (isShut(target)) {
                countHit(target, way, sign);
                reached = cell;
                going = opposite(way);
            }
            hoppedParticles[reached] |= 1 << going;
            hoppedDyed[reached] |= (dyed[cell] >> way & 1) << going;
        }

        private void countHit(int target, int way, int sign) {
            struck[way] += sign;
            if (isNoCell(target) || isNoBody(bodies[target])) {
                return;
            }
            int body = bodies[target];
            hits[body] += sign;
            int push = way == RIGHT || way == UP ? 2 * sign : -2 * sign;
            if (way == RIGHT || way == LEFT) {
                pushRight[body] += push;
            } else {
                pushUp[body] += push;
            }
        }

        private void emptyOutlets() {
            for (int cell = 0; cell < CELLS; cell++) {
                if (kinds[cell] == OUTLET) {
                    for (int way = 0; way < WAYS; way++) {
                        gone[way] += particles[cell] >> way & 1;
                    }
                    particles[cell] = 0;
                    dyed[cell] = 0;
                }
            }
        }

        private void fillInlets() {
            for (int cell = 0; cell < CELLS; cell++) {
                if (kinds[cell] == INLET && !has(particles[cell], RIGHT)) {
                    letIn(cell, RIGHT);
                }
            }
        }
    }

    /** The second water: a row of counts for each WAY. */
    private static final class Counts {
        private final int[][] rows = new int[WAYS][CELLS];
        private final int[][] moved = new int[WAYS][CELLS];
        private int all;
        private long rounds;

        private boolean areAt(int cell) {
            for (int[] row : rows) {
                if (row[cell] > 0) {
                    return true;
                }
            }
            return false;
        }

        private int numberAt(int cell, int what) {
            int level = rows[RIGHT][cell] + rows[LEFT][cell];
            int upright = rows[UP][cell] + rows[DOWN][cell];
            if (what == 0) {
                return level + upright;
            }
            return what == 1 ? rows[RIGHT][cell] - rows[LEFT][cell] : rows[UP][cell] - rows[DOWN][cell];
        }

        private void passRound(Water water) {
            for (int cell = 0; cell < CELLS; cell++) {
                evenOut(cell);
            }
            for (int way = 0; way < WAYS; way++) {
                moveAll(water, way);
            }
            for (int way = 0; way < WAYS; way++) {
                System.arraycopy(moved[way], 0, rows[way], 0, CELLS);
                Arrays.fill(moved[way], 0);
            }
            rounds++;
        }

        private void evenOut(int cell) {
            int level = rows[RIGHT][cell] + rows[LEFT][cell];
            int upright = rows[UP][cell] + rows[DOWN][cell];
            int excess = (level - upright) / 4;
            if (excess > 0) {
                int most = Math.min(rows[RIGHT][cell], rows[LEFT][cell]);
                shiftToUpright(cell, Math.min(excess, most));
            } else if (excess < 0) {
                int most = Math.min(rows[UP][cell], rows[DOWN][cell]);
                shiftToUpright(cell, -Math.min(-excess, most));
            }
        }

        private void shiftToUpright(int cell, int many) {
            rows[RIGHT][cell] -= many;
            rows[LEFT][cell] -= many;
            rows[UP][cell] += many;
            rows[DOWN][cell] += many;
        }

        private void moveAll(Water water, int way) {
            for (int cell = 0; cell < CELLS; cell++) {
                int target = beside(cell, way);
                if (water.isShut(target)) {
                    moved[opposite(way)][cell] += rows[way][cell];
                } else {
                    moved[way][target] += rows[way][cell];
                }
            }
        }
    }

    /** The probes, each with its row of records. */
    private static final class Probes {
        private final int[] cells = new int[PROBES];
        private final int[] recorded = new int[PROBES];
        private final byte[][] rows = new byte[PROBES][MOST_STEPS];
        private int many;

        private int setInto(int cell) {
            if (many >= PROBES) {
                return NONE;
            }
            cells[many] = cell;
            many++;
            return many - 1;
        }

        private boolean areAt(int cell) {
            for (int probe = 0; probe < many && probe < PROBES; probe++) {
                if (cells[probe] == cell) {
                    return true;
                }
            }
            return false;
        }

        private void recordAll(Water water) {
            for (int probe = 0; probe < many && probe < PROBES; probe++) {
                if (recorded[probe] < MOST_STEPS) {
                    rows[probe][recorded[probe]] = (byte) water.moreAt(cells[probe], UP);
                    recorded[probe]++;
                }
            }
        }

        private void loseLatest() {
            for (int probe = 0; probe < many && probe < PROBES; probe++) {
                if (recorded[probe] > 0) {
                    recorded[probe]--;
                }
            }
        }

        private int changesOfSign(int probe) {
            int changes = 0;
            int latest = 0;
            for (int i = 0; i < recorded[probe] && i < MOST_STEPS; i++) {
                int sign = rows[probe][i];
                if (sign != 0) {
                    changes += sign * latest < 0 ? 1 : 0;
                    latest = sign;
                }
            }
            return changes;
        }
    }

    /** A window, perhaps with columns that go on in the column 0. */
    private static final class Window {
        private final int top;
        private final int leftmost;
        private final int rows;
        private final int columns;

        private Window(int top, int leftmost, int rows, int columns) {
            this.top = top;
            this.leftmost = leftmost;
            this.rows = rows;
            this.columns = columns;
        }

        private boolean holds(int cell) {
            int down = cell / COLUMNS - top;
            int right = Math.floorMod(cell % COLUMNS - leftmost, COLUMNS);
            return down >= 0 && down < rows && right < columns;
        }
    }

    /** What is needed of numbers for their average and their scatter. */
    private static final class Tally {
        private long cells;
        private long total;
        private long squares;

        private void take(long number) {
            cells++;
            total += number;
            squares += number * number;
        }
    }
}

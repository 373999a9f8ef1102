import java.util.ArrayList;
import java.util.List;

/** The document once more, in a slow and plain form: a list of particles, and the past kept whole. */
final class Model {
    private static final class Particle {
        int row;
        int column;
        int way;
        boolean isDyed;

        Particle(int row, int column, int way, boolean isDyed) {
            this.row = row;
            this.column = column;
            this.way = way;
            this.isDyed = isDyed;
        }
    }

    private static final class Past {
        List<Particle> water;
        int[][] bodies;
        int meetings;
    }

    private static final int[] ROW_OF = {0, -1, 0, 1};
    private static final int[] COLUMN_OF = {1, 0, -1, 0};

    private final int[][] kinds = new int[8][12];
    private final int[][] owners = new int[8][12];
    private final long[][][] counts = new long[8][12][4];
    private List<Particle> water = new ArrayList<>();
    // Of each BODY its hits, its push to the right, its push up.
    private int[][] bodies = new int[4][3];
    private final int[] faults = new int[4];
    private final List<Past> past = new ArrayList<>();
    private final List<Integer> probes = new ArrayList<>();
    private final List<List<Integer>> records = new ArrayList<>();
    private int steps;
    private int meetings;
    private long rounds;

    Model() {
        for (int[] row : owners) {
            java.util.Arrays.fill(row, -1);
        }
    }

    double call(String name, int[] a) {
        switch (name) {
            case "wall": wall(a[0], a[1]); return 0;
            case "clear": return clear(a[0]);
            case "open": open(a[0], a[1]); return 0;
            case "particle": return particle(a[0], a[1]);
            case "ink": return ink(a[0]);
            case "probe": return probe(a[0]);
            case "fault": return fault(a[0], a[1]);
            case "bring": return bring(a[0], a[1], a[2]);
            case "step": return step(a[0]);
            case "back": return back(a[0]);
            case "flow": return flow(a[0]);
            case "cellOf": return cellOf(a[0], a[1]);
            case "bodyOf": return bodyOf(a[0], a[1]);
            case "sum": return sum(a[0]);
            case "left": return 0;
            case "average": return average(a[0] != 0, a[1], a[2], a[3], a[4], a[5]);
            case "scatter": return scatter(a[0] != 0, a[1], a[2], a[3], a[4], a[5]);
            case "likeness": return likeness(a[0], a[1], a[2], a[3]);
            case "ahead":
            case "aheadAnew": return ahead(a[0], a[1]);
            case "mixed": return mixed(a[0]);
            case "record": return record(a[0], a[1]);
            case "beat": return beat(a[0]);
            case "better": return better(a[0], a[1]);
            default: throw new UnsupportedOperationException(name);
        }
    }

    private static void index(boolean isFine) {
        if (!isFine) {
            throw new IndexOutOfBoundsException();
        }
    }

    private static void argument(boolean isFine) {
        if (!isFine) {
            throw new IllegalArgumentException();
        }
    }

    private static void state(boolean isFine) {
        if (!isFine) {
            throw new IllegalStateException();
        }
    }

    private static boolean in(int x, int from, int to) {
        return from <= x && x <= to;
    }

    private int kindOf(int cell) {
        return kinds[cell / 12][cell % 12];
    }

    private List<Particle> at(int row, int column) {
        List<Particle> found = new ArrayList<>();
        for (Particle p : water) {
            if (p.row == row && p.column == column) {
                found.add(p);
            }
        }
        return found;
    }

    private List<Particle> at(int cell) {
        return at(cell / 12, cell % 12);
    }

    private static int bits(List<Particle> some, boolean isOnlyDyed) {
        int bits = 0;
        for (Particle p : some) {
            if (p.isDyed || !isOnlyDyed) {
                bits |= 1 << p.way;
            }
        }
        return bits;
    }

    private static int many(List<Particle> some, int way) {
        int many = 0;
        for (Particle p : some) {
            many += p.way == way ? 1 : 0;
        }
        return many;
    }

    private static int dyed(List<Particle> some) {
        int many = 0;
        for (Particle p : some) {
            many += p.isDyed ? 1 : 0;
        }
        return many;
    }

    private int cellsOf(int body) {
        int many = 0;
        for (int cell = 0; cell < 96; cell++) {
            many += owners[cell / 12][cell % 12] == body ? 1 : 0;
        }
        return many;
    }

    private long allCounts() {
        long all = 0;
        for (long[][] row : counts) {
            for (long[] four : row) {
                for (long count : four) {
                    all += count;
                }
            }
        }
        return all;
    }

    private void wall(int cell, int body) {
        index(in(cell, 0, 95) && in(body, -1, 3));
        long here = 0;
        for (long count : counts[cell / 12][cell % 12]) {
            here += count;
        }
        state(kindOf(cell) == 0 && at(cell).isEmpty() && here == 0 && !probes.contains(cell));
        state(body == -1 || cellsOf(body) < 12);
        kinds[cell / 12][cell % 12] = 1;
        owners[cell / 12][cell % 12] = body;
        past.clear();
    }

    private int clear(int cell) {
        index(in(cell, 0, 95));
        int was = kindOf(cell);
        kinds[cell / 12][cell % 12] = 0;
        owners[cell / 12][cell % 12] = -1;
        past.clear();
        return was;
    }

    private void open(int cell, int kind) {
        index(in(cell, 0, 95));
        argument(kind == 2 || kind == 3);
        state(kindOf(cell) == 0);
        kinds[cell / 12][cell % 12] = kind;
        past.clear();
    }

    private int particle(int cell, int way) {
        index(in(cell, 0, 95));
        argument(in(way, 0, 3));
        state(kindOf(cell) != 1 && many(at(cell), way) == 0);
        water.add(new Particle(cell / 12, cell % 12, way, false));
        past.clear();
        return bits(at(cell), false);
    }

    private int ink(int cell) {
        index(in(cell, 0, 95));
        int many = 0;
        for (Particle p : at(cell)) {
            many += p.isDyed ? 0 : 1;
            p.isDyed = true;
        }
        past.clear();
        return many;
    }

    private int probe(int cell) {
        index(in(cell, 0, 95));
        state(kindOf(cell) != 1 && probes.size() < 4);
        probes.add(cell);
        records.add(new ArrayList<>());
        past.clear();
        return probes.size() - 1;
    }

    private int fault(int body, int fault) {
        index(in(body, 0, 3));
        argument(in(fault, -5, 5));
        int before = faults[body];
        faults[body] = fault;
        return before;
    }

    private int bring(int cell, int way, int many) {
        index(in(cell, 0, 95));
        argument(in(way, 0, 3) && in(many, 1, 100000));
        state(kindOf(cell) != 1 && allCounts() + many <= 1000000);
        counts[cell / 12][cell % 12][way] += many;
        return (int) counts[cell / 12][cell % 12][way];
    }

    private int step(int many) {
        argument(in(many, 1, 200));
        state(steps + many <= 5000);
        for (int i = 0; i < many; i++) {
            Past before = new Past();
            before.water = copyOf(water);
            before.bodies = copyOf(bodies);
            before.meetings = meetings;
            past.add(before);
            if (hasOpenings()) {
                past.clear();
            }
            pass();
            for (int p = 0; p < probes.size(); p++) {
                List<Particle> here = at(probes.get(p));
                records.get(p).add(many(here, 1) - many(here, 3));
            }
            steps++;
        }
        return steps;
    }

    private boolean hasOpenings() {
        for (int cell = 0; cell < 96; cell++) {
            if (kindOf(cell) > 1) {
                return true;
            }
        }
        return false;
    }

    private int back(int many) {
        argument(in(many, 1, 200));
        state(past.size() >= many);
        for (int i = 0; i < many; i++) {
            Past before = past.remove(past.size() - 1);
            water = before.water;
            bodies = before.bodies;
            meetings = before.meetings;
            for (List<Integer> record : records) {
                record.remove(record.size() - 1);
            }
            steps--;
        }
        return steps;
    }

    private static List<Particle> copyOf(List<Particle> some) {
        List<Particle> copy = new ArrayList<>();
        for (Particle p : some) {
            copy.add(new Particle(p.row, p.column, p.way, p.isDyed));
        }
        return copy;
    }

    private static int[][] copyOf(int[][] some) {
        int[][] copy = new int[some.length][];
        for (int i = 0; i < some.length; i++) {
            copy[i] = some[i].clone();
        }
        return copy;
    }

    private boolean isShut(int row, int column) {
        return row < 0 || row > 7 || kinds[row][column] == 1;
    }

    private void pass() {
        for (int cell = 0; cell < 96; cell++) {
            List<Particle> here = at(cell);
            if (here.size() == 2 && Math.abs(here.get(0).way - here.get(1).way) == 2) {
                meetings++;
                for (Particle p : here) {
                    p.way = p.way == 3 ? 0 : p.way + 1;
                }
            }
        }
        for (Particle p : water) {
            int row = p.row + ROW_OF[p.way];
            int column = (p.column + COLUMN_OF[p.way] + 12) % 12;
            if (isShut(row, column)) {
                if (in(row, 0, 7) && owners[row][column] >= 0) {
                    int[] body = bodies[owners[row][column]];
                    body[0]++;
                    body[1] += 2 * COLUMN_OF[p.way];
                    body[2] -= 2 * ROW_OF[p.way];
                }
                p.way = (p.way + 2) % 4;
            } else {
                p.row = row;
                p.column = column;
            }
        }
        water.removeIf(p -> kinds[p.row][p.column] == 3);
        for (int cell = 0; cell < 96; cell++) {
            if (kindOf(cell) == 2 && many(at(cell), 0) == 0) {
                water.add(new Particle(cell / 12, cell % 12, 0, false));
            }
        }
    }

    private long flow(int many) {
        argument(in(many, 1, 100));
        for (int i = 0; i < many; i++) {
            round();
            rounds++;
        }
        return rounds;
    }

    private void round() {
        long[][][] next = new long[8][12][4];
        for (int row = 0; row < 8; row++) {
            for (int column = 0; column < 12; column++) {
                long[] c = counts[row][column];
                long e = (c[0] + c[2] - c[1] - c[3]) / 4;
                long by = e > 0 ? Math.min(e, Math.min(c[0], c[2])) : -Math.min(-e, Math.min(c[1], c[3]));
                long[] met = {c[0] - by, c[1] + by, c[2] - by, c[3] + by};
                for (int way = 0; way < 4; way++) {
                    int r = row + ROW_OF[way];
                    int k = (column + COLUMN_OF[way] + 12) % 12;
                    if (isShut(r, k)) {
                        next[row][column][(way + 2) % 4] += met[way];
                    } else {
                        next[r][k][way] += met[way];
                    }
                }
            }
        }
        for (int row = 0; row < 8; row++) {
            counts[row] = next[row];
        }
    }

    private int cellOf(int cell, int what) {
        index(in(cell, 0, 95));
        argument(in(what, 0, 7));
        switch (what) {
            case 0: return kindOf(cell);
            case 1: return owners[cell / 12][cell % 12];
            case 2: return bits(at(cell), false);
            case 3: return bits(at(cell), true);
            default: return (int) counts[cell / 12][cell % 12][what - 4];
        }
    }

    private int bodyOf(int body, int what) {
        index(in(body, 0, 3));
        argument(in(what, 0, 5));
        switch (what) {
            case 0: return cellsOf(body);
            case 4: return bodies[body][1] + faults[body] * bodies[body][0];
            case 5: return bodies[body][2] + faults[body] * bodies[body][0];
            default: return bodies[body][what - 1];
        }
    }

    private long sum(int what) {
        argument(in(what, 0, 7));
        switch (what) {
            case 0: return steps;
            case 1: return past.size();
            case 2: return water.size();
            case 3: return dyed(water);
            case 4: return many(water, 0) - many(water, 2);
            case 5: return many(water, 1) - many(water, 3);
            case 6: return meetings;
            default: return allCounts();
        }
    }

    private List<Long> numbers(boolean isCounts, int what, int top, int left, int rows, int columns) {
        argument(in(what, 0, 2) && in(top, 0, 7) && in(left, 0, 11));
        argument(in(rows, 1, 8) && in(columns, 1, 12) && top + rows <= 8);
        List<Long> numbers = new ArrayList<>();
        for (int i = 0; i < rows; i++) {
            for (int j = 0; j < columns; j++) {
                int row = top + i;
                int column = (left + j) % 12;
                if (kinds[row][column] == 1) {
                    continue;
                }
                long[] c = counts[row][column].clone();
                if (!isCounts) {
                    for (int way = 0; way < 4; way++) {
                        c[way] = many(at(row, column), way);
                    }
                }
                numbers.add(what == 0 ? c[0] + c[1] + c[2] + c[3] : what == 1 ? c[0] - c[2] : c[1] - c[3]);
            }
        }
        return numbers;
    }

    private long average(boolean isCounts, int what, int top, int left, int rows, int columns) {
        List<Long> numbers = numbers(isCounts, what, top, left, rows, columns);
        long sum = 0;
        for (long x : numbers) {
            sum += x;
        }
        return numbers.isEmpty() ? 0 : Math.floorDiv(100 * sum, (long) numbers.size());
    }

    private long scatter(boolean isCounts, int what, int top, int left, int rows, int columns) {
        List<Long> numbers = numbers(isCounts, what, top, left, rows, columns);
        long n = numbers.size();
        long sum = 0;
        long squares = 0;
        for (long x : numbers) {
            sum += x;
            squares += x * x;
        }
        return n == 0 ? 0 : 100 * (n * squares - sum * sum) / (n * n);
    }

    private float likeness(int top, int left, int rows, int columns) {
        long n = 0;
        for (long x : numbers(false, 0, top, left, rows, columns)) {
            n += x;
        }
        long f = 0;
        int c = 0;
        for (long x : numbers(false, 1, top, left, rows, columns)) {
            f += x;
            c++;
        }
        if (n == 0) {
            return 0.0f;
        }
        float speed = (float) f / (float) n;
        float thickness = (float) n / (float) c;
        float long_ = speed * (float) rows;
        return long_ * thickness;
    }

    private Model twin() {
        Model twin = new Model();
        for (int row = 0; row < 8; row++) {
            twin.kinds[row] = kinds[row].clone();
            twin.owners[row] = owners[row].clone();
        }
        twin.water = copyOf(water);
        return twin;
    }

    private int ahead(int cell, int many) {
        index(in(cell, 0, 95));
        argument(in(many, 0, 5));
        Model twin = twin();
        for (int i = 0; i < many; i++) {
            twin.pass();
        }
        return bits(twin.at(cell), false);
    }

    private long mixed(int what) {
        argument(in(what, 0, 1));
        return what == 0 ? pairs() : blocks();
    }

    private int inkOf(int cell) {
        List<Particle> here = at(cell);
        int dyed = dyed(here);
        return here.isEmpty() ? 0 : dyed == here.size() ? 1 : dyed == 0 ? -1 : 0;
    }

    private long pairs() {
        long pairs = 0;
        for (int one = 0; one < 96; one++) {
            for (int other = one + 1; other < 96; other++) {
                int down = other / 12 - one / 12;
                int right = Math.floorMod(other % 12 - one % 12, 12);
                boolean isBeside = down == 0 && (right == 1 || right == 11) || down == 1 && right == 0;
                if (isBeside && inkOf(one) * inkOf(other) == -1) {
                    pairs++;
                }
            }
        }
        return pairs;
    }

    private long blocks() {
        long[] dyed = new long[24];
        long[] all = new long[24];
        for (Particle p : water) {
            int block = p.row / 2 * 6 + p.column / 2;
            all[block]++;
            dyed[block] += p.isDyed ? 1 : 0;
        }
        long sum = 0;
        for (int block = 0; block < 24; block++) {
            sum += Math.abs(dyed[block] * water.size() - dyed(water) * all[block]);
        }
        return sum;
    }

    private int record(int probe, int ago) {
        index(in(probe, 0, probes.size() - 1));
        List<Integer> record = records.get(probe);
        index(in(ago, 0, record.size() - 1));
        return record.get(record.size() - 1 - ago);
    }

    private int beat(int probe) {
        index(in(probe, 0, probes.size() - 1));
        List<Integer> some = new ArrayList<>(records.get(probe));
        some.removeIf(x -> x == 0);
        int beats = 0;
        for (int i = 1; i < some.size(); i++) {
            beats += some.get(i) > 0 != some.get(i - 1) > 0 ? 1 : 0;
        }
        return beats;
    }

    private int better(int body, int many) {
        index(in(body, 0, 3));
        argument(in(many, 1, 10));
        int asItIs = pushOf(twin(), body, many);
        int best = -1;
        int least = Integer.MAX_VALUE;
        for (int cell = 0; cell < 96; cell++) {
            if (owners[cell / 12][cell % 12] == body) {
                Model twin = twin();
                twin.clear(cell);
                int push = pushOf(twin, body, many);
                if (push < least) {
                    least = push;
                    best = cell;
                }
            }
        }
        return least < asItIs ? best : -1;
    }

    private static int pushOf(Model twin, int body, int many) {
        for (int i = 0; i < many; i++) {
            twin.pass();
        }
        return twin.bodies[body][1];
    }
}

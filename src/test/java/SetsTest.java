/** What becomes of a CELL in a STEP or a round: every set of particles, dyed or not, and many counts. */
public final class SetsTest {
    private static final int CELL = 40;
    // To the right, up, to the left, down of it.
    private static final int[] BESIDE = {41, 28, 39, 52};

    public static void main(String[] args) {
        for (int set = 0; set < 16; set++) {
            for (int dyed = 0; dyed < 16; dyed++) {
                if ((dyed & ~set) == 0) {
                    passes(set, dyed, CELL);
                    passes(set, dyed, 0);
                    passes(set, dyed, 95);
                    isUndone(set, dyed);
                    inOpening(set, dyed);
                }
            }
            told(set);
            probed(set);
        }
        for (int right = 0; right <= 5; right++) {
            for (int up = 0; up <= 5; up++) {
                for (int left = 0; left <= 5; left++) {
                    for (int down = 0; down <= 5; down++) {
                        flows(right, up, left, down);
                        flows(right * 9, up * 4, left * 2, down * 7);
                        flows(right * 20000, up * 19999, left * 17, down * 11);
                    }
                }
            }
        }
        flows(100000, 100000, 100000, 100000);
        Due.end();
    }

    private static Eddyhall with(int set, int dyed, int cell) {
        Eddyhall x = new Eddyhall();
        for (int way = 0; way < 4; way++) {
            if (has(dyed, way)) {
                x.particle(cell, way);
            }
        }
        x.ink(cell);
        for (int way = 0; way < 4; way++) {
            if (has(set & ~dyed, way)) {
                x.particle(cell, way);
            }
        }
        return x;
    }

    private static boolean has(int set, int way) {
        return (set >> way & 1) == 1;
    }

    private static int turned(int set) {
        return set * 2 % 16 + set / 8;
    }

    private static boolean meets(int set) {
        return set == 0b0101 || set == 0b1010;
    }

    private static void passes(int set, int dyed, int cell) {
        String text = "set " + set + ", dyed " + dyed + ", in " + cell + ": ";
        Eddyhall x = with(set, dyed, cell);
        Due.is(text + "told", set, () -> x.cellOf(cell, 2));
        Due.is(text + "dyed", dyed, () -> x.cellOf(cell, 3));
        int goes = meets(set) ? turned(set) : set;
        int goesDyed = meets(set) ? turned(dyed) : dyed;
        x.step(1);
        Due.is(text + "meetings", meets(set) ? 1 : 0, () -> x.sum(6));
        for (int way = 0; way < 4; way++) {
            int row = cell / 12 + new int[] {0, -1, 0, 1}[way];
            int column = (cell + new int[] {1, 0, 11, 0}[way]) % 12;
            boolean isRim = row < 0 || row > 7;
            int to = isRim ? cell : 12 * row + column;
            int going = isRim ? (way + 2) % 4 : way;
            int bit = goes >> way & 1;
            int ink = goesDyed >> way & 1;
            Due.is(text + "WAY " + way, bit << going, () -> x.cellOf(to, 2));
            Due.is(text + "WAY " + way + " dyed", ink << going, () -> x.cellOf(to, 3));
        }
        Due.is(text + "all", Integer.bitCount(set), () -> x.sum(2));
        Due.is(text + "all dyed", Integer.bitCount(dyed), () -> x.sum(3));
    }

    private static void isUndone(int set, int dyed) {
        String text = "set " + set + ", dyed " + dyed + ", undone: ";
        for (int steps : new int[] {1, 2, 7, 200}) {
            Eddyhall x = with(set, dyed, CELL);
            x.step(steps);
            Due.is(text + steps, 0, () -> x.back(steps));
            Due.is(text + "particles", set, () -> x.cellOf(CELL, 2));
            Due.is(text + "dyed", dyed, () -> x.cellOf(CELL, 3));
            Due.is(text + "meetings", 0, () -> x.sum(6));
            Due.is(text + "no others", Integer.bitCount(set), () -> x.sum(2));
        }
    }

    /** Particles that are in an INLET or an OUTLET leave it as they leave other CELLS. */
    private static void inOpening(int set, int dyed) {
        int goes = meets(set) ? turned(set) : set;
        for (int kind : new int[] {Eddyhall.INLET, Eddyhall.OUTLET}) {
            String text = "set " + set + ", dyed " + dyed + ", in a kind " + kind + ": ";
            Eddyhall x = with(set, dyed, CELL);
            x.open(CELL, kind);
            Due.is(text + "none has come or gone yet", set, () -> x.cellOf(CELL, 2));
            x.step(1);
            for (int way = 0; way < 4; way++) {
                int to = BESIDE[way];
                int w = way;
                Due.is(text + "WAY " + w, goes & 1 << w, () -> x.cellOf(to, 2));
            }
            Due.is(text + "then there", kind == Eddyhall.INLET ? 1 : 0, () -> x.cellOf(CELL, 2));
            Due.is(text + "not dyed", 0, () -> x.cellOf(CELL, 3));
        }
        arriving(set, dyed);
    }

    /** One of each WAY of the set comes from beside, all in the same STEP. */
    private static void arriving(int set, int dyed) {
        for (int kind : new int[] {Eddyhall.FREE, Eddyhall.INLET, Eddyhall.OUTLET}) {
            String text = "set " + set + ", dyed " + dyed + ", comes to a kind " + kind + ": ";
            Eddyhall x = new Eddyhall();
            for (int way = 0; way < 4; way++) {
                int from = BESIDE[(way + 2) % 4];
                if (has(set, way)) {
                    x.particle(from, way);
                }
                if (has(dyed, way)) {
                    x.ink(from);
                }
            }
            if (kind != Eddyhall.FREE) {
                x.open(CELL, kind);
            }
            int want = kind == Eddyhall.OUTLET ? 0 : kind == Eddyhall.INLET ? set | 1 : set;
            int wantDyed = kind == Eddyhall.OUTLET ? 0 : dyed;
            Due.is(text + "ahead", want, () -> x.ahead(CELL, 1));
            Due.is(text + "aheadAnew", want, () -> x.aheadAnew(CELL, 1));
            x.step(1);
            Due.is(text + "particles", want, () -> x.cellOf(CELL, 2));
            Due.is(text + "dyed", wantDyed, () -> x.cellOf(CELL, 3));
            Due.is(text + "all", Integer.bitCount(want), () -> x.sum(2));
            Due.is(text + "no meetings yet", 0, () -> x.sum(6));
        }
    }

    private static void told(int set) {
        Eddyhall x = new Eddyhall();
        int soFar = 0;
        for (int way = 3; way >= 0; way--) {
            if (has(set, way)) {
                int w = way;
                soFar |= 1 << way;
                Due.is("set " + set + ", told the WAY " + w, soFar, () -> x.particle(0, w));
            }
        }
        for (int way = 0; way < 4; way++) {
            if (has(set, way)) {
                int w = way;
                Due.noState("set " + set + " has the WAY " + w, () -> x.particle(0, w));
            }
        }
        Due.is("set " + set + " as it was told", set, () -> x.cellOf(0, 2));
        Due.is("set " + set + ", none dyed at first", 0, () -> x.cellOf(0, 3));
        Due.is("set " + set + ", right less left", (set & 1) - (set >> 2 & 1), () -> x.sum(4));
        Due.is("set " + set + ", up less down", (set >> 1 & 1) - (set >> 3 & 1), () -> x.sum(5));
        Due.is("set " + set + ", ink", Integer.bitCount(set), () -> x.ink(0));
        Due.is("set " + set + ", ink again", 0, () -> x.ink(0));
        Due.is("set " + set + ", all dyed", set, () -> x.cellOf(0, 3));
        if (set > 0) {
            Due.noState("set " + set + " where a WALL should be", () -> x.wall(0, 0));
        } else {
            Due.passes("a WALL where nothing is", () -> x.wall(0, 0));
        }
    }

    private static void probed(int set) {
        Eddyhall x = new Eddyhall();
        x.probe(CELL);
        for (int way = 0; way < 4; way++) {
            if (has(set, way)) {
                x.particle(BESIDE[(way + 2) % 4], way);
            }
        }
        x.step(1);
        int want = (set >> 1 & 1) - (set >> 3 & 1);
        Due.is("set " + set + ", the record", want, () -> x.record(0, 0));
        Due.is("set " + set + ", no beat of one record", 0, () -> x.beat(0));
    }

    private static void flows(int right, int up, int left, int down) {
        String text = "counts " + right + " " + up + " " + left + " " + down + ": ";
        int[] many = {right, up, left, down};
        Eddyhall x = new Eddyhall();
        for (int way = 0; way < 4; way++) {
            if (many[way] > 0) {
                x.bring(CELL, way, many[way]);
            }
        }
        // Rounded toward 0, so the difference without its sign can be divided.
        int level = right + left;
        int upright = up + down;
        int more = level > upright ? 1 : -1;
        int excess = (level > upright ? level - upright : upright - level) / 4;
        int lesser = more > 0 ? Math.min(right, left) : Math.min(up, down);
        int by = more * Math.min(excess, lesser);
        int[] want = {right - by, up + by, left - by, down + by};
        x.flow(1);
        for (int way = 0; way < 4; way++) {
            int w = way;
            Due.is(text + "WAY " + w, want[w], () -> x.cellOf(BESIDE[w], 4 + w));
        }
        Due.is(text + "all", right + up + left + down, () -> x.sum(7));
    }
}

/** Promises 13 to 25: what there is. */
public final class LookTest {
    public static void main(String[] args) {
        promise13CellOf();
        promise14BodyOf();
        promise15Sum();
        promise16Left();
        promise17Average();
        promise18Scatter();
        promise17And18Windows();
        promise19Likeness();
        promise20And21Ahead();
        promise20And21Everywhere();
        promise22Pairs();
        promise22Blocks();
        promise23Record();
        promise24Beat();
        promise25Better();
        promise25Ties();
        promise25Range();
        Due.end();
    }

    private static void promise13CellOf() {
        Eddyhall x = new Eddyhall();
        x.particle(95, 0);
        x.particle(95, 3);
        x.ink(95);
        x.particle(95, 1);
        for (int way = 0; way < 4; way++) {
            x.bring(95, way, 10 + way);
        }
        x.open(95, Eddyhall.OUTLET);
        int[] want = {3, -1, 11, 9, 10, 11, 12, 13};
        for (int what = 0; what < 8; what++) {
            int w = what;
            Due.is("cellOf(95, " + w + ")", want[w], () -> x.cellOf(95, w));
        }
        x.wall(0, 3);
        int[] wall = {1, 3, 0, 0, 0, 0, 0, 0};
        for (int what = 0; what < 8; what++) {
            int w = what;
            Due.is("cellOf(0, " + w + ")", wall[w], () -> x.cellOf(0, w));
        }
        Due.noIndex("cellOf(-1, 0)", () -> x.cellOf(-1, 0));
        Due.noIndex("cellOf(96, 8)", () -> x.cellOf(96, 8));
        Due.noArgument("cellOf(0, -1)", () -> x.cellOf(0, -1));
        Due.noArgument("cellOf(95, 8)", () -> x.cellOf(95, 8));
        Due.noArgument("cellOf(95, MAX)", () -> x.cellOf(95, Integer.MAX_VALUE));
    }

    private static void promise14BodyOf() {
        Eddyhall x = new Eddyhall();
        x.wall(40, 3);
        x.wall(16, 3);
        x.particle(41, 2);
        x.particle(28, 3);
        x.step(1);
        x.fault(3, -5);
        x.fault(2, 5);
        int[] want = {2, 2, -2, -2, -12, -12};
        for (int what = 0; what < 6; what++) {
            int w = what;
            Due.is("bodyOf(3, " + w + ")", want[w], () -> x.bodyOf(3, w));
            Due.is("bodyOf(2, " + w + ")", 0, () -> x.bodyOf(2, w));
        }
        x.step(1);
        Due.is("push up from below", 0, () -> x.bodyOf(3, 3));
        Due.is("hits", 3, () -> x.bodyOf(3, 1));
        Due.is("what the balance tells of it", -15, () -> x.bodyOf(3, 5));
        x.fault(3, 2);
        Due.is("the fault as it is now", 4, () -> x.bodyOf(3, 4));
        Due.noIndex("bodyOf(-1, 0)", () -> x.bodyOf(-1, 0));
        Due.noIndex("bodyOf(4, 6)", () -> x.bodyOf(4, 6));
        Due.noArgument("bodyOf(0, 6)", () -> x.bodyOf(0, 6));
        Due.noArgument("bodyOf(3, -1)", () -> x.bodyOf(3, -1));
    }

    private static void promise15Sum() {
        Eddyhall x = new Eddyhall();
        x.particle(40, 0);
        x.particle(40, 2);
        x.ink(40);
        x.step(1);
        x.particle(0, 1);
        x.particle(1, 1);
        x.particle(0, 2);
        x.particle(95, 2);
        x.particle(94, 2);
        x.particle(94, 0);
        x.bring(7, 1, 70);
        x.bring(8, 2, 7);
        int[] want = {1, 0, 8, 2, -2, 2, 1, 77};
        for (int what = 0; what < 8; what++) {
            int w = what;
            Due.is("sum(" + w + ")", want[w], () -> x.sum(w));
        }
        x.step(3);
        Due.is("STEPS", 4, () -> x.sum(0));
        Due.is("the reach", 3, () -> x.sum(1));
        Due.is("meetings so far", 2, () -> x.sum(6));
        x.back(3);
        Due.is("less those gone back", 1, () -> x.sum(6));
        Due.noArgument("sum(-1)", () -> x.sum(-1));
        Due.noArgument("sum(8)", () -> x.sum(8));
        Due.noArgument("sum(MIN)", () -> x.sum(Integer.MIN_VALUE));
    }

    private static void promise16Left() {
        Eddyhall x = new Eddyhall();
        balanced(x, "new");
        x.wall(40, 0);
        x.wall(60, Eddyhall.NONE);
        for (int i = 0; i < 40; i++) {
            int cell = i * 7 % 96;
            if (cell != 40 && cell != 60) {
                x.particle(cell, i % 4);
                balanced(x, "particle");
            }
        }
        for (int i = 1; i < 30; i++) {
            x.step(i);
            balanced(x, "step");
        }
        x.back(200);
        balanced(x, "back");
        x.ink(3);
        x.open(4, Eddyhall.INLET);
        x.open(90, Eddyhall.OUTLET);
        x.open(50, Eddyhall.OUTLET);
        for (int i = 1; i < 30; i++) {
            x.step(i);
            balanced(x, "step with INLET and OUTLETS");
        }
        x.clear(40);
        x.clear(4);
        balanced(x, "clear");
        Due.is("some are there", 1, () -> x.sum(2) > 0 ? 1 : 0);
    }

    private static void balanced(Eddyhall x, String behind) {
        Due.is("left to the right behind " + behind, 0, () -> x.left(false));
        Due.is("left up behind " + behind, 0, () -> x.left(true));
    }

    private static void promise17Average() {
        Eddyhall x = new Eddyhall();
        x.particle(14, 0);
        x.particle(14, 1);
        x.particle(14, 3);
        x.particle(15, 2);
        x.particle(26, 2);
        x.wall(27, 0);
        Due.is("particles", 166, () -> x.average(false, 0, 1, 2, 2, 2));
        Due.is("to the right, rounded down", -34, () -> x.average(false, 1, 1, 2, 2, 2));
        Due.is("up", 0, () -> x.average(false, 2, 1, 2, 2, 2));
        Due.is("down", -50, () -> pushedDown().average(false, 2, 1, 2, 1, 2));
        Due.is("no CELL but WALLS", 0, () -> x.average(false, 0, 2, 3, 1, 1));
        Due.is("all", 500 / 95, () -> x.average(false, 0, 0, 0, 8, 12));
        x.bring(14, 3, 100000);
        x.bring(15, 0, 7);
        x.bring(14, 2, 3);
        Due.is("counts", 100 * 100010 / 3, () -> x.average(true, 0, 1, 2, 2, 2));
        Due.is("counts to the right", 133, () -> x.average(true, 1, 1, 2, 2, 2));
        Due.is("counts up, rounded down", -3333334, () -> x.average(true, 2, 1, 2, 2, 2));
        Due.is("counts without CELLS", 0, () -> x.average(true, 0, 2, 3, 1, 1));
    }

    private static Eddyhall pushedDown() {
        Eddyhall x = new Eddyhall();
        x.particle(14, 3);
        return x;
    }

    private static void promise18Scatter() {
        Eddyhall x = new Eddyhall();
        x.particle(14, 0);
        x.particle(14, 1);
        x.particle(14, 3);
        x.particle(15, 2);
        x.particle(26, 2);
        x.wall(27, 0);
        Due.is("particles", 100 * (3 * 11 - 25) / 9, () -> x.scatter(false, 0, 1, 2, 2, 2));
        Due.is("to the right", 100 * (3 * 3 - 1) / 9, () -> x.scatter(false, 1, 1, 2, 2, 2));
        Due.is("up", 0, () -> x.scatter(false, 2, 1, 2, 2, 2));
        Due.is("no CELL but WALLS", 0, () -> x.scatter(false, 0, 2, 3, 1, 1));
        Due.is("a CELL alone", 0, () -> x.scatter(false, 0, 1, 2, 1, 1));
        Due.is("rounded down", 17, () -> scattered().scatter(false, 0, 0, 0, 1, 9));
        Eddyhall y = new Eddyhall();
        for (int i = 0; i < 10; i++) {
            y.bring(50, 1, 100000);
        }
        Due.is("large counts", 100L * (96L * 1000000000000L - 1000000000000L) / (96 * 96),
                () -> y.scatter(true, 0, 0, 0, 8, 12));
        Due.is("large counts up", 100L * (96L * 1000000000000L - 1000000000000L) / (96 * 96),
                () -> y.scatter(true, 2, 0, 0, 8, 12));
        Due.is("none to the right", 0, () -> y.scatter(true, 1, 0, 0, 8, 12));
    }

    private static Eddyhall scattered() {
        Eddyhall x = new Eddyhall();
        x.particle(0, 0);
        x.particle(0, 1);
        x.particle(1, 0);
        for (int cell = 2; cell < 9; cell++) {
            x.particle(cell, 0);
        }
        x.particle(3, 2);
        return x;
    }

    private static void promise17And18Windows() {
        Eddyhall x = new Eddyhall();
        x.particle(47, 0);
        x.particle(36, 1);
        x.particle(37, 1);
        x.particle(37, 2);
        x.particle(38, 2);
        Due.is("goes on in the column 0", 100 * 4 / 3, () -> x.average(false, 0, 3, 11, 1, 3));
        Due.is("its scatter", 100 * (3 * 6 - 16) / 9, () -> x.scatter(false, 0, 3, 11, 1, 3));
        Due.is("twelve columns from 5", 100 * 5 / 12, () -> x.average(false, 0, 3, 5, 1, 12));
        Due.is("eight rows", 100 * 1 / 8, () -> x.average(false, 0, 0, 11, 8, 1));
        Due.is("the last row", 0, () -> x.average(false, 0, 7, 11, 1, 12));
        int[][] bad = {
            {-1, 0, 0, 1, 1}, {3, 0, 0, 1, 1}, {0, -1, 0, 1, 1}, {0, 8, 0, 1, 1}, {0, 0, -1, 1, 1},
            {0, 0, 12, 1, 1}, {0, 0, 0, 0, 1}, {0, 0, 0, 9, 1}, {0, 0, 0, 1, 0}, {0, 0, 0, 1, 13},
            {0, 7, 0, 2, 1}, {0, 1, 0, 8, 1}, {0, 4, 0, Integer.MAX_VALUE, 1}, {0, 0, 0, 1, Integer.MIN_VALUE},
            {0, Integer.MIN_VALUE, 0, 1, 1}, {0, Integer.MAX_VALUE, 0, Integer.MAX_VALUE, 1},
        };
        for (int[] b : bad) {
            String text = "(" + b[0] + ", " + b[1] + ", " + b[2] + ", " + b[3] + ", " + b[4] + ")";
            Due.noArgument("average" + text, () -> x.average(false, b[0], b[1], b[2], b[3], b[4]));
            Due.noArgument("scatter" + text, () -> x.scatter(true, b[0], b[1], b[2], b[3], b[4]));
            if (b[0] == 0) {
                Due.noArgument("likeness" + text, () -> x.likeness(b[1], b[2], b[3], b[4]));
            }
        }
    }

    private static void promise19Likeness() {
        Eddyhall x = new Eddyhall();
        Due.is("without particles", 0.0f, () -> x.likeness(0, 0, 8, 12));
        x.wall(1, 0);
        Due.is("without CELLS", 0.0f, () -> x.likeness(0, 1, 1, 1));
        x.particle(0, 0);
        x.particle(2, 0);
        x.particle(2, 1);
        x.particle(14, 0);
        x.particle(12, 2);
        x.particle(13, 3);
        x.particle(13, 0);
        float speed = 3f / 7f;
        float thickness = 7f / 5f;
        float want = speed * 2f;
        want = want * thickness;
        float due = want;
        Due.is("two rows, a WALL", due, () -> x.likeness(0, 0, 2, 3));
        Due.is("to the left", -1f, () -> x.likeness(1, 0, 1, 1));
        Due.is("over the column 11", 1f / 3f * 1f * (3f / 3f), () -> leftRight().likeness(2, 10, 1, 3));
        x.bring(50, 0, 100000);
        Due.is("counts are nothing to it", 0.0f, () -> x.likeness(4, 0, 1, 12));
        Due.is("none more to the right", 0.0f, () -> x.likeness(1, 2, 7, 10) - x.likeness(1, 2, 7, 10));
        floatsAsFloats();
    }

    private static Eddyhall leftRight() {
        Eddyhall x = new Eddyhall();
        x.particle(34, 0);
        x.particle(35, 3);
        x.particle(24, 1);
        return x;
    }

    /** The order of the three, each result a float, shows in the last bits. */
    private static void floatsAsFloats() {
        for (int right = 1; right <= 12; right++) {
            Eddyhall x = new Eddyhall();
            int n = 0;
            for (int i = 0; i < 40; i++) {
                x.particle(i, i < right ? 0 : i % 2 == 0 ? 1 : 3);
                n++;
            }
            for (int i = 0; i < right; i++) {
                x.particle(i, 1);
                n++;
            }
            float c = 84f;
            float speed = (float) right / (float) n;
            float due = speed * 7f;
            float all = due * ((float) n / c);
            Due.is("right " + right, all, () -> x.likeness(0, 3, 7, 12));
        }
    }

    private static Eddyhall mill() {
        Eddyhall x = new Eddyhall();
        for (int i = 0; i < 14; i++) {
            x.wall((i * 17 + 5) % 96, i % 5 - 1);
        }
        x.open(48, Eddyhall.INLET);
        x.open(59, Eddyhall.OUTLET);
        x.open(1, Eddyhall.INLET);
        for (int i = 0; i < 90; i++) {
            int cell = (i * 31 + i * i * 3) % 96;
            int way = (i + i / 5) % 4;
            if (x.cellOf(cell, 0) != Eddyhall.WALL && (x.cellOf(cell, 2) >> way & 1) == 0) {
                x.particle(cell, way);
            }
        }
        return x;
    }

    private static void promise20And21Ahead() {
        Eddyhall x = new Eddyhall();
        x.particle(38, 0);
        x.particle(42, 2);
        x.wall(16, 0);
        int[] above = {0, 0, 0, 2, 8, 0};
        for (int steps = 0; steps <= 5; steps++) {
            int s = steps;
            Due.is("ahead(28, " + s + ")", above[s], () -> x.ahead(28, s));
            Due.is("aheadAnew(28, " + s + ")", above[s], () -> x.aheadAnew(28, s));
            Due.is("ahead of a WALL", 0, () -> x.ahead(16, s));
            Due.is("aheadAnew of a WALL", 0, () -> x.aheadAnew(16, s));
        }
        Due.is("nothing has happened", 1, () -> x.cellOf(38, 2));
        Due.is("no STEPS", 0, () -> x.sum(0));
        Due.is("no hits", 0, () -> x.bodyOf(0, 1));
        Due.noIndex("ahead(-1, 6)", () -> x.ahead(-1, 6));
        Due.noIndex("ahead(96, 0)", () -> x.ahead(96, 0));
        Due.noArgument("ahead(0, -1)", () -> x.ahead(0, -1));
        Due.noArgument("ahead(95, 6)", () -> x.ahead(95, 6));
        Due.noIndex("aheadAnew(-1, 6)", () -> x.aheadAnew(-1, 6));
        Due.noIndex("aheadAnew(96, 0)", () -> x.aheadAnew(96, 0));
        Due.noArgument("aheadAnew(0, -1)", () -> x.aheadAnew(0, -1));
        Due.noArgument("aheadAnew(95, 6)", () -> x.aheadAnew(95, 6));
        x.probe(28);
        x.step(3);
        x.ahead(28, 5);
        Due.is("it came so", 2, () -> x.cellOf(28, 2));
        Due.is("and the probe knows of the real STEPS alone", 1, () -> x.record(0, 0));
        Due.is("the reach stays", 3, () -> x.sum(1));
    }

    private static void promise20And21Everywhere() {
        for (int steps = 0; steps <= 5; steps++) {
            Eddyhall x = mill();
            Eddyhall y = mill();
            if (steps > 0) {
                y.step(steps);
            }
            int s = steps;
            for (int cell = 0; cell < 96; cell++) {
                int c = cell;
                int want = y.cellOf(c, 2);
                Due.is("ahead(" + c + ", " + s + ")", want, () -> x.ahead(c, s));
                Due.is("aheadAnew(" + c + ", " + s + ")", want, () -> x.aheadAnew(c, s));
            }
            Due.is("still no STEPS", 0, () -> x.sum(0));
        }
    }

    private static void dye(Eddyhall x, int... cells) {
        for (int cell : cells) {
            x.particle(cell, 0);
            x.ink(cell);
        }
    }

    private static void plain(Eddyhall x, int... cells) {
        for (int cell : cells) {
            x.particle(cell, 1);
        }
    }

    private static void promise22Pairs() {
        Eddyhall x = new Eddyhall();
        Due.is("none", 0, () -> x.mixed(0));
        dye(x, 40);
        Due.is("without plain ones", 0, () -> x.mixed(0));
        plain(x, 41, 39, 28, 52);
        Due.is("all around", 4, () -> x.mixed(0));
        plain(x, 40);
        Due.is("itself mixed", 0, () -> x.mixed(0));
        x.ink(40);
        x.ink(52);
        Due.is("one more dyed", 3, () -> x.mixed(0));
        x.particle(28, 0);
        x.ink(28);
        x.particle(28, 3);
        Due.is("one more mixed", 2, () -> x.mixed(0));
        Eddyhall y = new Eddyhall();
        dye(y, 0, 95);
        plain(y, 11, 84);
        Due.is("the ring", 2, () -> y.mixed(0));
        plain(y, 12);
        Due.is("below", 3, () -> y.mixed(0));
        dye(y, 23);
        Due.is("above, and the ring", 5, () -> y.mixed(0));
        Due.noArgument("mixed(-1)", () -> y.mixed(-1));
        Due.noArgument("mixed(2)", () -> y.mixed(2));
    }

    private static void promise22Blocks() {
        Eddyhall x = new Eddyhall();
        Due.is("none", 0, () -> x.mixed(1));
        dye(x, 0, 1, 13);
        Due.is("all in a block", 0, () -> x.mixed(1));
        plain(x, 12);
        Due.is("still all in a block", 0, () -> x.mixed(1));
        plain(x, 2);
        // The block 0: 3 x 5 less 3 x 4; the block 1: 0 less 3 x 1.
        Due.is("one in the next block", 6, () -> x.mixed(1));
        dye(x, 95, 94);
        // 7 in all, 5 dyed: 3 x 7 - 5 x 4; 0 - 5; 2 x 7 - 5 x 2.
        Due.is("the last block", 10, () -> x.mixed(1));
        plain(x, 24);
        // 8 in all: 24 - 20; 5; 16 - 10; 5.
        Due.is("rows begin with even ones", 20, () -> x.mixed(1));
    }

    private static Eddyhall bouncing() {
        Eddyhall x = new Eddyhall();
        x.probe(12);
        x.particle(0, 1);
        x.wall(24, 0);
        return x;
    }

    private static void promise23Record() {
        Eddyhall x = bouncing();
        x.step(6);
        // At 0 going down, at 12 down, at 12 up, at 0 up, at 0 down, at 12 down.
        int[] want = {0, -1, 1, 0, 0, -1};
        for (int ago = 0; ago < 6; ago++) {
            int a = ago;
            Due.is("record(0, " + a + ")", want[5 - a], () -> x.record(0, a));
        }
        Due.noIndex("too old", () -> x.record(0, 6));
        Due.noIndex("record(0, -1)", () -> x.record(0, -1));
        Due.noIndex("record(-1, 0)", () -> x.record(-1, 0));
        Due.noIndex("record(1, 0)", () -> x.record(1, 0));
        Due.noIndex("record(4, 0)", () -> x.record(4, 0));
        Due.noIndex("record(0, MAX)", () -> x.record(0, Integer.MAX_VALUE));
        Due.noIndex("record(0, MIN)", () -> x.record(0, Integer.MIN_VALUE));
        x.probe(12);
        x.step(1);
        Due.is("both probes", 1, () -> x.record(1, 0));
        Due.is("the first one too", 1, () -> x.record(0, 0));
        Due.noIndex("the new one has one record", () -> x.record(1, 1));
        x.back(1);
        Due.is("the latest is lost", -1, () -> x.record(0, 0));
        Due.noIndex("of the new one too", () -> x.record(1, 0));
    }

    private static void promise24Beat() {
        Eddyhall x = bouncing();
        Due.is("no records", 0, () -> x.beat(0));
        int[] want = {0, 0, 1, 1, 1, 2, 3, 3, 3, 4};
        for (int i = 0; i < 10; i++) {
            x.step(1);
            Due.is("beat behind " + (i + 1), want[i], () -> x.beat(0));
        }
        x.back(5);
        Due.is("behind going back", 1, () -> x.beat(0));
        Due.noIndex("beat(-1)", () -> x.beat(-1));
        Due.noIndex("beat(1)", () -> x.beat(1));
        Due.noIndex("beat(4)", () -> x.beat(4));
        x.probe(0);
        x.step(2);
        Due.is("a probe of its own records", 0, () -> x.beat(1));
        Due.is("the first one goes on", 3, () -> x.beat(0));
    }

    private static void promise25Better() {
        Eddyhall x = new Eddyhall();
        x.wall(40, 1);
        x.wall(64, 1);
        x.particle(39, 0);
        x.particle(62, 0);
        x.particle(65, 2);
        Due.is("in one STEP", 40, () -> x.better(1, 1));
        // 64 is pushed once to the left and once to the right, 40 to the right alone.
        Due.is("in five", 40, () -> x.better(1, 5));
        Due.is("another BODY", Eddyhall.NONE, () -> x.better(0, 5));
        Due.is("nothing has changed: the CELL", Eddyhall.WALL, () -> x.cellOf(40, 0));
        Due.is("nothing has changed: the BODY", 2, () -> x.bodyOf(1, 0));
        Due.is("nothing has changed: the hits", 0, () -> x.bodyOf(1, 1));
        Due.is("nothing has changed: the STEPS", 0, () -> x.sum(0));
        Eddyhall y = new Eddyhall();
        y.wall(40, 0);
        y.particle(41, 2);
        Due.is("only pushed to the left", Eddyhall.NONE, () -> y.better(0, 1));
        y.wall(30, 0);
        Due.is("as good as it is, but no better", Eddyhall.NONE, () -> y.better(0, 1));
        Eddyhall z = new Eddyhall();
        z.wall(40, 0);
        z.wall(41, 0);
        z.particle(39, 0);
        Due.is("the one behind it would be hit instead", 40, () -> z.better(0, 1));
        Due.is("later as much, so no better", Eddyhall.NONE, () -> z.better(0, 2));
    }

    private static void promise25Ties() {
        Eddyhall x = new Eddyhall();
        x.wall(62, 3);
        x.wall(21, 3);
        x.wall(80, 3);
        x.particle(61, 0);
        x.particle(20, 0);
        Due.is("the lowest one of two", 21, () -> x.better(3, 1));
        x.step(1);
        Due.is("pushes so far do not matter", Eddyhall.NONE, () -> x.better(3, 1));
        Eddyhall y = new Eddyhall();
        y.wall(66, 3);
        y.wall(21, 3);
        y.particle(65, 0);
        y.particle(63, 0);
        y.particle(20, 0);
        Due.is("in three", 66, () -> y.better(3, 3));
        Due.is("in one the lowest", 21, () -> y.better(3, 1));
        Eddyhall z = new Eddyhall();
        z.wall(40, 0);
        z.wall(43, 0);
        z.particle(39, 0);
        // Without 40 it would hit 43 later: 2 to the right as well, but not in 3 STEPS.
        Due.is("in three none but 40", 40, () -> z.better(0, 3));
        Due.is("in four no better", Eddyhall.NONE, () -> z.better(0, 4));
    }

    private static void promise25Range() {
        Eddyhall x = new Eddyhall();
        Due.is("a BODY without CELLS", Eddyhall.NONE, () -> x.better(3, 10));
        Due.is("the same", Eddyhall.NONE, () -> x.better(0, 1));
        Due.noIndex("better(-1, 1)", () -> x.better(-1, 1));
        Due.noIndex("better(4, 0)", () -> x.better(4, 0));
        Due.noArgument("better(0, 0)", () -> x.better(0, 0));
        Due.noArgument("better(3, 11)", () -> x.better(3, 11));
        Due.noArgument("better(3, MIN)", () -> x.better(3, Integer.MIN_VALUE));
        x.open(36, Eddyhall.INLET);
        x.wall(40, 2);
        x.wall(41, 2);
        // From the INLET they come in a row: 40 is hit in the STEPS 5, 7 and 9, otherwise 41 in 6, 8 and 10.
        Due.is("particles that come in later", 40, () -> x.better(2, 9));
        Due.is("as many hits a STEP later", Eddyhall.NONE, () -> x.better(2, 10));
        Eddyhall y = new Eddyhall();
        y.wall(0, 0);
        y.wall(95, 1);
        y.particle(11, 0);
        y.particle(94, 0);
        Due.is("the first CELL", 0, () -> y.better(0, 1));
        Due.is("the last CELL", 95, () -> y.better(1, 1));
    }
}

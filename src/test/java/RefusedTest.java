/** Every call that is refused: what it throws, which of several exceptions, and that nothing has changed behind it. */
public final class RefusedTest {
    private static final int NONE = Eddyhall.NONE;
    private static final int INLET = Eddyhall.INLET;
    private static final int OUTLET = Eddyhall.OUTLET;
    private static final int MIN = Integer.MIN_VALUE;
    private static final int MAX = Integer.MAX_VALUE;

    private static final int[] NO_CELL = {-1, 96, -2, 97, MIN, MAX};
    private static final int[] NO_BODY = {-1, 4, -2, 5, MIN, MAX};
    private static final int[] NO_BODY_NOR_NONE = {-2, 4, 5, MIN, MAX};
    private static final int[] NO_WAY = {-1, 4, MIN, MAX};

    private interface Act {
        void on(Eddyhall x);
    }

    private static Seen.Tale tale;
    private static String before;

    public static void main(String[] args) {
        everywhere(x -> { });
        everywhere(RefusedTest::closed);
        everywhere(RefusedTest::opened);
        fresh();
        ofClosed();
        ofOpened();
        late();
        nearlyLate();
        filled();
        fullBodies();
        Due.end();
    }

    private static void from(Seen.Tale begun) {
        tale = begun;
        before = Seen.all(begun);
    }

    private static void index(String call, Act act) {
        refused(call, IndexOutOfBoundsException.class, act);
    }

    private static void argument(String call, Act act) {
        refused(call, IllegalArgumentException.class, act);
    }

    private static void state(String call, Act act) {
        refused(call, IllegalStateException.class, act);
    }

    private static void refused(String call, Class<?> want, Act act) {
        Eddyhall x = new Eddyhall();
        tale.tell(x);
        Due.fails(call, want, () -> act.on(x));
        String behind = Seen.all(y -> {
            tale.tell(y);
            try {
                act.on(y);
            } catch (RuntimeException e) {
                Due.look();
            }
        });
        if (!behind.equals(before)) {
            Due.tell("behind " + call + ": " + Seen.parting(before, behind));
        }
    }

    // ---- the states

    /** No INLETS and OUTLETS, a BODY with 12 CELLS, 4 probes, a reach of 7. */
    private static void closed(Eddyhall x) {
        grounds(x);
        for (int i = 0; i < 4; i++) {
            x.probe(new int[] {0, 40, 40, 95}[i]);
        }
        x.step(7);
        x.flow(1);
    }

    /** The same with INLETS, OUTLETS and one probe, so without a reach. */
    private static void opened(Eddyhall x) {
        grounds(x);
        x.open(48, INLET);
        x.open(59, OUTLET);
        x.open(1, OUTLET);
        x.probe(49);
        x.step(4);
    }

    private static void grounds(Eddyhall x) {
        for (int cell : new int[] {13, 15, 17, 19, 37, 39, 41, 43, 61, 63, 65, 67}) {
            x.wall(cell, 1);
        }
        x.wall(50, 0);
        x.wall(77, 3);
        x.wall(90, NONE);
        for (int i = 0; i < 36; i++) {
            int cell = i * 8 / 3;
            if (x.cellOf(cell, 0) == Eddyhall.FREE) {
                x.particle(cell, i % 4);
            }
        }
        x.ink(0);
        x.ink(18);
        x.ink(94);
        x.fault(1, -3);
        x.fault(3, 5);
        x.bring(2, 0, 90);
        x.bring(2, 1, 3);
        x.bring(95, 3, 100000);
    }

    // ---- what is refused whatever there is

    private static void everywhere(Seen.Tale begun) {
        from(begun);
        noCell();
        noBody();
        noArgumentOfTheTold();
        noArgumentOfPassing();
        noArgumentOfLooks();
        noWindow();
        noProbe();
        severalAtOnce();
    }

    private static void noCell() {
        for (int c : NO_CELL) {
            String in = "(" + c + ", ..)";
            index("wall" + in, x -> x.wall(c, 0));
            index("wall NONE" + in, x -> x.wall(c, NONE));
            index("clear" + in, x -> x.clear(c));
            index("open" + in, x -> x.open(c, INLET));
            index("particle" + in, x -> x.particle(c, 0));
            index("ink" + in, x -> x.ink(c));
            index("probe" + in, x -> x.probe(c));
            index("bring" + in, x -> x.bring(c, 0, 1));
            index("cellOf" + in, x -> x.cellOf(c, 0));
            index("ahead" + in, x -> x.ahead(c, 1));
            index("ahead 0" + in, x -> x.ahead(c, 0));
            index("aheadAnew" + in, x -> x.aheadAnew(c, 1));
            index("aheadAnew 0" + in, x -> x.aheadAnew(c, 0));
        }
    }

    private static void noBody() {
        for (int b : NO_BODY_NOR_NONE) {
            index("wall(44, " + b + ")", x -> x.wall(44, b));
        }
        for (int b : NO_BODY) {
            index("fault(" + b + ", 0)", x -> x.fault(b, 0));
            index("bodyOf(" + b + ", 0)", x -> x.bodyOf(b, 0));
            index("better(" + b + ", 1)", x -> x.better(b, 1));
        }
    }

    private static void noArgumentOfTheTold() {
        for (int kind : new int[] {-1, Eddyhall.FREE, Eddyhall.WALL, 4, MIN, MAX}) {
            argument("open(44, " + kind + ")", x -> x.open(44, kind));
        }
        for (int way : NO_WAY) {
            argument("particle(44, " + way + ")", x -> x.particle(44, way));
            argument("bring(44, " + way + ", 1)", x -> x.bring(44, way, 1));
        }
        for (int fault : new int[] {-6, 6, MIN, MAX}) {
            argument("fault(1, " + fault + ")", x -> x.fault(1, fault));
        }
        for (int many : new int[] {0, -1, 100001, MIN, MAX}) {
            argument("bring(44, 0, " + many + ")", x -> x.bring(44, 0, many));
        }
    }

    private static void noArgumentOfPassing() {
        for (int steps : new int[] {0, -1, 201, MIN, MAX}) {
            argument("step(" + steps + ")", x -> x.step(steps));
            argument("back(" + steps + ")", x -> x.back(steps));
        }
        for (int rounds : new int[] {0, -1, 101, MIN, MAX}) {
            argument("flow(" + rounds + ")", x -> x.flow(rounds));
        }
    }

    private static void noArgumentOfLooks() {
        for (int what : new int[] {-1, 8, MIN, MAX}) {
            argument("cellOf(0, " + what + ")", x -> x.cellOf(0, what));
            argument("cellOf(13, " + what + ")", x -> x.cellOf(13, what));
            argument("sum(" + what + ")", x -> x.sum(what));
        }
        for (int what : new int[] {-1, 6, MIN, MAX}) {
            argument("bodyOf(1, " + what + ")", x -> x.bodyOf(1, what));
        }
        for (int steps : new int[] {-1, 6, MIN, MAX}) {
            argument("ahead(0, " + steps + ")", x -> x.ahead(0, steps));
            argument("aheadAnew(0, " + steps + ")", x -> x.aheadAnew(0, steps));
            argument("ahead(13, " + steps + ")", x -> x.ahead(13, steps));
            argument("aheadAnew(13, " + steps + ")", x -> x.aheadAnew(13, steps));
        }
        for (int what : new int[] {-1, 2, MIN, MAX}) {
            argument("mixed(" + what + ")", x -> x.mixed(what));
        }
        for (int steps : new int[] {0, -1, 11, MIN, MAX}) {
            argument("better(1, " + steps + ")", x -> x.better(1, steps));
        }
    }

    private static void noWindow() {
        for (int what : new int[] {-1, 3, MIN, MAX}) {
            window("what " + what, what, 0, 0, 1, 1);
        }
        for (int top : new int[] {-1, 8, MIN, MAX}) {
            window("top " + top, 0, top, 0, 1, 1);
        }
        for (int left : new int[] {-1, 12, MIN, MAX}) {
            window("left " + left, 0, 0, left, 1, 1);
        }
        for (int rows : new int[] {0, -1, 9, MIN, MAX}) {
            window("rows " + rows, 0, 0, 0, rows, 1);
        }
        for (int columns : new int[] {0, -1, 13, MIN, MAX}) {
            window("columns " + columns, 0, 0, 0, 1, columns);
        }
        for (int top = 1; top < 8; top++) {
            window("over the RIM from " + top, 0, top, 11, 9 - top, 1);
            window("far over the RIM from " + top, 0, top, 0, 8, 12);
        }
    }

    private static void window(String text, int what, int top, int left, int rows, int columns) {
        argument("average: " + text, x -> x.average(false, what, top, left, rows, columns));
        argument("average of counts: " + text, x -> x.average(true, what, top, left, rows, columns));
        argument("scatter: " + text, x -> x.scatter(false, what, top, left, rows, columns));
        argument("scatter of counts: " + text, x -> x.scatter(true, what, top, left, rows, columns));
        if (what == 0) {
            argument("likeness: " + text, x -> x.likeness(top, left, rows, columns));
        }
    }

    private static void noProbe() {
        for (int probe : new int[] {-1, 4, MIN, MAX}) {
            index("record(" + probe + ", 0)", x -> x.record(probe, 0));
            index("beat(" + probe + ")", x -> x.beat(probe));
        }
        for (int ago : new int[] {-1, 7, 5000, MIN, MAX}) {
            index("record(0, " + ago + ")", x -> x.record(0, ago));
        }
    }

    /** The exception that is listed first is thrown. */
    private static void severalAtOnce() {
        index("wall: no CELL, no BODY", x -> x.wall(96, 4));
        index("open: no CELL, no kind", x -> x.open(-1, 1));
        index("particle: no CELL, no WAY", x -> x.particle(96, 4));
        index("fault: no BODY, no fault", x -> x.fault(4, 6));
        index("bring: no CELL, no WAY", x -> x.bring(-1, 4, 1));
        index("bring: no CELL, not so many", x -> x.bring(96, 0, 0));
        index("bring: nothing is right", x -> x.bring(96, -1, 100001));
        index("cellOf: no CELL, no question", x -> x.cellOf(96, 8));
        index("bodyOf: no BODY, no question", x -> x.bodyOf(-1, 6));
        index("ahead: no CELL, not so many", x -> x.ahead(96, 6));
        index("aheadAnew: no CELL, not so many", x -> x.aheadAnew(-1, -1));
        index("better: no BODY, not so many", x -> x.better(4, 0));
        index("record: no probe, no record", x -> x.record(4, -1));
    }

    // ---- what is refused as it stands

    private static void fresh() {
        from(x -> { });
        state("back(1) at once", x -> x.back(1));
        state("back(200) at once", x -> x.back(200));
        index("record ahead of all probes", x -> x.record(0, 0));
        index("beat ahead of all probes", x -> x.beat(0));
        from(x -> x.probe(7));
        index("no record yet", x -> x.record(0, 0));
        index("the next probe's record", x -> x.record(1, 0));
        index("the next probe's beat", x -> x.beat(1));
    }

    private static void ofClosed() {
        from(RefusedTest::closed);
        for (int cell : new int[] {13, 50, 77, 90}) {
            notIntoWall(cell);
        }
        for (int cell : new int[] {0, 40, 95}) {
            for (int body = NONE; body < 4; body++) {
                int b = body;
                state("wall where a probe is, " + cell + ", " + b, x -> x.wall(cell, b));
            }
        }
        int empty = emptyCell();
        state("a WALL of a full BODY", x -> x.wall(empty, 1));
        state("a fifth probe", x -> x.probe(44));
        state("a fifth probe beside others", x -> x.probe(40));
        state("back(8) with the reach 7", x -> x.back(8));
        state("back(200) with the reach 7", x -> x.back(200));
        index("record(3, 7) of 7", x -> x.record(3, 7));
        index("wall: a WALL, but no such BODY", x -> x.wall(13, 4));
        index("wall: a probe there, but no such BODY", x -> x.wall(40, -2));
        index("probe: all are set, but no such CELL", x -> x.probe(96));
        argument("step out of range", x -> x.step(201));
        argument("back out of range, beyond the reach", x -> x.back(201));
    }

    /** A CELL that could be a WALL, were it not for the BODY. */
    private static int emptyCell() {
        Eddyhall x = new Eddyhall();
        closed(x);
        for (int cell = 51; cell < 60; cell++) {
            try {
                x.wall(cell, 0);
                return cell;
            } catch (IllegalStateException e) {
                Due.look();
            }
        }
        Due.tell("no CELL is empty");
        return NONE;
    }

    private static void notIntoWall(int cell) {
        for (int body = NONE; body < 4; body++) {
            int b = body;
            state("wall(" + cell + ", " + b + ") of a WALL", x -> x.wall(cell, b));
        }
        state("open a WALL as an INLET, " + cell, x -> x.open(cell, INLET));
        state("open a WALL as an OUTLET, " + cell, x -> x.open(cell, OUTLET));
        state("a probe into a WALL, " + cell, x -> x.probe(cell));
        for (int way = 0; way < 4; way++) {
            int w = way;
            state("particle(" + cell + ", " + w + ") into a WALL", x -> x.particle(cell, w));
            state("bring(" + cell + ", " + w + ", 1) into a WALL", x -> x.bring(cell, w, 1));
        }
        argument("open a WALL as what there is not, " + cell, x -> x.open(cell, 4));
        argument("open a WALL as a WALL, " + cell, x -> x.open(cell, Eddyhall.WALL));
        argument("particle: a WALL, and no such WAY, " + cell, x -> x.particle(cell, 4));
        argument("bring: a WALL, and no such WAY, " + cell, x -> x.bring(cell, -1, 1));
        argument("bring: a WALL, and not so many, " + cell, x -> x.bring(cell, 0, 100001));
    }

    private static void ofOpened() {
        from(RefusedTest::opened);
        for (int cell : new int[] {48, 59, 1}) {
            state("a WALL for an INLET or OUTLET, " + cell, x -> x.wall(cell, 0));
            state("a WALL of no BODY for an INLET or OUTLET, " + cell, x -> x.wall(cell, NONE));
            state("an INLET for an INLET or OUTLET, " + cell, x -> x.open(cell, INLET));
            state("an OUTLET for an INLET or OUTLET, " + cell, x -> x.open(cell, OUTLET));
            argument("a kind that there is not, " + cell, x -> x.open(cell, 0));
        }
        state("a particle of that WAY in an INLET", x -> x.particle(48, 0));
        state("without a reach", x -> x.back(1));
        index("record(0, 4) of 4", x -> x.record(0, 4));
        index("a probe that is not set", x -> x.record(1, 0));
        index("its beat", x -> x.beat(1));
        for (int way = 0; way < 4; way++) {
            int w = way;
            from(x -> x.particle(95, w));
            state("a second one of the WAY " + w, x -> x.particle(95, w));
            state("a WALL where a particle is, " + w, x -> x.wall(95, NONE));
            state("a WALL of a BODY where a particle is, " + w, x -> x.wall(95, 3));
            from(x -> x.bring(0, w, 1));
            state("a WALL where one count is, " + w, x -> x.wall(0, NONE));
            state("a WALL of a BODY where one count is, " + w, x -> x.wall(0, 0));
        }
    }

    private static void late() {
        from(x -> {
            x.particle(5, 3);
            x.wall(95, 2);
            x.probe(5);
            for (int i = 0; i < 25; i++) {
                x.step(200);
            }
        });
        state("step(1) behind 5000", x -> x.step(1));
        state("step(200) behind 5000", x -> x.step(200));
        argument("step(0) behind 5000", x -> x.step(0));
        argument("step(201) behind 5000", x -> x.step(201));
        argument("step(MAX) behind 5000", x -> x.step(MAX));
        argument("back(201) with the reach 5000", x -> x.back(201));
        index("record(0, 5000)", x -> x.record(0, 5000));
    }

    private static void nearlyLate() {
        from(x -> {
            x.particle(5, 3);
            for (int i = 0; i < 24; i++) {
                x.step(200);
            }
            x.step(101);
        });
        state("step(100) behind 4901", x -> x.step(100));
        state("step(200) behind 4901", x -> x.step(200));
        from(x -> {
            x.particle(5, 3);
            x.step(199);
        });
        state("back(200) with the reach 199", x -> x.back(200));
        from(x -> {
            x.particle(5, 3);
            x.step(2);
            x.ink(5);
            x.step(1);
        });
        state("back(2) with the reach 1", x -> x.back(2));
    }

    private static void filled() {
        from(x -> {
            for (int i = 0; i < 9; i++) {
                x.bring(9, 1, 100000);
            }
            x.bring(95, 3, 50000);
            x.wall(50, NONE);
        });
        state("one more than 1000000", x -> x.bring(95, 3, 50001));
        state("one more than 1000000, elsewhere", x -> x.bring(0, 0, 50001));
        state("50000 more than 1000000", x -> x.bring(0, 0, 100000));
        from(x -> {
            for (int i = 0; i < 10; i++) {
                x.bring(9, 1, 100000);
            }
            x.wall(50, NONE);
        });
        state("1 behind 1000000", x -> x.bring(9, 1, 1));
        state("100000 behind 1000000", x -> x.bring(50, 1, 100000));
        argument("100001 behind 1000000", x -> x.bring(9, 1, 100001));
        argument("0 behind 1000000", x -> x.bring(9, 1, 0));
        argument("no WAY behind 1000000", x -> x.bring(9, 4, 1));
        index("no CELL behind 1000000", x -> x.bring(96, 1, 1));
    }

    private static void fullBodies() {
        for (int body = 0; body < 4; body++) {
            int b = body;
            from(x -> {
                for (int i = 0; i < 12; i++) {
                    x.wall(8 * i + 7, b);
                }
            });
            state("a 13th CELL of the BODY " + b, x -> x.wall(0, b));
            state("one that it has, of the BODY " + b, x -> x.wall(7, b));
            index("a 13th one that there is not, of the BODY " + b, x -> x.wall(96, b));
        }
    }
}

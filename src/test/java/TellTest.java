/** Promises 1 to 9: a new object, and what is told. */
public final class TellTest {
    public static void main(String[] args) {
        promise1AllFree();
        promise1NothingElse();
        promise2Wall();
        promise2WallRefused();
        promise2FullBody();
        promise3Clear();
        promise4Open();
        promise5Particle();
        promise6Ink();
        promise7Probe();
        promise8Fault();
        promise9Bring();
        promise9MostCounts();
        reachAfterTelling();
        Due.end();
    }

    private static void promise1AllFree() {
        Eddyhall x = new Eddyhall();
        for (int cell = 0; cell < 96; cell++) {
            int c = cell;
            Due.is("new: kind of " + c, Eddyhall.FREE, () -> x.cellOf(c, 0));
            Due.is("new: BODY of " + c, Eddyhall.NONE, () -> x.cellOf(c, 1));
            Due.is("new: particles of " + c, 0, () -> x.cellOf(c, 2));
            Due.is("new: a count of " + c, 0, () -> x.cellOf(c, 4 + c % 4));
        }
    }

    private static void promise1NothingElse() {
        Eddyhall x = new Eddyhall();
        for (int what = 0; what < 8; what++) {
            int w = what;
            Due.is("new: sum(" + w + ")", 0, () -> x.sum(w));
        }
        for (int i = 0; i < 24; i++) {
            int k = i;
            Due.is("new: bodyOf(" + k / 6 + ", " + k % 6 + ")", 0, () -> x.bodyOf(k / 6, k % 6));
        }
        Due.is("new: rounds", 1, () -> x.flow(1));
        Due.noIndex("new: no probe", () -> x.beat(0));
        Due.is("new: fault", 0, () -> x.fault(3, 0));
        // Two objects have nothing in common.
        Eddyhall y = new Eddyhall();
        y.particle(0, 0);
        y.wall(1, 0);
        Due.is("another one's particle", 0, () -> x.sum(2));
        Due.is("another one's WALL", 0, () -> x.bodyOf(0, 0));
    }

    private static void promise2Wall() {
        Eddyhall x = new Eddyhall();
        Due.passes("wall(0, NONE)", () -> x.wall(0, Eddyhall.NONE));
        Due.passes("wall(95, 3)", () -> x.wall(95, 3));
        Due.passes("wall(50, 0)", () -> x.wall(50, 0));
        Due.is("WALL without BODY", Eddyhall.WALL, () -> x.cellOf(0, 0));
        Due.is("its BODY", Eddyhall.NONE, () -> x.cellOf(0, 1));
        Due.is("WALL of BODY 3", 3, () -> x.cellOf(95, 1));
        Due.is("WALL of BODY 0", 0, () -> x.cellOf(50, 1));
        Due.is("CELLS of BODY 3", 1, () -> x.bodyOf(3, 0));
        Due.is("CELLS of BODY 0", 1, () -> x.bodyOf(0, 0));
        Due.is("CELLS of BODY 1", 0, () -> x.bodyOf(1, 0));
    }

    private static void promise2WallRefused() {
        Eddyhall x = new Eddyhall();
        for (int bad : new int[] {-1, 96, Integer.MIN_VALUE, Integer.MAX_VALUE}) {
            Due.noIndex("wall(" + bad + ", 0)", () -> x.wall(bad, 0));
        }
        for (int bad : new int[] {-2, 4, Integer.MIN_VALUE, Integer.MAX_VALUE}) {
            Due.noIndex("wall(0, " + bad + ")", () -> x.wall(0, bad));
        }
        x.wall(1, 2);
        x.open(2, Eddyhall.INLET);
        x.open(3, Eddyhall.OUTLET);
        x.particle(4, 3);
        x.probe(5);
        x.bring(6, 3, 1);
        x.bring(7, 0, 1);
        for (int cell = 1; cell < 8; cell++) {
            int c = cell;
            Due.noState("wall(" + c + ", 0)", () -> x.wall(c, 0));
            Due.noState("wall(" + c + ", NONE)", () -> x.wall(c, Eddyhall.NONE));
        }
        Due.noIndex("the BODY is looked at ahead of the state", () -> x.wall(1, 4));
        Due.is("WALL keeps its BODY", 2, () -> x.cellOf(1, 1));
        Due.is("BODY 0 has got nothing", 0, () -> x.bodyOf(0, 0));
        Due.is("INLET stays", Eddyhall.INLET, () -> x.cellOf(2, 0));
        x.flow(1);
        Due.passes("counts have gone", () -> x.wall(7, 0));
    }

    private static void promise2FullBody() {
        Eddyhall x = new Eddyhall();
        for (int cell = 0; cell < 12; cell++) {
            int c = cell;
            Due.passes("wall " + c + " of BODY 1", () -> x.wall(c, 1));
        }
        Due.noState("13th CELL", () -> x.wall(12, 1));
        Due.is("it is not a WALL", Eddyhall.FREE, () -> x.cellOf(12, 0));
        Due.passes("another BODY", () -> x.wall(12, 2));
        for (int cell = 13; cell < 30; cell++) {
            int c = cell;
            Due.passes("WALLS of no BODY have no limit", () -> x.wall(c, Eddyhall.NONE));
        }
        x.clear(5);
        Due.passes("room again", () -> x.wall(40, 1));
        Due.noState("full again", () -> x.wall(5, 1));
        Due.is("CELLS", 12, () -> x.bodyOf(1, 0));
    }

    private static void promise3Clear() {
        Eddyhall x = new Eddyhall();
        Due.is("clear FREE", Eddyhall.FREE, () -> x.clear(0));
        x.wall(95, 1);
        Due.is("clear WALL", Eddyhall.WALL, () -> x.clear(95));
        Due.is("it is FREE", Eddyhall.FREE, () -> x.cellOf(95, 0));
        Due.is("it has no BODY", Eddyhall.NONE, () -> x.cellOf(95, 1));
        Due.is("the BODY has it no more", 0, () -> x.bodyOf(1, 0));
        x.open(7, Eddyhall.INLET);
        x.particle(7, 1);
        x.ink(7);
        x.bring(7, 2, 9);
        Due.is("clear INLET", Eddyhall.INLET, () -> x.clear(7));
        Due.is("particles stay", 2, () -> x.cellOf(7, 2));
        Due.is("dyed", 2, () -> x.cellOf(7, 3));
        Due.is("counts stay", 9, () -> x.cellOf(7, 6));
        x.open(8, Eddyhall.OUTLET);
        Due.is("clear OUTLET", Eddyhall.OUTLET, () -> x.clear(8));
        Due.is("once more", Eddyhall.FREE, () -> x.clear(8));
        Due.noIndex("clear(-1)", () -> x.clear(-1));
        Due.noIndex("clear(96)", () -> x.clear(96));
        x.wall(13, 0);
        x.particle(12, 0);
        x.step(1);
        x.clear(13);
        Due.is("hits of a BODY stay", 1, () -> x.bodyOf(0, 1));
        Due.is("pushes of a BODY stay", 2, () -> x.bodyOf(0, 2));
    }

    private static void promise4Open() {
        Eddyhall x = new Eddyhall();
        x.particle(0, 0);
        x.bring(0, 0, 5);
        x.probe(0);
        Due.passes("open what has particles, counts and a probe", () -> x.open(0, Eddyhall.INLET));
        Due.is("INLET", Eddyhall.INLET, () -> x.cellOf(0, 0));
        Due.is("no particle comes at once", 1, () -> x.sum(2));
        Due.passes("open(95, OUTLET)", () -> x.open(95, Eddyhall.OUTLET));
        Due.is("OUTLET", Eddyhall.OUTLET, () -> x.cellOf(95, 0));
        Due.noIndex("open(-1, INLET)", () -> x.open(-1, Eddyhall.INLET));
        Due.noIndex("open(96, 9)", () -> x.open(96, 9));
        for (int bad : new int[] {-1, Eddyhall.FREE, Eddyhall.WALL, 4, Integer.MAX_VALUE}) {
            Due.noArgument("open(1, " + bad + ")", () -> x.open(1, bad));
            Due.noArgument("open(0, " + bad + ")", () -> x.open(0, bad));
        }
        x.wall(2, Eddyhall.NONE);
        for (int cell : new int[] {0, 2, 95}) {
            Due.noState("open(" + cell + ", OUTLET)", () -> x.open(cell, Eddyhall.OUTLET));
        }
        Due.is("still INLET", Eddyhall.INLET, () -> x.cellOf(0, 0));
    }

    private static void promise5Particle() {
        Eddyhall x = new Eddyhall();
        Due.is("particle(0, 3)", 8, () -> x.particle(0, 3));
        Due.is("particle(0, 0)", 9, () -> x.particle(0, 0));
        Due.is("particle(0, 2)", 13, () -> x.particle(0, 2));
        Due.is("particle(0, 1)", 15, () -> x.particle(0, 1));
        Due.is("not dyed", 0, () -> x.cellOf(0, 3));
        Due.noIndex("particle(-1, 9)", () -> x.particle(-1, 9));
        Due.noIndex("particle(96, 0)", () -> x.particle(96, 0));
        Due.noArgument("particle(1, -1)", () -> x.particle(1, -1));
        Due.noArgument("particle(1, 4)", () -> x.particle(1, 4));
        Due.noState("one of that WAY", () -> x.particle(0, 1));
        x.wall(2, Eddyhall.NONE);
        Due.noState("a WALL", () -> x.particle(2, 0));
        Due.noArgument("a WALL, and a bad WAY", () -> x.particle(2, 4));
        x.open(3, Eddyhall.INLET);
        x.open(95, Eddyhall.OUTLET);
        Due.is("into an INLET", 2, () -> x.particle(3, 1));
        Due.is("into an OUTLET", 1, () -> x.particle(95, 0));
        Due.is("particles", 6, () -> x.sum(2));
        x.ink(3);
        Due.is("beside a dyed one", 10, () -> x.particle(3, 3));
        Due.is("only the first one is dyed", 2, () -> x.cellOf(3, 3));
    }

    private static void promise6Ink() {
        Eddyhall x = new Eddyhall();
        x.particle(95, 0);
        x.particle(95, 1);
        Due.is("ink two", 2, () -> x.ink(95));
        Due.is("dyed bits", 3, () -> x.cellOf(95, 3));
        Due.is("ink once more", 0, () -> x.ink(95));
        x.particle(95, 3);
        Due.is("ink the new one", 1, () -> x.ink(95));
        Due.is("all dyed", 11, () -> x.cellOf(95, 3));
        Due.is("particles as before", 11, () -> x.cellOf(95, 2));
        Due.is("ink an empty CELL", 0, () -> x.ink(0));
        x.wall(1, 0);
        Due.is("ink a WALL", 0, () -> x.ink(1));
        x.particle(0, 0);
        Due.is("a later particle is not dyed", 3, () -> x.sum(3));
        Due.noIndex("ink(-1)", () -> x.ink(-1));
        Due.noIndex("ink(96)", () -> x.ink(96));
    }

    private static void promise7Probe() {
        Eddyhall x = new Eddyhall();
        x.wall(1, Eddyhall.NONE);
        Due.noIndex("probe(-1)", () -> x.probe(-1));
        Due.noIndex("probe(96)", () -> x.probe(96));
        Due.noState("probe in a WALL", () -> x.probe(1));
        x.open(95, Eddyhall.OUTLET);
        Due.is("probe in an OUTLET", 0, () -> x.probe(95));
        Due.is("probe(0)", 1, () -> x.probe(0));
        x.particle(0, 3);
        Due.noIndex("no records yet", () -> x.record(1, 0));
        x.step(1);
        Due.is("probe beside the other one", 2, () -> x.probe(0));
        Due.noIndex("no records of an earlier STEP", () -> x.record(2, 0));
        Due.is("but the other one has", 0, () -> x.record(1, 0));
        Due.is("the fourth", 3, () -> x.probe(12));
        Due.noState("a fifth", () -> x.probe(40));
        Due.noIndex("a fifth nowhere", () -> x.probe(96));
        x.clear(0);
        x.clear(95);
        Due.noState("they stay for good", () -> x.probe(0));
        Due.noState("no WALL there", () -> x.wall(95, 0));
        Due.noState("no WALL there either", () -> x.wall(12, 0));
    }

    private static void promise8Fault() {
        Eddyhall x = new Eddyhall();
        Due.is("fault(0, 5)", 0, () -> x.fault(0, 5));
        Due.is("fault(0, -5)", 5, () -> x.fault(0, -5));
        Due.is("fault(0, 0)", -5, () -> x.fault(0, 0));
        Due.is("fault(3, 1)", 0, () -> x.fault(3, 1));
        Due.noArgument("fault(3, 6)", () -> x.fault(3, 6));
        Due.noArgument("fault(3, -6)", () -> x.fault(3, -6));
        Due.noArgument("fault(3, MIN)", () -> x.fault(3, Integer.MIN_VALUE));
        Due.is("it stays", 1, () -> x.fault(3, 1));
        Due.noIndex("fault(-1, 0)", () -> x.fault(-1, 0));
        Due.noIndex("fault(4, 9)", () -> x.fault(4, 9));
    }

    private static void promise9Bring() {
        Eddyhall x = new Eddyhall();
        Due.is("bring(0, 0, 1)", 1, () -> x.bring(0, 0, 1));
        Due.is("bring(0, 0, 4)", 5, () -> x.bring(0, 0, 4));
        Due.is("bring(0, 3, 2)", 2, () -> x.bring(0, 3, 2));
        Due.is("bring(95, 2, 100000)", 100000, () -> x.bring(95, 2, 100000));
        Due.is("all", 100007, () -> x.sum(7));
        Due.noIndex("bring(-1, 4, 0)", () -> x.bring(-1, 4, 0));
        Due.noIndex("bring(96, 0, 1)", () -> x.bring(96, 0, 1));
        Due.noArgument("bring(0, -1, 1)", () -> x.bring(0, -1, 1));
        Due.noArgument("bring(0, 4, 1)", () -> x.bring(0, 4, 1));
        Due.noArgument("bring(0, 0, 0)", () -> x.bring(0, 0, 0));
        Due.noArgument("bring(0, 0, -1)", () -> x.bring(0, 0, -1));
        Due.noArgument("bring(0, 0, 100001)", () -> x.bring(0, 0, 100001));
        Due.noArgument("bring(0, 0, MAX)", () -> x.bring(0, 0, Integer.MAX_VALUE));
        x.wall(1, 0);
        Due.noState("into a WALL", () -> x.bring(1, 0, 1));
        Due.noArgument("into a WALL, of a bad WAY", () -> x.bring(1, 4, 1));
        x.open(2, Eddyhall.INLET);
        Due.is("into an INLET", 3, () -> x.bring(2, 1, 3));
        x.clear(1);
        Due.is("where a WALL was", 1, () -> x.bring(1, 0, 1));
        Due.is("no particles", 0, () -> x.sum(2));
    }

    private static void promise9MostCounts() {
        Eddyhall x = new Eddyhall();
        for (int i = 1; i < 10; i++) {
            int want = i * 100000;
            Due.is("bring " + i, want, () -> x.bring(9, 1, 100000));
        }
        Due.is("bring elsewhere", 99999, () -> x.bring(10, 1, 99999));
        Due.noState("2 more than fit with 1", () -> x.bring(11, 0, 2));
        Due.is("the last one", 1, () -> x.bring(11, 0, 1));
        Due.noState("none more", () -> x.bring(12, 0, 1));
        Due.is("all", 1000000, () -> x.sum(7));
        Due.noArgument("out of range is told first", () -> x.bring(12, 0, 100001));
        x.flow(100);
        Due.is("all are there still", 1000000, () -> x.sum(7));
        Due.noState("none more behind rounds", () -> x.bring(12, 0, 1));
    }

    private static void reachAfterTelling() {
        Eddyhall x = new Eddyhall();
        x.particle(40, 0);
        x.wall(90, 0);
        x.step(3);
        x.fault(0, 2);
        x.bring(0, 0, 5);
        x.flow(2);
        Due.is("fault, bring and flow leave the reach", 3, () -> x.sum(1));
        Due.noState("wall that throws", () -> x.wall(90, 0));
        Due.noIndex("clear that throws", () -> x.clear(96));
        Due.noArgument("open that throws", () -> x.open(40, 0));
        Due.noState("particle that throws", () -> x.particle(90, 0));
        Due.noIndex("ink that throws", () -> x.ink(96));
        Due.noState("probe that throws", () -> x.probe(90));
        Due.is("calls that throw leave the reach", 3, () -> x.sum(1));
        reachIsGone(x, "clear of a FREE CELL", () -> x.clear(0));
        reachIsGone(x, "ink of an empty CELL", () -> x.ink(0));
        reachIsGone(x, "wall", () -> x.wall(1, Eddyhall.NONE));
        reachIsGone(x, "particle", () -> x.particle(2, 0));
        reachIsGone(x, "probe", () -> x.probe(3));
        reachIsGone(x, "open", () -> x.open(4, Eddyhall.OUTLET));
    }

    private static void reachIsGone(Eddyhall x, String what, Due.Deed deed) {
        Due.passes("step ahead of " + what, () -> x.step(1));
        Due.is("reach ahead of " + what, 1, () -> Math.min(1, x.sum(1)));
        Due.passes(what, deed);
        Due.is("reach behind " + what, 0, () -> x.sum(1));
        Due.noState("back behind " + what, () -> x.back(1));
    }
}

/** The ring of columns and the RIM, WALLS and openings: in every CELL, for every WAY. */
public final class GridTest {
    private static final int NONE = Eddyhall.NONE;

    public static void main(String[] args) {
        for (int cell = 0; cell < 96; cell++) {
            for (int way = 0; way < 4; way++) {
                hop(cell, way);
                countsGo(cell, way);
                wallBeside(cell, way, NONE);
                wallBeside(cell, way, (cell + way) % 4);
                countsAtWall(cell, way);
                outletBeside(cell, way);
            }
            meeting(cell, 0);
            meeting(cell, 1);
            countsMeet(cell);
            kinds(cell);
            inlet(cell);
            probe(cell);
        }
        pairsOfInk();
        blocks();
        Due.end();
    }

    /** The CELL beside, or NONE for the RIM; told by row and column, otherwise than the class does. */
    private static int beside(int cell, int way) {
        int row = cell / 12 + new int[] {0, -1, 0, 1}[way];
        int column = (cell % 12 + new int[] {1, 0, 11, 0}[way]) % 12;
        return row < 0 || row > 7 ? NONE : 12 * row + column;
    }

    private static int opposite(int way) {
        return (way + 2) % 4;
    }

    private static void hop(int cell, int way) {
        String text = "from " + cell + " the WAY " + way + ": ";
        int target = beside(cell, way);
        int to = target == NONE ? cell : target;
        int bit = 1 << (target == NONE ? opposite(way) : way);
        Eddyhall x = new Eddyhall();
        x.particle(cell, way);
        x.ink(cell);
        Due.is(text + "ahead", bit, () -> x.ahead(to, 1));
        Due.is(text + "aheadAnew", bit, () -> x.aheadAnew(to, 1));
        Due.is(text + "ahead of where it was", to == cell ? bit : 0, () -> x.ahead(cell, 1));
        Due.is(text + "aheadAnew of where it was", to == cell ? bit : 0, () -> x.aheadAnew(cell, 1));
        x.step(1);
        Due.is(text + "it is there", bit, () -> x.cellOf(to, 2));
        Due.is(text + "still dyed", bit, () -> x.cellOf(to, 3));
        Due.is(text + "it is alone", 1, () -> x.sum(2));
        Due.is(text + "the RIM is of no BODY", 0,
                () -> x.bodyOf(0, 1) + x.bodyOf(1, 1) + x.bodyOf(2, 1) + x.bodyOf(3, 1));
        Due.is(text + "nothing is left", 0, () -> Math.abs(x.left(false)) + Math.abs(x.left(true)));
        x.back(1);
        Due.is(text + "back", 1 << way, () -> x.cellOf(cell, 2));
        Due.is(text + "back and dyed", 1 << way, () -> x.cellOf(cell, 3));
        Due.is(text + "back and alone", 1, () -> x.sum(2));
        Due.is(text + "nothing is left of it", 0, () -> Math.abs(x.left(false)) + Math.abs(x.left(true)));
    }

    private static void countsGo(int cell, int way) {
        String text = "counts from " + cell + " the WAY " + way + ": ";
        int target = beside(cell, way);
        Eddyhall x = new Eddyhall();
        x.bring(cell, way, 7);
        x.flow(1);
        if (target == NONE) {
            Due.is(text + "the RIM sends back", 7, () -> x.cellOf(cell, 4 + opposite(way)));
        } else {
            Due.is(text + "beside", 7, () -> x.cellOf(target, 4 + way));
            Due.is(text + "gone", 0, () -> x.cellOf(cell, 4 + way));
        }
        Due.is(text + "all", 700 / 96, () -> x.average(true, 0, 0, 0, 8, 12));
        Due.is(text + "no particles", 0, () -> x.sum(2));
    }

    private static void wallBeside(int cell, int way, int body) {
        int target = beside(cell, way);
        if (target == NONE) {
            return;
        }
        String text = "from " + cell + " the WAY " + way + " to a WALL of " + body + ": ";
        int[] pushRight = {2, 0, -2, 0};
        int[] pushUp = {0, 2, 0, -2};
        Eddyhall x = new Eddyhall();
        x.wall(target, body);
        x.particle(cell, way);
        x.ink(cell);
        Due.is(text + "ahead", 1 << opposite(way), () -> x.ahead(cell, 1));
        Due.is(text + "aheadAnew", 1 << opposite(way), () -> x.aheadAnew(cell, 1));
        x.step(1);
        Due.is(text + "sent back", 1 << opposite(way), () -> x.cellOf(cell, 2));
        Due.is(text + "dyed", 1 << opposite(way), () -> x.cellOf(cell, 3));
        Due.is(text + "nothing in the WALL", 0, () -> x.cellOf(target, 2));
        for (int other = 0; other < 4; other++) {
            int b = other;
            int times = b == body ? 1 : 0;
            Due.is(text + "hits of " + b, times, () -> x.bodyOf(b, 1));
            Due.is(text + "push to the right of " + b, times * pushRight[way], () -> x.bodyOf(b, 2));
            Due.is(text + "push up of " + b, times * pushUp[way], () -> x.bodyOf(b, 3));
        }
        if (body != NONE) {
            Due.is(text + "better", way == 0 ? target : NONE, () -> x.back(1) == 0 ? x.better(body, 1) : -2);
            Due.is(text + "no hits", 0, () -> x.bodyOf(body, 1));
            Due.is(text + "no pushes", 0, () -> Math.abs(x.bodyOf(body, 2)) + Math.abs(x.bodyOf(body, 3)));
        }
        Due.is(text + "nothing is left", 0, () -> Math.abs(x.left(false)) + Math.abs(x.left(true)));
    }

    private static void countsAtWall(int cell, int way) {
        int target = beside(cell, way);
        if (target == NONE) {
            return;
        }
        String text = "counts from " + cell + " the WAY " + way + " to a WALL: ";
        Eddyhall x = new Eddyhall();
        x.wall(target, 3);
        x.bring(cell, way, 7);
        x.flow(1);
        Due.is(text + "sent back", 7, () -> x.cellOf(cell, 4 + opposite(way)));
        Due.is(text + "nothing of that WAY", 0, () -> x.cellOf(cell, 4 + way));
        Due.is(text + "nothing in the WALL", 0, () -> x.cellOf(target, 4 + way));
        Due.is(text + "no hit", 0, () -> x.bodyOf(3, 1));
    }

    private static void outletBeside(int cell, int way) {
        int target = beside(cell, way);
        if (target == NONE) {
            return;
        }
        String text = "from " + cell + " the WAY " + way + " to an OUTLET: ";
        Eddyhall x = new Eddyhall();
        x.open(target, Eddyhall.OUTLET);
        x.particle(cell, way);
        x.ink(cell);
        Due.is(text + "ahead", 0, () -> x.ahead(target, 1));
        Due.is(text + "aheadAnew", 0, () -> x.aheadAnew(target, 1));
        x.step(1);
        Due.is(text + "gone", 0, () -> x.sum(2) + x.cellOf(target, 2));
        Due.is(text + "none dyed", 0, () -> x.sum(3) + x.cellOf(target, 3));
        Due.is(text + "nothing is left", 0, () -> Math.abs(x.left(false)) + Math.abs(x.left(true)));
    }

    /** Those of a WAY and the opposite one turn to the next WAY, then hop. */
    private static void meeting(int cell, int way) {
        String text = "meeting in " + cell + " of the WAY " + way + ": ";
        Eddyhall x = new Eddyhall();
        x.particle(cell, way);
        x.ink(cell);
        x.particle(cell, opposite(way));
        x.step(1);
        Due.is(text + "one", 1, () -> x.sum(6));
        for (int one : new int[] {way, opposite(way)}) {
            int turned = (one + 1) % 4;
            int target = beside(cell, turned);
            int to = target == NONE ? cell : target;
            int bit = 1 << (target == NONE ? opposite(turned) : turned);
            Due.is(text + "turned from " + one, bit, () -> x.cellOf(to, 2));
            Due.is(text + "dyed from " + one, one == way ? bit : 0, () -> x.cellOf(to, 3));
        }
        x.back(1);
        Due.is(text + "back", way == 0 ? 5 : 10, () -> x.cellOf(cell, 2));
        Due.is(text + "unmixed", 1 << way, () -> x.cellOf(cell, 3));
        Due.is(text + "none", 0, () -> x.sum(6));
    }

    private static void countsMeet(int cell) {
        String text = "counts meet in " + cell + ": ";
        Eddyhall x = new Eddyhall();
        x.bring(cell, 0, 40);
        x.bring(cell, 2, 40);
        x.flow(1);
        for (int way = 0; way < 4; way++) {
            int target = beside(cell, way);
            int to = target == NONE ? cell : target;
            int w = target == NONE ? opposite(way) : way;
            Due.is(text + "to " + to, 20, () -> x.cellOf(to, 4 + w));
        }
    }

    private static void kinds(int cell) {
        Eddyhall x = new Eddyhall();
        x.open(cell, Eddyhall.OUTLET);
        Due.is(cell + " is an OUTLET", Eddyhall.OUTLET, () -> x.cellOf(cell, 0));
        Due.is(cell + " was an OUTLET", Eddyhall.OUTLET, () -> x.clear(cell));
        x.open(cell, Eddyhall.INLET);
        Due.is(cell + " is an INLET", Eddyhall.INLET, () -> x.cellOf(cell, 0));
        Due.is(cell + " was an INLET", Eddyhall.INLET, () -> x.clear(cell));
        x.wall(cell, 2);
        Due.is(cell + " is a WALL", Eddyhall.WALL, () -> x.cellOf(cell, 0));
        Due.is(cell + " has a BODY", 2, () -> x.cellOf(cell, 1));
        Due.noState(cell + " lets no particle in", () -> x.particle(cell, 0));
        Due.noState(cell + " lets no counts in", () -> x.bring(cell, 0, 1));
        Due.noState(cell + " lets no probe in", () -> x.probe(cell));
        Due.is(cell + " is not in a window of its own", 0, () -> x.average(false, 0, cell / 12, cell % 12, 1, 1));
        Due.is(cell + " was a WALL", Eddyhall.WALL, () -> x.clear(cell));
        Due.is(cell + " has no BODY", NONE, () -> x.cellOf(cell, 1));
        Due.is(cell + " was FREE", Eddyhall.FREE, () -> x.clear(cell));
        Due.is(cell + " lets a particle in", 8, () -> x.particle(cell, 3));
        Due.is(cell + " is in a window of its own", 100, () -> x.average(false, 0, cell / 12, cell % 12, 1, 1));
        Due.is(cell + " lets counts in", 6, () -> x.bring(cell, 3, 6));
        Due.is(cell + " in a window of counts", -600, () -> x.average(true, 2, cell / 12, cell % 12, 1, 1));
    }

    private static void inlet(int cell) {
        Eddyhall x = new Eddyhall();
        x.open(cell, Eddyhall.INLET);
        Due.is("INLET " + cell + " ahead", 1, () -> x.ahead(cell, 1));
        Due.is("INLET " + cell + " aheadAnew", 1, () -> x.aheadAnew(cell, 1));
        x.step(1);
        Due.is("INLET " + cell, 1, () -> x.cellOf(cell, 2));
        x.step(2);
        Due.is("INLET " + cell + " each STEP", 3, () -> x.sum(2));
        Due.is("INLET " + cell + ": the first one", 1, () -> x.cellOf(beside(beside(cell, 0), 0), 2));
        Due.is("INLET " + cell + ": nothing is left", 0, () -> Math.abs(x.left(false)) + Math.abs(x.left(true)));
    }

    private static void probe(int cell) {
        Eddyhall x = new Eddyhall();
        x.probe(cell);
        x.bring(cell, 1, 50);
        x.particle(beside(cell, 2), 0);
        x.step(1);
        Due.is("probe in " + cell + ": one to the right", 0, () -> x.record(0, 0));
        boolean isLow = cell / 12 < 7;
        x.particle(beside(cell, isLow ? 3 : 1), isLow ? 1 : 3);
        x.step(1);
        Due.is("probe in " + cell + ": one up or down", isLow ? 1 : -1, () -> x.record(0, 0));
        Due.noState("no WALL on the probe in " + cell, () -> x.wall(cell, NONE));
    }

    private static void pairsOfInk() {
        for (int one = 0; one < 96; one++) {
            for (int other = 0; other < 96; other++) {
                if (one == other) {
                    continue;
                }
                Eddyhall x = new Eddyhall();
                x.particle(one, other % 4);
                x.ink(one);
                x.particle(other, one % 4);
                boolean isBeside = beside(one, 0) == other || beside(one, 1) == other
                        || beside(one, 2) == other || beside(one, 3) == other;
                Due.is("ink in " + one + ", none in " + other, isBeside ? 1 : 0, () -> x.mixed(0));
            }
        }
    }

    private static void blocks() {
        for (int cell = 0; cell < 96; cell++) {
            for (int other : new int[] {cell + 1, cell + 12, cell + 13, 95 - cell}) {
                if (other > 95 || other == cell) {
                    continue;
                }
                Eddyhall x = new Eddyhall();
                x.particle(cell, 0);
                x.ink(cell);
                x.particle(other, 1);
                // In one block: 1 x 2 - 1 x 2. In two: 1 x 2 - 1 x 1, and 0 x 2 - 1 x 1.
                boolean isOne = cell / 24 == other / 24 && cell % 12 / 2 == other % 12 / 2;
                Due.is("blocks of " + cell + " and " + other, isOne ? 0 : 2, () -> x.mixed(1));
            }
        }
    }
}

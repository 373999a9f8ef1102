/** Promises 10 to 12: STEPS forward and back, and rounds. */
public final class PassTest {
    public static void main(String[] args) {
        promise10Range();
        promise10MostSteps();
        promise10Meetings();
        promise10NoMeetings();
        promise10Hops();
        promise10Hits();
        promise10Openings();
        promise10OpeningsAtTheEdge();
        promise10Order();
        promise10Reach();
        promise11Range();
        promise11Undoes();
        promise11KeepsRest();
        promise11Far();
        promise12Range();
        promise12Meetings();
        promise12Moves();
        promise12AtTheEdge();
        Due.end();
    }

    private static void promise10Range() {
        Eddyhall x = new Eddyhall();
        for (int bad : new int[] {0, -1, 201, Integer.MIN_VALUE, Integer.MAX_VALUE}) {
            Due.noArgument("step(" + bad + ")", () -> x.step(bad));
        }
        Due.is("no STEPS yet", 0, () -> x.sum(0));
        Due.is("step(1)", 1, () -> x.step(1));
        Due.is("step(200)", 201, () -> x.step(200));
    }

    private static void promise10MostSteps() {
        Eddyhall x = new Eddyhall();
        x.wall(13, 0);
        x.particle(12, 0);
        x.probe(12);
        for (int i = 1; i < 25; i++) {
            int want = i * 200;
            Due.is("step to " + want, want, () -> x.step(200));
        }
        Due.is("step to 4999", 4999, () -> x.step(199));
        Due.noState("two more", () -> x.step(2));
        Due.is("nothing has changed", 4999, () -> x.sum(0));
        Due.is("the last one", 5000, () -> x.step(1));
        Due.noState("one more", () -> x.step(1));
        Due.noState("200 more", () -> x.step(200));
        Due.noArgument("201 more", () -> x.step(201));
        Due.is("the reach", 5000, () -> x.sum(1));
        Due.is("oldest record", 0, () -> x.record(0, 4999));
        Due.noIndex("older than that", () -> x.record(0, 5000));
        for (int steps = 0; steps <= 5; steps++) {
            int s = steps;
            int want = x.aheadAnew(12, s);
            Due.is("ahead does not mind the limit", want, () -> x.ahead(12, s));
        }
        Due.passes("better does not mind the limit", () -> x.better(0, 10));
        Due.is("no STEPS by that", 5000, () -> x.sum(0));
        Due.is("back from there", 4800, () -> x.back(200));
        Due.is("and on again", 5000, () -> x.step(200));
    }

    private static void promise10Meetings() {
        Eddyhall x = new Eddyhall();
        x.particle(40, 0);
        x.particle(40, 2);
        x.step(1);
        Due.is("right turned up", 2, () -> x.cellOf(28, 2));
        Due.is("left turned down", 8, () -> x.cellOf(52, 2));
        Due.is("a meeting", 1, () -> x.sum(6));
        Eddyhall y = new Eddyhall();
        y.particle(40, 1);
        y.particle(40, 3);
        y.particle(0, 0);
        y.particle(0, 2);
        y.step(1);
        Due.is("up turned left", 4, () -> y.cellOf(39, 2));
        Due.is("down turned right", 1, () -> y.cellOf(41, 2));
        Due.is("two CELLS, two meetings", 2, () -> y.sum(6));
        Due.is("up from row 0 hits the RIM", 8, () -> y.cellOf(0, 2));
        Eddyhall z = new Eddyhall();
        z.particle(40, 1);
        z.ink(40);
        z.particle(40, 3);
        z.step(1);
        Due.is("the dyed one stays dyed", 4, () -> z.cellOf(39, 3));
        Due.is("the other one not", 0, () -> z.cellOf(41, 3));
    }

    private static void promise10NoMeetings() {
        Eddyhall x = new Eddyhall();
        for (int way = 0; way < 3; way++) {
            x.particle(40, way);
        }
        for (int way = 0; way < 4; way++) {
            x.particle(64, way);
        }
        x.particle(20, 0);
        x.particle(20, 1);
        x.step(1);
        Due.is("no meetings", 0, () -> x.sum(6));
        Due.is("three go on: right", 1, () -> x.cellOf(41, 2));
        Due.is("three go on: up", 2, () -> x.cellOf(28, 2));
        Due.is("three go on: left", 4, () -> x.cellOf(39, 2));
        Due.is("four go on: left", 4, () -> x.cellOf(63, 2));
        Due.is("four go on: down", 8, () -> x.cellOf(76, 2));
        Due.is("a corner goes on: right", 1, () -> x.cellOf(21, 2));
        Due.is("a corner goes on: up", 2, () -> x.cellOf(8, 2));
    }

    private static void promise10Hops() {
        Eddyhall x = new Eddyhall();
        x.particle(47, 0);
        x.particle(24, 2);
        x.particle(5, 1);
        x.particle(90, 3);
        x.particle(17, 1);
        x.particle(78, 3);
        x.step(1);
        Due.is("ring to the right", 1, () -> x.cellOf(36, 2));
        Due.is("ring to the left", 4, () -> x.cellOf(35, 2));
        Due.is("RIM above, and one that comes", 8 + 2, () -> x.cellOf(5, 2));
        Due.is("RIM below, and one that comes", 2 + 8, () -> x.cellOf(90, 2));
        Due.is("all are there", 6, () -> x.sum(2));
        Due.is("no BODY is hit", 0, () -> x.bodyOf(0, 1));
    }

    private static void promise10Hits() {
        for (int way = 0; way < 4; way++) {
            oneHit(way);
        }
        Eddyhall y = new Eddyhall();
        y.wall(41, 0);
        y.wall(39, 1);
        y.particle(40, 2);
        y.step(1);
        Due.is("push to the left", -2, () -> y.bodyOf(1, 2));
        y.step(1);
        Due.is("then to the right", 2, () -> y.bodyOf(0, 2));
        y.step(8);
        Due.is("hits to and fro", 5, () -> y.bodyOf(1, 1));
        Due.is("pushes to and fro", -10, () -> y.bodyOf(1, 2));
    }

    private static void oneHit(int way) {
        int from = new int[] {39, 52, 41, 28}[way];
        int pushRight = new int[] {2, 0, -2, 0}[way];
        int pushUp = new int[] {0, 2, 0, -2}[way];
        Eddyhall x = new Eddyhall();
        x.wall(40, 2);
        x.wall(58, Eddyhall.NONE);
        x.particle(57, 0);
        x.particle(from, way);
        x.step(1);
        Due.is("hit " + way, 1, () -> x.bodyOf(2, 1));
        Due.is("push to the right " + way, pushRight, () -> x.bodyOf(2, 2));
        Due.is("push up " + way, pushUp, () -> x.bodyOf(2, 3));
        Due.is("sent back " + way, 1 << (way + 2) % 4, () -> x.cellOf(from, 2));
        Due.is("a WALL of no BODY sends back", 4, () -> x.cellOf(57, 2));
        Due.is("other BODIES", 0, () -> x.bodyOf(0, 1) + x.bodyOf(1, 1) + x.bodyOf(3, 1));
        x.back(1);
        Due.is("taken off: the hit " + way, 0, () -> x.bodyOf(2, 1));
        Due.is("taken off: the push to the right " + way, 0, () -> x.bodyOf(2, 2));
        Due.is("taken off: the push up " + way, 0, () -> x.bodyOf(2, 3));
        Due.is("as it was " + way, 1 << way, () -> x.cellOf(from, 2));
    }

    private static void promise10Openings() {
        Eddyhall x = new Eddyhall();
        x.open(10, Eddyhall.INLET);
        x.open(30, Eddyhall.OUTLET);
        x.particle(29, 0);
        x.ink(29);
        x.particle(31, 2);
        x.particle(30, 3);
        x.particle(9, 0);
        x.ink(9);
        x.step(1);
        Due.is("gone, dyed or not", 0, () -> x.cellOf(30, 2));
        Due.is("one that is in an OUTLET ahead of it leaves", 8, () -> x.cellOf(42, 2));
        Due.is("none comes beside one to the right", 1, () -> x.cellOf(10, 2));
        Due.is("which is dyed still", 1, () -> x.cellOf(10, 3));
        x.step(1);
        Due.is("one comes", 1, () -> x.cellOf(10, 2));
        Due.is("not dyed", 0, () -> x.cellOf(10, 3));
        Due.is("the dyed one goes on", 1, () -> x.cellOf(11, 3));
        x.particle(11, 2);
        x.particle(22, 1);
        x.step(1);
        Due.is("beside others of other WAYS", 1 + 2, () -> x.cellOf(10, 2));
    }

    private static void promise10OpeningsAtTheEdge() {
        for (int cell : new int[] {0, 95}) {
            Eddyhall x = new Eddyhall();
            x.open(cell, Eddyhall.INLET);
            x.step(1);
            Due.is("INLET " + cell, 1, () -> x.cellOf(cell, 2));
            x.clear(cell);
            x.step(11);
            x.ink(cell == 0 ? 11 : 94);
            x.open(cell, Eddyhall.OUTLET);
            Due.is("dyed", 1, () -> x.sum(3));
            x.step(1);
            Due.is("OUTLET " + cell, 0, () -> x.sum(2));
            Due.is("no dyed one is left", 0, () -> x.sum(3));
            Due.is("nothing is left there", 0, () -> x.cellOf(cell, 3));
        }
    }

    private static void promise10Order() {
        Eddyhall x = new Eddyhall();
        x.open(40, Eddyhall.INLET);
        x.probe(40);
        x.particle(40, 0);
        x.particle(40, 2);
        x.particle(52, 1);
        x.step(1);
        Due.is("meeting ahead of hops: one is above", 2, () -> x.cellOf(28, 2));
        Due.is("hops ahead of INLETS", 1 + 2, () -> x.cellOf(40, 2));
        Due.is("the probe is last", 1, () -> x.record(0, 0));
        Eddyhall y = new Eddyhall();
        y.open(40, Eddyhall.OUTLET);
        y.probe(40);
        y.particle(52, 1);
        y.step(1);
        Due.is("the probe looks behind the OUTLETS", 0, () -> y.record(0, 0));
    }

    private static void promise10Reach() {
        Eddyhall x = new Eddyhall();
        x.step(4);
        Due.is("reach", 4, () -> x.sum(1));
        x.open(0, Eddyhall.OUTLET);
        x.step(4);
        Due.is("with an OUTLET", 0, () -> x.sum(1));
        Due.noState("back with an OUTLET", () -> x.back(1));
        x.clear(0);
        x.step(2);
        Due.is("without", 2, () -> x.sum(1));
        x.open(0, Eddyhall.INLET);
        x.step(1);
        Due.is("with an INLET", 0, () -> x.sum(1));
        x.clear(0);
        x.step(3);
        x.back(2);
        Due.is("behind going back", 1, () -> x.sum(1));
    }

    private static void promise11Range() {
        Eddyhall x = new Eddyhall();
        for (int bad : new int[] {0, -1, 201, Integer.MIN_VALUE, Integer.MAX_VALUE}) {
            Due.noArgument("back(" + bad + ")", () -> x.back(bad));
        }
        Due.noState("back(1)", () -> x.back(1));
        x.step(200);
        x.step(3);
        Due.noArgument("back(201)", () -> x.back(201));
        Due.is("back(200)", 3, () -> x.back(200));
        Due.noState("back(4)", () -> x.back(4));
        Due.is("nothing has changed", 3, () -> x.sum(1));
        Due.is("back(3)", 0, () -> x.back(3));
    }

    private static Eddyhall crowd() {
        Eddyhall x = new Eddyhall();
        int[] sets = new int[96];
        for (int i = 0; i < 6; i++) {
            x.wall(37 + 9 * i, i % 5 - 1);
            sets[37 + 9 * i] = 15;
        }
        x.probe(30);
        for (int i = 0; i < 100; i++) {
            int cell = (i * 29 + i * i) % 96;
            int way = i / 3 % 4;
            if ((sets[cell] >> way & 1) == 0) {
                x.particle(cell, way);
                sets[cell] |= 1 << way;
            }
            if (i % 4 == 0) {
                x.ink(cell);
            }
        }
        return x;
    }

    private static String stateOf(Eddyhall x) {
        StringBuilder text = new StringBuilder();
        for (int cell = 0; cell < 96; cell++) {
            text.append(x.cellOf(cell, 2)).append('/').append(x.cellOf(cell, 3)).append(' ');
        }
        for (int i = 0; i < 24; i++) {
            text.append(x.bodyOf(i / 6, i % 6)).append(' ');
        }
        for (int what = 2; what < 8; what++) {
            text.append(x.sum(what)).append(' ');
        }
        return text.toString();
    }

    private static void promise11Undoes() {
        String start = stateOf(crowd());
        Eddyhall once = crowd();
        once.step(60);
        String behind60 = stateOf(once);
        Eddyhall x = crowd();
        x.step(200);
        x.back(140);
        Due.is("200 less 140 is 60", 1, () -> stateOf(x).equals(behind60) ? 1 : 0);
        Eddyhall y = crowd();
        y.step(200);
        Due.passes("all the way", () -> y.back(200));
        Due.is("is the start", 1, () -> stateOf(y).equals(start) ? 1 : 0);
        Eddyhall z = crowd();
        z.step(60);
        Due.is("there is something to undo", 1, () -> z.sum(6) > 0 && z.bodyOf(0, 1) > 0 ? 1 : 0);
        Due.noIndex("60 records", () -> z.record(0, 60));
        z.back(20);
        Due.passes("40 records: the oldest", () -> z.record(0, 39));
        Due.noIndex("40 records: no older one", () -> z.record(0, 40));
    }

    private static void promise11KeepsRest() {
        Eddyhall x = new Eddyhall();
        x.wall(41, 0);
        x.particle(40, 0);
        x.bring(0, 0, 8);
        x.step(1);
        x.fault(0, 4);
        x.flow(3);
        x.bring(50, 1, 2);
        Due.is("back", 0, () -> x.back(1));
        Due.is("no hit", 0, () -> x.bodyOf(0, 1));
        Due.is("no push", 0, () -> x.bodyOf(0, 2));
        Due.is("as it was", 1, () -> x.cellOf(40, 2));
        Due.is("counts stay", 2, () -> x.cellOf(50, 5));
        Due.is("counts stay where they flowed", 8, () -> x.cellOf(3, 4));
        Due.is("rounds stay", 4, () -> x.flow(1));
        Due.is("the fault stays", 4, () -> x.fault(0, 0));
        Eddyhall y = new Eddyhall();
        y.particle(40, 0);
        y.ink(40);
        y.particle(40, 2);
        y.step(1);
        y.back(1);
        Due.is("the ink is unmixed", 1, () -> y.cellOf(40, 3));
        Due.is("both are there", 5, () -> y.cellOf(40, 2));
        Due.is("the meeting is taken off", 0, () -> y.sum(6));
    }

    private static void promise11Far() {
        Eddyhall x = crowd();
        for (int i = 0; i < 25; i++) {
            x.step(200);
        }
        for (int i = 24; i >= 0; i--) {
            int want = 200 * i;
            Due.is("back to " + want, want, () -> x.back(200));
        }
        String start = stateOf(crowd());
        Due.is("is the start", 1, () -> stateOf(x).equals(start) ? 1 : 0);
    }

    private static void promise12Range() {
        Eddyhall x = new Eddyhall();
        for (int bad : new int[] {0, -1, 101, Integer.MIN_VALUE, Integer.MAX_VALUE}) {
            Due.noArgument("flow(" + bad + ")", () -> x.flow(bad));
        }
        Due.is("flow(1)", 1, () -> x.flow(1));
        Due.is("flow(100)", 101, () -> x.flow(100));
        x.particle(0, 0);
        x.step(2);
        Due.is("STEPS are no rounds", 102, () -> x.flow(1));
        Due.is("rounds are no STEPS", 2, () -> x.sum(0));
        Due.is("and move no particles", 1, () -> x.cellOf(2, 2));
    }

    /** Counts of one CELL, and what the four around it have behind a round. */
    private static void meets(int right, int up, int left, int down, int... want) {
        Eddyhall x = new Eddyhall();
        int[] many = {right, up, left, down};
        int[] beside = {41, 28, 39, 52};
        for (int way = 0; way < 4; way++) {
            if (many[way] > 0) {
                x.bring(40, way, many[way]);
            }
        }
        x.flow(1);
        for (int way = 0; way < 4; way++) {
            int w = way;
            Due.is("counts " + right + " " + up + " " + left + " " + down + ", WAY " + w,
                    want[w], () -> x.cellOf(beside[w], 4 + w));
        }
    }

    private static void promise12Meetings() {
        meets(10, 0, 4, 0, 7, 3, 1, 3);
        meets(4, 0, 10, 0, 1, 3, 7, 3);
        meets(0, 10, 0, 4, 3, 7, 3, 1);
        meets(0, 1, 0, 20, 1, 0, 1, 19);
        meets(20, 0, 1, 0, 19, 1, 0, 1);
        meets(20, 0, 0, 0, 20, 0, 0, 0);
        meets(2, 0, 1, 0, 2, 0, 1, 0);
        meets(0, 2, 0, 1, 0, 2, 0, 1);
        meets(2, 0, 2, 0, 1, 1, 1, 1);
        meets(0, 4, 0, 3, 1, 3, 1, 2);
        meets(9, 2, 9, 1, 6, 5, 6, 4);
        meets(5, 5, 5, 5, 5, 5, 5, 5);
        meets(1, 9, 2, 9, 4, 6, 5, 6);
        meets(0, 30, 0, 2, 2, 28, 2, 0);
        meets(30, 0, 2, 0, 28, 2, 0, 2);
        meets(0, 2, 0, 30, 2, 0, 2, 28);
        meets(2, 0, 30, 0, 0, 2, 28, 2);
    }

    private static void promise12Moves() {
        Eddyhall x = new Eddyhall();
        x.wall(41, 0);
        x.bring(40, 0, 5);
        x.bring(7, 1, 3);
        x.bring(90, 3, 2);
        x.bring(47, 0, 6);
        x.bring(60, 2, 7);
        x.open(20, Eddyhall.OUTLET);
        x.bring(19, 0, 4);
        x.open(70, Eddyhall.INLET);
        x.flow(1);
        Due.is("a WALL sends back", 5, () -> x.cellOf(40, 6));
        Due.is("the RIM above", 3, () -> x.cellOf(7, 7));
        Due.is("the RIM below", 2, () -> x.cellOf(90, 5));
        Due.is("ring to the right", 6, () -> x.cellOf(36, 4));
        Due.is("ring to the left", 7, () -> x.cellOf(71, 6));
        Due.is("an OUTLET takes nothing", 4, () -> x.cellOf(20, 4));
        Due.is("an INLET brings nothing", 27, () -> x.sum(7));
        Due.is("a BODY is not hit", 0, () -> x.bodyOf(0, 1));
        Due.is("the WALL has none", 0, () -> x.cellOf(41, 4));
        x.flow(1);
        Due.is("they go on from there", 5, () -> x.cellOf(39, 6));
    }

    private static void promise12AtTheEdge() {
        Eddyhall x = new Eddyhall();
        x.bring(0, 0, 8);
        x.bring(0, 2, 8);
        x.bring(95, 1, 8);
        x.bring(95, 3, 8);
        x.flow(1);
        Due.is("0: right", 4, () -> x.cellOf(1, 4));
        Due.is("0: left", 4, () -> x.cellOf(11, 6));
        Due.is("0: up is sent back", 4, () -> x.cellOf(0, 7));
        Due.is("0: down", 4, () -> x.cellOf(12, 7));
        Due.is("95: right", 4, () -> x.cellOf(84, 4));
        Due.is("95: left", 4, () -> x.cellOf(94, 6));
        Due.is("95: up", 4, () -> x.cellOf(83, 5));
        Due.is("95: down is sent back", 4, () -> x.cellOf(95, 5));
    }
}

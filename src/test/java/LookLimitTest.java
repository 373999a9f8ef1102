import java.util.ArrayList;
import java.util.List;

/** Promises 17 to 25, the first and the last that is allowed, the empty and the full: what there is. */
public final class LookLimitTest {
    private static final int NONE = Eddyhall.NONE;
    private static final int CELL = 40;

    public static void main(String[] args) {
        looksChangeNothing();
        promise20And21NoSteps();
        promise20And21FiveSteps();
        promise20And21Full();
        promise20And21Late();
        promise22Chequered();
        promise22Halves();
        promise22OneInk();
        promise23FirstAndLast();
        promise23OwnRecords();
        promise24AllShort();
        promise24Late();
        promise25Ends();
        promise25TwelveCells();
        promise25Lowest();
        promise25NoLess();
        promise25ToTheLeft();
        promise25OtherBody();
        promise25Late();
        Due.end();
    }

    // ---- what is asked is not changed

    private static void busy(Eddyhall x) {
        for (int i = 0; i < 5; i++) {
            x.wall(38 + 9 * i, i % 2 * 3);
        }
        for (int i = 0; i < 40; i++) {
            int cell = i * 12 / 5;
            if (cell < 38 || cell % 9 != 2) {
                x.particle(cell, i * i % 4);
            }
        }
        x.ink(48);
        x.probe(30);
        x.bring(95, 0, 900);
        x.step(6);
    }

    private static void looksChangeNothing() {
        String before = Seen.all(LookLimitTest::busy);
        String behind = Seen.all(x -> {
            busy(x);
            for (int steps = 0; steps <= 5; steps++) {
                x.ahead(steps, steps);
                x.aheadAnew(95 - steps, steps);
            }
            x.better(0, 10);
            x.better(3, 1);
            x.average(false, 2, 0, 0, 8, 12);
            x.scatter(true, 1, 0, 0, 8, 12);
            x.likeness(0, 0, 8, 12);
            x.mixed(0);
            x.mixed(1);
            x.record(0, 5);
            x.beat(0);
            x.left(true);
            x.sum(6);
            x.bodyOf(0, 5);
            x.cellOf(95, 7);
        });
        Due.is("looks change nothing", 1, () -> before.equals(behind) ? 1 : 0);
        if (!before.equals(behind)) {
            Due.tell(Seen.parting(before, behind));
        }
    }

    // ---- ahead, aheadAnew

    private static void both(String text, Eddyhall x, int cell, int steps, int want) {
        Due.is(text + ", ahead(" + cell + ", " + steps + ")", want, () -> x.ahead(cell, steps));
        Due.is(text + ", aheadAnew(" + cell + ", " + steps + ")", want, () -> x.aheadAnew(cell, steps));
    }

    /** Behind 0 STEPS all is as it is: no OUTLET has taken and no INLET brought anything. */
    private static void promise20And21NoSteps() {
        Eddyhall x = new Eddyhall();
        x.particle(0, 0);
        x.particle(0, 2);
        x.particle(95, 3);
        x.open(95, Eddyhall.OUTLET);
        x.open(50, Eddyhall.INLET);
        x.wall(51, 0);
        both("a meeting to come", x, 0, 0, 5);
        both("in an OUTLET", x, 95, 0, 8);
        both("in an empty INLET", x, 50, 0, 0);
        both("in a WALL", x, 51, 0, 0);
        both("an OUTLET takes what is sent back in it", x, 95, 1, 0);
        both("an INLET beside a WALL", x, 50, 1, 1);
        both("an INLET beside a WALL", x, 50, 2, 1 + 4);
    }

    private static void promise20And21FiveSteps() {
        for (int cell = 0; cell < 96; cell++) {
            for (int way = 0; way < 4; way++) {
                Eddyhall x = new Eddyhall();
                x.particle(cell, way);
                int c = cell;
                int w = way;
                for (int steps = 0; steps <= 5; steps++) {
                    both("from " + cell + " the WAY " + way, x, c, steps, 1 << w);
                    int row = c / 12 + new int[] {0, -1, 0, 1}[w];
                    if (row < 0 || row > 7) {
                        w = (w + 2) % 4;
                    } else {
                        c = 12 * row + (c + new int[] {1, 0, 11, 0}[w]) % 12;
                    }
                }
                Due.is("no STEPS", 0, () -> x.sum(0));
            }
        }
    }

    private static void promise20And21Full() {
        Eddyhall x = new Eddyhall();
        for (int i = 0; i < 384; i++) {
            x.particle(i / 4, i % 4);
        }
        Eddyhall y = new Eddyhall();
        Eddyhall z = new Eddyhall();
        for (int cell = 0; cell < 96; cell++) {
            z.wall(cell, NONE);
        }
        for (int steps = 0; steps <= 5; steps++) {
            for (int cell = 0; cell < 96; cell += 19) {
                both("full", x, cell, steps, 15);
                both("empty", y, cell, steps, 0);
                both("only WALLS", z, cell, steps, 0);
            }
        }
    }

    private static void promise20And21Late() {
        Eddyhall x = new Eddyhall();
        x.open(0, Eddyhall.INLET);
        x.open(6, Eddyhall.OUTLET);
        x.particle(95, 1);
        for (int i = 0; i < 25; i++) {
            x.step(200);
        }
        // Row 7 at first, and 16 STEPS lead it up, down and back: 5000 are 312 such ways and 8, so it goes down.
        both("at 5000", x, 11, 0, 8);
        both("at 5000", x, 23, 1, 8);
        both("at 5000", x, 71, 5, 8);
        both("at 5000, the INLET", x, 0, 5, 1);
        both("at 5000, the OUTLET", x, 6, 5, 0);
        both("at 5000, ahead of it", x, 5, 5, 1);
        Due.is("STEPS", 5000, () -> x.sum(0));
    }

    // ---- mixed

    private static Eddyhall inked(int rowsDyed, int columnsDyed, boolean isChequered) {
        Eddyhall x = new Eddyhall();
        for (int cell = 0; cell < 96; cell++) {
            x.particle(cell, cell % 4);
            boolean isDyed = isChequered ? (cell / 12 + cell) % 2 == 0
                    : cell / 12 < rowsDyed && cell % 12 < columnsDyed;
            if (isDyed) {
                x.ink(cell);
            }
        }
        return x;
    }

    private static void promise22Chequered() {
        Eddyhall x = inked(0, 0, true);
        // 12 pairs in each of 8 rows, which are rings, and 12 between two rows.
        Due.is("each pair once", 12 * 8 + 12 * 7, () -> x.mixed(0));
        Due.is("each block alike", 0, () -> x.mixed(1));
    }

    private static void promise22Halves() {
        Eddyhall x = inked(8, 6, false);
        Due.is("the left half: two edges a row", 16, () -> x.mixed(0));
        Due.is("its blocks", 24 * (4 * 96 - 48 * 4), () -> x.mixed(1));
        Eddyhall y = inked(4, 12, false);
        Due.is("the upper half: one edge, for the RIM is none", 12, () -> y.mixed(0));
        Due.is("its blocks", 24 * (4 * 96 - 48 * 4), () -> y.mixed(1));
        Eddyhall z = inked(1, 12, false);
        Due.is("the first row", 12, () -> z.mixed(0));
        // Six blocks with 2 of 4 dyed, 18 without; 12 of 96 dyed in all.
        Due.is("its blocks", 6 * (2 * 96 - 12 * 4) + 18 * 12 * 4, () -> z.mixed(1));
        Eddyhall w = inked(8, 1, false);
        Due.is("the first column", 16, () -> w.mixed(0));
        Due.is("its blocks", 4 * (2 * 96 - 8 * 4) + 20 * 8 * 4, () -> w.mixed(1));
    }

    private static void promise22OneInk() {
        Eddyhall all = inked(8, 12, false);
        Due.is("all dyed: no pair", 0, () -> all.mixed(0));
        Due.is("all dyed: blocks", 0, () -> all.mixed(1));
        Eddyhall none = inked(0, 0, false);
        Due.is("none dyed: no pair", 0, () -> none.mixed(0));
        Due.is("none dyed: blocks", 0, () -> none.mixed(1));
        Eddyhall x = new Eddyhall();
        Due.is("no particles: no pair", 0, () -> x.mixed(0));
        Due.is("no particles: blocks", 0, () -> x.mixed(1));
        for (int way = 0; way < 4; way++) {
            x.particle(0, way);
            x.particle(95, way);
        }
        x.ink(0);
        Due.is("four against four", 4 * 8 - 4 * 4 + 4 * 4, () -> x.mixed(1));
    }

    // ---- record, beat

    /** A cage of one CELL with a particle that goes up and down: it is sent back in each STEP. */
    private static Eddyhall cage() {
        Eddyhall x = new Eddyhall();
        x.wall(CELL - 12, NONE);
        x.wall(CELL + 12, NONE);
        x.particle(CELL, 1);
        for (int probe = 0; probe < 4; probe++) {
            x.probe(CELL);
        }
        return x;
    }

    private static void promise23FirstAndLast() {
        Eddyhall x = cage();
        Due.noIndex("none yet", () -> x.record(3, 0));
        x.step(1);
        Due.is("the first is the latest", -1, () -> x.record(3, 0));
        Due.noIndex("and the only one", () -> x.record(3, 1));
        x.step(199);
        for (int i = 0; i < 24; i++) {
            x.step(200);
        }
        for (int probe = 0; probe < 4; probe++) {
            int p = probe;
            for (int ago : new int[] {0, 1, 2, 199, 200, 4997, 4998, 4999}) {
                Due.is("record(" + p + ", " + ago + ")", ago % 2 == 0 ? 1 : -1, () -> x.record(p, ago));
            }
            Due.noIndex("record(" + p + ", 5000)", () -> x.record(p, 5000));
            Due.noIndex("record(" + p + ", -1)", () -> x.record(p, -1));
        }
        x.back(1);
        Due.is("the latest but one", -1, () -> x.record(3, 0));
        Due.is("the oldest is there", -1, () -> x.record(3, 4998));
        Due.noIndex("4999 in all", () -> x.record(3, 4999));
    }

    private static void promise23OwnRecords() {
        Eddyhall x = new Eddyhall();
        int[] cells = {0, 1, 12, 95};
        for (int cell : cells) {
            x.probe(cell);
        }
        x.particle(12, 1);
        x.particle(13, 1);
        x.particle(0, 3);
        x.particle(83, 3);
        x.step(1);
        int[] want = {1, 1, -1, -1};
        for (int probe = 0; probe < 4; probe++) {
            int p = probe;
            Due.is("the probe " + p, want[p], () -> x.record(p, 0));
        }
    }

    /** The CELLS around are OUTLETS, so that one comes to the probe just when it is told. */
    private static Eddyhall listening() {
        Eddyhall x = new Eddyhall();
        for (int cell : new int[] {CELL + 1, CELL - 12, CELL - 1, CELL + 12}) {
            x.open(cell, Eddyhall.OUTLET);
        }
        x.probe(CELL);
        return x;
    }

    /** 1 up, 2 down, 3 both, which is a record of 0 as none is. */
    private static int send(Eddyhall x, int what) {
        if (what % 2 == 1) {
            x.particle(CELL + 12, 1);
        }
        if (what / 2 == 1) {
            x.particle(CELL - 12, 3);
        }
        x.step(1);
        return what % 2 - what / 2;
    }

    private static void promise24AllShort() {
        for (int code = 0; code < 4096; code++) {
            Eddyhall x = listening();
            List<Integer> signs = new ArrayList<>();
            for (int i = 0; i < 6; i++) {
                int sign = send(x, code >> 2 * i & 3);
                Due.is("code " + code + ", record " + i, sign, () -> x.record(0, 0));
                if (sign != 0) {
                    signs.add(sign);
                }
            }
            int want = 0;
            for (int i = 0; i + 1 < signs.size(); i++) {
                want += signs.get(i).equals(signs.get(i + 1)) ? 0 : 1;
            }
            int due = want;
            Due.is("beat of the code " + code, due, () -> x.beat(0));
        }
    }

    private static void promise24Late() {
        Eddyhall x = cage();
        x.step(1);
        Due.is("no beat of one", 0, () -> x.beat(0));
        x.step(1);
        Due.is("a beat of two", 1, () -> x.beat(0));
        x.back(1);
        Due.is("no beat of one again", 0, () -> x.beat(0));
        x.step(199);
        Due.is("of 200", 199, () -> x.beat(3));
        for (int i = 0; i < 24; i++) {
            x.step(200);
        }
        for (int probe = 0; probe < 4; probe++) {
            int p = probe;
            Due.is("of 5000, the probe " + p, 4999, () -> x.beat(p));
        }
        x.back(200);
        Due.is("of 4800", 4799, () -> x.beat(0));
    }

    // ---- better

    private static void promise25Ends() {
        Eddyhall x = new Eddyhall();
        x.wall(46, 0);
        x.particle(36, 0);
        Due.is("not hit within 9 STEPS", NONE, () -> x.better(0, 9));
        Due.is("hit in the 10th", 46, () -> x.better(0, 10));
        Eddyhall y = new Eddyhall();
        y.wall(47, 3);
        y.particle(46, 0);
        Due.is("hit in the first", 47, () -> y.better(3, 1));
        Eddyhall z = new Eddyhall();
        z.wall(36, 3);
        z.particle(47, 0);
        Due.is("over the ring", 36, () -> z.better(3, 1));
    }

    private static void promise25TwelveCells() {
        for (int best = 0; best < 12; best++) {
            Eddyhall x = new Eddyhall();
            int[] cells = new int[12];
            for (int i = 0; i < 12; i++) {
                cells[i] = 8 * i + i / 3 % 2;
                x.wall(cells[i], 2);
            }
            int hit = cells[best];
            int from = hit % 12 == 0 ? hit + 11 : hit - 1;
            x.particle(from, 0);
            Due.is("the one of twelve that is hit, " + best, hit, () -> x.better(2, 1));
            Due.is("of another BODY", NONE, () -> x.better(1, 1));
        }
    }

    private static void promise25Lowest() {
        int[] rows = {6, 2, 7, 0, 4};
        Eddyhall x = new Eddyhall();
        for (int row : rows) {
            x.wall(12 * row + 5, 1);
            x.particle(12 * row + 4, 0);
        }
        for (int row = 0; row < 8; row += 2) {
            Due.is("the lowest one", 12 * row + 5, () -> x.better(1, 1));
            x.clear(12 * row + 5);
        }
        Due.is("the last one", 89, () -> x.better(1, 1));
        x.clear(89);
        Due.is("none any more", NONE, () -> x.better(1, 1));
    }

    private static void promise25NoLess() {
        Eddyhall x = new Eddyhall();
        x.wall(40, 0);
        x.wall(95, 0);
        Due.is("without hits none is better", NONE, () -> x.better(0, 10));
        x.particle(41, 2);
        Due.is("by a push to the left none is better", NONE, () -> x.better(0, 1));
        x.particle(28, 3);
        x.particle(52, 1);
        Due.is("by pushes up and down none is better", NONE, () -> x.better(0, 1));
        x.particle(39, 0);
        Due.is("a push to the right is made up for by one to the left", NONE, () -> x.better(0, 1));
        x.wall(20, 0);
        x.particle(19, 0);
        Due.is("but not that of another CELL", 20, () -> x.better(0, 1));
    }

    /** A push to the left is less than none: what two that meet do if 52 does not keep them apart. */
    private static void promise25ToTheLeft() {
        Eddyhall x = new Eddyhall();
        x.wall(52, 0);
        x.wall(51, 0);
        x.particle(64, 1);
        x.particle(40, 3);
        Due.is("in one", NONE, () -> x.better(0, 1));
        Due.is("in two", 52, () -> x.better(0, 2));
        x.step(2);
        Due.is("as it is there is none", 0, () -> x.bodyOf(0, 2));
        x.back(2);
        x.clear(52);
        x.step(2);
        Due.is("without it there is one to the left", -2, () -> x.bodyOf(0, 2));
    }

    /** The pushes of other BODIES, and of WALLS of none, do not matter. */
    private static void promise25OtherBody() {
        Eddyhall x = new Eddyhall();
        x.wall(40, 0);
        x.wall(64, 1);
        x.wall(88, NONE);
        for (int cell : new int[] {39, 63, 87}) {
            x.particle(cell, 0);
        }
        Due.is("the BODY 0", 40, () -> x.better(0, 1));
        Due.is("the BODY 1", 64, () -> x.better(1, 1));
        Due.is("the BODY 2", NONE, () -> x.better(2, 1));
        Due.is("the BODY 3", NONE, () -> x.better(3, 10));
        x.open(16, Eddyhall.INLET);
        x.wall(17, 3);
        // Its first one comes in the STEP 1 and hits in the STEP 2.
        Due.is("an INLET, in one", NONE, () -> x.better(3, 1));
        Due.is("an INLET, in two", 17, () -> x.better(3, 2));
    }

    private static void promise25Late() {
        Eddyhall x = new Eddyhall();
        x.wall(CELL + 1, 3);
        x.wall(CELL - 1, NONE);
        x.particle(CELL, 0);
        for (int i = 0; i < 25; i++) {
            x.step(200);
        }
        Due.is("hits so far", 2500, () -> x.bodyOf(3, 1));
        Due.is("at 5000 STEPS", 41, () -> x.better(3, 1));
        Due.is("at 5000 STEPS, in ten", 41, () -> x.better(3, 10));
        Due.is("STEPS", 5000, () -> x.sum(0));
        Due.is("hits as they were", 2500, () -> x.bodyOf(3, 1));
        Due.is("the reach as it was", 5000, () -> x.sum(1));
    }
}

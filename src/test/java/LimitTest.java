/** Promises 2 to 16, the first and the last that is allowed, the empty and the full: what is told, and what passes. */
public final class LimitTest {
    private static final int NONE = Eddyhall.NONE;
    private static final int[] ENDS = {0, 95};

    public static void main(String[] args) {
        promise2Ends();
        promise2TwelveCells();
        promise2AllWalls();
        promise2EachProbe();
        promise3KeepsRest();
        promise3Reach();
        promise4KeepsRest();
        promise5FullHall();
        promise6FullAndEmpty();
        promise7FourInOne();
        promise7NoRecordsThen();
        promise8Ends();
        promise8AsItIsNow();
        promise9Ends();
        promise9AllInOne();
        promise9OverAllCells();
        promise10Ends();
        promise10FullHall();
        promise10AllInlets();
        promise10AllOutlets();
        promise11JustTheReach();
        promise11ToAndFro();
        promise11TakesOffAndKeeps();
        promise12Ends();
        promise12Alone();
        promise13To15Ends();
        promise15ReachByCalls();
        promise16Full();
        call512();
        Due.end();
    }

    private static void promise2Ends() {
        for (int cell : ENDS) {
            for (int body = NONE; body < 4; body++) {
                int b = body;
                Eddyhall x = new Eddyhall();
                Due.passes("wall(" + cell + ", " + b + ")", () -> x.wall(cell, b));
                Due.is("it is a WALL", Eddyhall.WALL, () -> x.cellOf(cell, 0));
                Due.is("its BODY", b, () -> x.cellOf(cell, 1));
                for (int other = 0; other < 4; other++) {
                    int o = other;
                    Due.is("CELLS of " + o, o == b ? 1 : 0, () -> x.bodyOf(o, 0));
                }
                Due.is("no other one is a WALL", Eddyhall.FREE, () -> x.cellOf(95 - cell, 0));
            }
        }
        Eddyhall y = new Eddyhall();
        y.bring(0, 2, 1);
        y.flow(1);
        Due.passes("where counts have been", () -> y.wall(0, 0));
        Due.noState("where they are now", () -> y.wall(11, 0));
        y.particle(40, 0);
        y.step(1);
        Due.passes("where a particle has been", () -> y.wall(40, 0));
        Due.noState("where it is now", () -> y.wall(41, 0));
    }

    private static void promise2TwelveCells() {
        Eddyhall x = new Eddyhall();
        for (int i = 0; i < 48; i++) {
            int c = i;
            Due.passes("the CELL " + c / 4 + " of the BODY " + c % 4, () -> x.wall(c, c % 4));
        }
        for (int body = 0; body < 4; body++) {
            int b = body;
            Due.is("12 CELLS of the BODY " + b, 12, () -> x.bodyOf(b, 0));
            Due.noState("a 13th of the BODY " + b, () -> x.wall(95, b));
        }
        Due.passes("one of no BODY", () -> x.wall(95, NONE));
        Due.is("the BODY 2 gives one", Eddyhall.WALL, () -> x.clear(46));
        Due.is("11 are left", 11, () -> x.bodyOf(2, 0));
        Due.noState("the BODY 1 has 12 still", () -> x.wall(46, 1));
        Due.passes("the 12th again", () -> x.wall(46, 2));
        Due.noState("the 13th again", () -> x.wall(94, 2));
        x.clear(95);
        Due.noState("room of no BODY is none of a BODY", () -> x.wall(95, 2));
    }

    private static void promise2AllWalls() {
        Eddyhall x = new Eddyhall();
        for (int cell = 0; cell < 96; cell++) {
            int c = cell;
            Due.passes("wall " + c, () -> x.wall(c, NONE));
        }
        Due.is("step", 200, () -> x.step(200));
        Due.is("back", 0, () -> x.back(200));
        Due.is("flow", 100, () -> x.flow(100));
        for (int what = 2; what < 8; what++) {
            int w = what;
            Due.is("sum(" + w + ") without a CELL but WALLS", 0, () -> x.sum(w));
        }
        Due.is("average", 0, () -> x.average(false, 0, 0, 0, 8, 12));
        Due.is("scatter", 0, () -> x.scatter(true, 0, 0, 0, 8, 12));
        Due.is("likeness", 0, () -> x.likeness(0, 0, 8, 12));
        Due.is("mixed(0)", 0, () -> x.mixed(0));
        Due.is("mixed(1)", 0, () -> x.mixed(1));
        Due.is("ahead", 0, () -> x.ahead(95, 5));
        Due.is("aheadAnew", 0, () -> x.aheadAnew(95, 5));
        Due.noState("no probe anywhere", () -> x.probe(95));
        Due.is("one is cleared", Eddyhall.WALL, () -> x.clear(50));
        x.particle(50, 0);
        x.particle(50, 1);
        x.step(3);
        Due.is("and is a cage", 4 + 8, () -> x.cellOf(50, 2));
    }

    private static void promise2EachProbe() {
        Eddyhall x = new Eddyhall();
        int[] cells = {95, 0, 11, 84};
        for (int probe = 0; probe < 4; probe++) {
            int cell = cells[probe];
            Due.is("the probe " + probe, probe, () -> x.probe(cell));
            for (int i = 0; i <= probe; i++) {
                int c = cells[i];
                Due.noState("no WALL on a probe, " + c, () -> x.wall(c, NONE));
                Due.noState("no WALL of a BODY on a probe, " + c, () -> x.wall(c, 1));
            }
        }
        x.clear(84);
        Due.noState("nor behind clear", () -> x.wall(84, NONE));
        for (int cell : new int[] {94, 1, 12, 10, 83, 85}) {
            Due.passes("a WALL beside a probe, " + cell, () -> x.wall(cell, 1));
        }
    }

    private static void promise3KeepsRest() {
        for (int kind : new int[] {Eddyhall.FREE, Eddyhall.INLET, Eddyhall.OUTLET}) {
            Eddyhall x = new Eddyhall();
            for (int way = 0; way < 3; way++) {
                x.particle(95, way);
            }
            x.ink(95);
            x.particle(95, 3);
            x.probe(95);
            for (int way = 0; way < 4; way++) {
                x.bring(95, way, 3 + way);
            }
            if (kind != Eddyhall.FREE) {
                x.open(95, kind);
            }
            Due.is("clear a kind " + kind, kind, () -> x.clear(95));
            int[] want = {0, NONE, 15, 7, 3, 4, 5, 6};
            for (int what = 0; what < 8; what++) {
                int w = what;
                Due.is("cellOf(95, " + w + ") behind it, " + kind, want[w], () -> x.cellOf(95, w));
            }
            x.step(1);
            Due.is("the probe stays, " + kind, 1, () -> x.record(0, 0));
            Due.is("once more", Eddyhall.FREE, () -> x.clear(95));
        }
    }

    private static void promise3Reach() {
        Eddyhall x = new Eddyhall();
        x.open(95, Eddyhall.OUTLET);
        x.step(5);
        x.clear(95);
        Due.is("clear gives no reach", 0, () -> x.sum(1));
        Due.noState("none goes back ahead of it", () -> x.back(1));
        x.step(5);
        Due.is("the reach begins there", 5, () -> x.sum(1));
        Due.is("back to there", 5, () -> x.back(5));
        Due.noState("and no more", () -> x.back(1));
    }

    private static void promise4KeepsRest() {
        for (int kind = Eddyhall.INLET; kind <= Eddyhall.OUTLET; kind++) {
            for (int cell : ENDS) {
                int k = kind;
                Eddyhall x = new Eddyhall();
                x.particle(cell, 3);
                x.ink(cell);
                x.particle(cell, 0);
                x.bring(cell, 2, 77);
                x.probe(cell);
                Due.passes("open(" + cell + ", " + k + ")", () -> x.open(cell, k));
                int[] want = {k, NONE, 9, 8, 0, 0, 77, 0};
                for (int what = 0; what < 8; what++) {
                    int w = what;
                    Due.is("cellOf(" + cell + ", " + w + ") of a kind " + k, want[w], () -> x.cellOf(cell, w));
                }
            }
        }
    }

    private static Eddyhall fullHall() {
        Eddyhall x = new Eddyhall();
        for (int i = 0; i < 384; i++) {
            x.particle(i / 4, i % 4);
        }
        return x;
    }

    private static void promise5FullHall() {
        Eddyhall x = new Eddyhall();
        for (int i = 0; i < 384; i++) {
            int cell = i / 4;
            int way = i % 4;
            Due.is("particle " + i, (2 << way) - 1, () -> x.particle(cell, way));
        }
        for (int way = 0; way < 4; way++) {
            int w = way;
            Due.noState("no room for the WAY " + w, () -> x.particle(0, w));
            Due.noState("no room for the WAY " + w, () -> x.particle(95, w));
        }
        Due.is("all", 384, () -> x.sum(2));
        Due.is("as many to the right as to the left", 0, () -> x.sum(4));
        Due.is("as many up as down", 0, () -> x.sum(5));
        Due.is("average", 400, () -> x.average(false, 0, 0, 0, 8, 12));
        Due.is("scatter", 0, () -> x.scatter(false, 0, 0, 0, 8, 12));
        Due.is("likeness", 0, () -> x.likeness(0, 0, 8, 12));
        Due.is("ahead", 15, () -> x.ahead(0, 5));
        Due.is("aheadAnew", 15, () -> x.aheadAnew(0, 5));
    }

    private static void promise6FullAndEmpty() {
        Eddyhall x = fullHall();
        Due.is("four", 4, () -> x.ink(0));
        Due.is("four", 4, () -> x.ink(95));
        Due.is("none more", 0, () -> x.ink(95));
        Due.is("8 dyed", 8, () -> x.sum(3));
        x.step(1);
        Due.is("8 dyed still", 8, () -> x.sum(3));
        // 0 goes right to 1, its one up comes down again, left to 11, down to 12.
        Due.is("its one up is sent back by the RIM", 8, () -> x.cellOf(0, 3));
        Due.is("the one to the left is in 11", 4, () -> x.cellOf(11, 3));
        Due.is("ink in 11: three were not dyed", 3, () -> x.ink(11));
        Eddyhall y = new Eddyhall();
        for (int cell : ENDS) {
            Due.is("ink in the empty " + cell, 0, () -> y.ink(cell));
        }
        y.wall(5, 1);
        Due.is("ink in a WALL", 0, () -> y.ink(5));
        y.step(1);
        Due.is("reach ahead of it", 1, () -> y.sum(1));
        Due.is("ink in a WALL", 0, () -> y.ink(5));
        Due.is("the reach is gone", 0, () -> y.sum(1));
    }

    private static void promise7FourInOne() {
        for (int cell : ENDS) {
            Eddyhall x = new Eddyhall();
            for (int probe = 0; probe < 4; probe++) {
                int p = probe;
                Due.is("the probe " + p + " in " + cell, p, () -> x.probe(cell));
                x.step(1);
            }
            Due.noState("a fifth in " + cell, () -> x.probe(cell));
            Due.noState("a fifth elsewhere", () -> x.probe(50));
            for (int probe = 0; probe < 4; probe++) {
                int p = probe;
                Due.is("the oldest record of " + p, 0, () -> x.record(p, 3 - p));
                Due.noIndex("none older of " + p, () -> x.record(p, 4 - p));
            }
            x.particle(cell, cell == 0 ? 1 : 3);
            x.step(1);
            for (int probe = 0; probe < 4; probe++) {
                int p = probe;
                Due.is("all four see it, " + p, cell == 0 ? -1 : 1, () -> x.record(p, 0));
            }
            Due.is("back", 4, () -> x.back(1));
            for (int probe = 0; probe < 4; probe++) {
                int p = probe;
                Due.is("all four have lost it, " + p, 0, () -> x.record(p, 0));
                Due.noIndex("and have as many as before, " + p, () -> x.record(p, 4 - p));
            }
        }
    }

    private static void promise7NoRecordsThen() {
        Eddyhall x = new Eddyhall();
        x.open(3, Eddyhall.INLET);
        x.probe(3);
        x.step(200);
        Due.is("into an INLET", 1, () -> x.probe(3));
        Due.noIndex("no record at first", () -> x.record(1, 0));
        Due.is("no beat at first", 0, () -> x.beat(1));
        Due.passes("the first one has 200", () -> x.record(0, 199));
        x.step(1);
        Due.is("one", 0, () -> x.record(1, 0));
        Due.noIndex("but one", () -> x.record(1, 1));
        Due.passes("the first one has 201", () -> x.record(0, 200));
        Due.noIndex("but 201", () -> x.record(0, 201));
    }

    private static void promise8Ends() {
        for (int body = 0; body < 4; body++) {
            int b = body;
            Eddyhall x = new Eddyhall();
            int before = 0;
            for (int fault = -5; fault <= 5; fault++) {
                int f = fault;
                Due.is("fault(" + b + ", " + f + ")", before, () -> x.fault(b, f));
                before = fault;
            }
            Due.is("fault(" + b + ", 5) again", 5, () -> x.fault(b, 5));
            Due.noArgument("fault(" + b + ", 6)", () -> x.fault(b, 6));
            Due.noArgument("fault(" + b + ", -6)", () -> x.fault(b, -6));
            Due.is("it stays", 5, () -> x.fault(b, -5));
            for (int other = 0; other < 4; other++) {
                int o = other;
                Due.is("of the BODY " + o, o == b ? -5 : 0, () -> x.fault(o, 0));
            }
        }
    }

    private static void promise8AsItIsNow() {
        Eddyhall x = new Eddyhall();
        x.wall(40, 3);
        x.fault(3, 5);
        x.particle(41, 2);
        x.particle(28, 3);
        x.step(1);
        for (int fault = -5; fault <= 5; fault++) {
            int f = fault;
            x.fault(3, f);
            Due.is("the push to the right, " + f, -2 + 2 * f, () -> x.bodyOf(3, 4));
            Due.is("the push up, " + f, -2 + 2 * f, () -> x.bodyOf(3, 5));
            Due.is("the real one, " + f, -2, () -> x.bodyOf(3, 2));
        }
        x.back(1);
        Due.is("without hits no fault tells", 0, () -> x.bodyOf(3, 4));
        Due.is("nor upward", 0, () -> x.bodyOf(3, 5));
        Due.is("but it stays", 5, () -> x.fault(3, 0));
    }

    private static void promise9Ends() {
        for (int cell : ENDS) {
            for (int way = 0; way < 4; way++) {
                int w = way;
                Eddyhall x = new Eddyhall();
                Due.is("bring 1", 1, () -> x.bring(cell, w, 1));
                Due.is("bring 100000", 100001, () -> x.bring(cell, w, 100000));
                Due.is("it is there", 100001, () -> x.cellOf(cell, 4 + w));
                Due.is("not beside it", 0, () -> x.cellOf(cell, 4 + (w + 1) % 4));
                Due.is("all", 100001, () -> x.sum(7));
            }
        }
    }

    private static void promise9AllInOne() {
        Eddyhall x = new Eddyhall();
        for (int i = 1; i <= 10; i++) {
            int want = i * 100000;
            Due.is("bring to " + want, want, () -> x.bring(95, 3, 100000));
        }
        Due.noState("bring 1 more there", () -> x.bring(95, 3, 1));
        Due.noState("bring 1 more elsewhere", () -> x.bring(0, 0, 1));
        Due.is("just 1000000", 1000000, () -> x.cellOf(95, 7));
        x.flow(1);
        Due.is("sent back by the RIM", 1000000, () -> x.cellOf(95, 5));
        Due.is("none is lost", 1000000, () -> x.sum(7));
        Due.noState("and none comes", () -> x.bring(95, 3, 1));
    }

    private static void promise9OverAllCells() {
        Eddyhall x = new Eddyhall();
        for (int cell = 0; cell < 95; cell++) {
            x.bring(cell, cell % 4, 10526);
        }
        Due.noState("31 would be one too many", () -> x.bring(95, 0, 31));
        Due.is("30 are just enough", 30, () -> x.bring(95, 0, 30));
        Due.is("all", 1000000, () -> x.sum(7));
        x.flow(100);
        Due.is("all behind 100 rounds", 1000000, () -> x.sum(7));
        Due.noState("none more", () -> x.bring(95, 0, 1));
    }

    private static void promise10Ends() {
        Eddyhall x = new Eddyhall();
        Due.is("step(1)", 1, () -> x.step(1));
        Due.is("step(200)", 201, () -> x.step(200));
        Due.is("step(199)", 400, () -> x.step(199));
        for (int i = 3; i <= 24; i++) {
            int want = i * 200;
            Due.is("step to " + want, want, () -> x.step(200));
        }
        Due.is("just to 5000", 5000, () -> x.step(200));
        Due.noState("not to 5001", () -> x.step(1));
        Due.is("the reach, 5000", 5000, () -> x.sum(1));
        Due.is("back a STEP", 4999, () -> x.back(1));
        Due.noState("not from 4999 to 5001", () -> x.step(2));
        Due.is("from 4999 to 5000", 5000, () -> x.step(1));
    }

    private static void promise10FullHall() {
        Eddyhall x = fullHall();
        x.ink(0);
        x.step(200);
        Due.is("full still", 384, () -> x.sum(2));
        Due.is("no meetings of four", 0, () -> x.sum(6));
        Due.is("a CELL", 15, () -> x.cellOf(50, 2));
        x.back(200);
        Due.is("the ink is unmixed", 15, () -> x.cellOf(0, 3));
        Eddyhall y = new Eddyhall();
        y.wall(50, 1);
        for (int i = 0; i < 384; i++) {
            if (i / 4 != 50) {
                y.particle(i / 4, i % 4);
            }
        }
        y.step(100);
        Due.is("four hits each STEP", 400, () -> y.bodyOf(1, 1));
        Due.is("none more from the left", 0, () -> y.bodyOf(1, 2));
        Due.is("none more from below", 0, () -> y.bodyOf(1, 3));
        y.fault(1, -5);
        Due.is("the balance", -2000, () -> y.bodyOf(1, 4));
    }

    private static void promise10AllInlets() {
        Eddyhall x = new Eddyhall();
        for (int cell = 0; cell < 96; cell++) {
            x.open(cell, Eddyhall.INLET);
        }
        Due.is("none yet", 0, () -> x.sum(2));
        x.step(1);
        Due.is("one in each", 96, () -> x.sum(2));
        Due.is("all to the right", 96, () -> x.sum(4));
        x.step(10);
        Due.is("no more", 96, () -> x.sum(2));
        Due.is("no reach", 0, () -> x.sum(1));
        Due.is("none is dyed", 0, () -> x.sum(3));
        Due.is("nothing is left", 0, () -> x.left(false));
    }

    private static void promise10AllOutlets() {
        Eddyhall x = new Eddyhall();
        for (int cell = 0; cell < 96; cell++) {
            x.particle(cell, cell % 4);
            x.ink(cell);
            x.open(cell, Eddyhall.OUTLET);
        }
        Due.is("all yet", 96, () -> x.sum(2));
        Due.is("ahead", 0, () -> x.ahead(95, 1));
        Due.is("aheadAnew", 0, () -> x.aheadAnew(95, 1));
        x.step(1);
        Due.is("none", 0, () -> x.sum(2));
        Due.is("none dyed", 0, () -> x.sum(3));
        Due.is("nothing is left to the right", 0, () -> x.left(false));
        Due.is("nothing is left up", 0, () -> x.left(true));
        Due.is("no reach", 0, () -> x.sum(1));
    }

    private static void promise11JustTheReach() {
        Eddyhall x = new Eddyhall();
        x.particle(5, 0);
        for (int steps : new int[] {1, 2, 7, 199}) {
            x.step(steps);
            Due.noState("one more than " + steps, () -> x.back(steps + 1));
            Due.is("just " + steps, 0, () -> x.back(steps));
            Due.is("it is where it was", 1, () -> x.cellOf(5, 2));
            Due.noState("then none", () -> x.back(1));
        }
        x.step(200);
        x.step(200);
        Due.is("200 of 400", 200, () -> x.back(200));
        Due.is("200 of 200", 0, () -> x.back(200));
        Due.noState("200 of 0", () -> x.back(200));
        Due.is("STEPS", 0, () -> x.sum(0));
        Due.is("reach", 0, () -> x.sum(1));
    }

    private static void promise11ToAndFro() {
        Eddyhall x = new Eddyhall();
        x.wall(41, 2);
        x.probe(40);
        x.particle(40, 0);
        x.particle(52, 1);
        x.ink(52);
        for (int i = 0; i < 20; i++) {
            x.step(3);
            Due.is("hits behind 3 STEPS", 1, () -> x.bodyOf(2, 1));
            Due.is("the push", 2, () -> x.bodyOf(2, 2));
            Due.is("the first record", 1, () -> x.record(0, 2));
            Due.is("back", 0, () -> x.back(3));
            Due.is("no hits", 0, () -> x.bodyOf(2, 1));
            Due.noIndex("no record", () -> x.record(0, 0));
        }
        Due.is("the particle", 1, () -> x.cellOf(40, 2));
        Due.is("the dyed one", 2, () -> x.cellOf(52, 3));
    }

    /** What a STEP did is taken off, what else was done stays. */
    private static void promise11TakesOffAndKeeps() {
        Eddyhall x = new Eddyhall();
        x.wall(38, 0);
        x.particle(40, 0);
        x.particle(40, 2);
        x.particle(39, 2);
        x.probe(28);
        x.step(1);
        x.fault(0, 3);
        x.bring(0, 1, 8);
        x.flow(2);
        Due.is("a meeting", 1, () -> x.sum(6));
        Due.is("a hit", 1, () -> x.bodyOf(0, 1));
        Due.is("a push", -2, () -> x.bodyOf(0, 2));
        Due.is("a record", 1, () -> x.record(0, 0));
        Due.is("counts, faults and rounds leave the reach", 1, () -> x.sum(1));
        Due.is("back", 0, () -> x.back(1));
        Due.is("no meeting", 0, () -> x.sum(6));
        Due.is("no hit", 0, () -> x.bodyOf(0, 1));
        Due.is("no push", 0, () -> x.bodyOf(0, 2));
        Due.noIndex("no record", () -> x.record(0, 0));
        Due.is("the STEPS", 0, () -> x.sum(0));
        Due.is("the reach", 0, () -> x.sum(1));
        Due.is("both as they were", 5, () -> x.cellOf(40, 2));
        Due.is("the third as it was", 4, () -> x.cellOf(39, 2));
        Due.is("the WALL stays", Eddyhall.WALL, () -> x.cellOf(38, 0));
        Due.is("the counts stay", 8, () -> x.cellOf(12, 7));
        Due.is("all counts", 8, () -> x.sum(7));
        Due.is("the rounds stay", 3, () -> x.flow(1));
        Due.is("the fault stays", 3, () -> x.fault(0, 0));
        Due.is("the probe stays", 1, () -> x.probe(28));
    }

    private static void promise12Ends() {
        Eddyhall x = new Eddyhall();
        x.bring(0, 0, 5);
        Due.is("flow(1)", 1, () -> x.flow(1));
        Due.is("it is in 1", 5, () -> x.cellOf(1, 4));
        Due.is("flow(100)", 101, () -> x.flow(100));
        Due.is("it is 101 columns on", 5, () -> x.cellOf(101 % 12, 4));
        for (int i = 2; i <= 100; i++) {
            int want = 1 + 100 * i;
            Due.is("rounds have no limit, " + want, want, () -> x.flow(100));
        }
        Due.is("it is 10001 columns on", 5, () -> x.cellOf(10001 % 12, 4));
    }

    private static void promise12Alone() {
        Eddyhall x = new Eddyhall();
        x.open(39, Eddyhall.INLET);
        x.open(41, Eddyhall.OUTLET);
        x.probe(40);
        x.particle(40, 0);
        x.ink(40);
        x.wall(43, 0);
        x.bring(40, 0, 9);
        x.flow(100);
        Due.is("no STEPS", 0, () -> x.sum(0));
        Due.is("no particle came", 1, () -> x.sum(2));
        Due.is("it is where it was", 1, () -> x.cellOf(40, 3));
        Due.is("no hits", 0, () -> x.bodyOf(0, 1));
        Due.noIndex("no record", () -> x.record(0, 0));
        Due.is("all counts", 9, () -> x.sum(7));
        x.step(10);
        Due.is("STEPS leave the counts", 9, () -> x.sum(7));
        Due.is("STEPS are no rounds", 101, () -> x.flow(1));
    }

    private static void promise13To15Ends() {
        Eddyhall x = new Eddyhall();
        for (int cell : ENDS) {
            for (int what = 0; what < 8; what++) {
                int w = what;
                Due.is("cellOf(" + cell + ", " + w + ")", w == 1 ? NONE : 0, () -> x.cellOf(cell, w));
            }
        }
        x.wall(95, 3);
        for (int what = 0; what < 8; what++) {
            int w = what;
            Due.is("a WALL: cellOf(95, " + w + ")", w == 0 ? 1 : w == 1 ? 3 : 0, () -> x.cellOf(95, w));
        }
        for (int body = 0; body < 4; body += 3) {
            for (int what = 0; what < 6; what++) {
                int b = body;
                int w = what;
                Due.is("bodyOf(" + b + ", " + w + ")", b == 3 && w == 0 ? 1 : 0, () -> x.bodyOf(b, w));
            }
        }
        for (int what = 0; what < 8; what++) {
            int w = what;
            Due.is("sum(" + w + ")", 0, () -> x.sum(w));
        }
    }

    private static void promise15ReachByCalls() {
        Eddyhall x = new Eddyhall();
        x.wall(90, 0);
        x.particle(5, 0);
        x.probe(5);
        x.step(9);
        x.cellOf(0, 0);
        x.bodyOf(0, 0);
        x.sum(0);
        x.left(true);
        x.average(false, 0, 0, 0, 8, 12);
        x.scatter(false, 0, 0, 0, 8, 12);
        x.likeness(0, 0, 8, 12);
        x.ahead(0, 5);
        x.aheadAnew(0, 5);
        x.mixed(0);
        x.mixed(1);
        x.record(0, 8);
        x.beat(0);
        x.better(0, 10);
        x.fault(0, 1);
        x.bring(0, 0, 1);
        x.flow(1);
        Due.is("looks leave the reach", 9, () -> x.sum(1));
        Due.is("and the STEPS", 9, () -> x.sum(0));
        Due.is("back to the start", 0, () -> x.back(9));
        Due.is("it is where it was", 1, () -> x.cellOf(5, 2));
        goneBy("wall", y -> y.wall(0, NONE));
        goneBy("wall of a BODY", y -> y.wall(95, 3));
        goneBy("clear of a FREE CELL", y -> y.clear(95));
        goneBy("clear of a WALL", y -> y.clear(90));
        goneBy("open", y -> y.open(0, Eddyhall.INLET));
        goneBy("particle", y -> y.particle(95, 3));
        goneBy("ink", y -> y.ink(14));
        goneBy("ink of an empty CELL", y -> y.ink(0));
        goneBy("ink of a WALL", y -> y.ink(90));
        goneBy("probe", y -> y.probe(95));
    }

    private static void goneBy(String what, Seen.Tale deed) {
        Eddyhall x = new Eddyhall();
        x.wall(90, 0);
        x.particle(5, 0);
        x.step(9);
        deed.tell(x);
        Due.is(what + ": the reach", 0, () -> x.sum(1));
        Due.is(what + ": the STEPS stay", 9, () -> x.sum(0));
        Due.noState(what + ": none back", () -> x.back(1));
        Due.is(what + ": on", 11, () -> x.step(2));
        Due.is(what + ": the reach again, but with an INLET", "open".equals(what) ? 0 : 2, () -> x.sum(1));
    }

    private static void promise16Full() {
        Eddyhall x = fullHall();
        balanced("full", x);
        for (int i = 0; i < 5; i++) {
            x.step(1);
            balanced("full, behind STEPS", x);
        }
        x.open(0, Eddyhall.OUTLET);
        x.open(95, Eddyhall.OUTLET);
        x.open(50, Eddyhall.INLET);
        for (int i = 0; i < 25; i++) {
            x.step(1 + i);
            balanced("draining", x);
        }
        x.clear(0);
        x.clear(95);
        x.clear(50);
        x.step(200);
        balanced("closed", x);
        x.back(150);
        balanced("gone back", x);
    }

    private static void balanced(String text, Eddyhall x) {
        Due.is(text + ": left to the right", 0, () -> x.left(false));
        Due.is(text + ": left up", 0, () -> x.left(true));
    }

    /** The 512th call is answered like all others. */
    private static void call512() {
        Eddyhall x = new Eddyhall();
        x.wall(41, 0);
        x.particle(40, 0);
        x.probe(40);
        for (int i = 4; i < 512; i++) {
            x.step(9);
        }
        Due.is("the 512th call", 4573, () -> x.step(1));
    }
}

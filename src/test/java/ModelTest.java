import java.util.ArrayList;
import java.util.Arrays;
import java.util.List;
import java.util.Random;

/** Long runs of calls, each answered by the class and by the model, with fixed seeds. */
public final class ModelTest {
    private static final int RUNS = 300;
    private static final int CALLS = 300;
    private static final int PARTS = 4;

    private record Asked(String name, int[] args) {
        @Override
        public String toString() {
            return name + Arrays.toString(args);
        }
    }

    public static void main(String[] args) {
        for (int run = 0; run < RUNS; run++) {
            oneRun(run);
        }
        Due.end();
    }

    private static void oneRun(int run) {
        Random random = new Random(run);
        List<Asked> calls = script(random);
        // The object is used for 512 calls at most, so what there is at the end is asked in parts.
        for (int part = 0; part < PARTS; part++) {
            Eddyhall hall = new Eddyhall();
            Model model = new Model();
            for (int i = 0; i < calls.size(); i++) {
                if (!agree(run, i, hall, model, calls.get(i))) {
                    return;
                }
            }
            for (int what = part * 2; what < part * 2 + 2; what++) {
                for (int cell = 0; cell < 96; cell++) {
                    agree(run, -1, hall, model, new Asked("cellOf", new int[] {cell, what}));
                }
            }
        }
    }

    private static boolean agree(int run, int at, Eddyhall hall, Model model, Asked call) {
        String want = outcome(() -> model.call(call.name(), call.args()));
        String got = outcome(() -> ask(hall, call.name(), call.args()));
        Due.look();
        if (!want.equals(got)) {
            Due.tell("run " + run + ", call " + at + ": " + call + " gave " + got + ", due is " + want);
            return false;
        }
        return true;
    }

    private static String outcome(Due.Call call) {
        try {
            return String.valueOf(call.now());
        } catch (RuntimeException e) {
            return e.getClass().getName();
        }
    }

    private static double ask(Eddyhall x, String name, int[] a) {
        switch (name) {
            case "wall": x.wall(a[0], a[1]); return 0;
            case "clear": return x.clear(a[0]);
            case "open": x.open(a[0], a[1]); return 0;
            case "particle": return x.particle(a[0], a[1]);
            case "ink": return x.ink(a[0]);
            case "probe": return x.probe(a[0]);
            case "fault": return x.fault(a[0], a[1]);
            case "bring": return x.bring(a[0], a[1], a[2]);
            case "step": return x.step(a[0]);
            case "back": return x.back(a[0]);
            case "flow": return x.flow(a[0]);
            case "cellOf": return x.cellOf(a[0], a[1]);
            case "bodyOf": return x.bodyOf(a[0], a[1]);
            case "sum": return x.sum(a[0]);
            case "left": return x.left(a[0] != 0);
            case "average": return x.average(a[0] != 0, a[1], a[2], a[3], a[4], a[5]);
            case "scatter": return x.scatter(a[0] != 0, a[1], a[2], a[3], a[4], a[5]);
            case "likeness": return x.likeness(a[0], a[1], a[2], a[3]);
            case "ahead": return x.ahead(a[0], a[1]);
            case "aheadAnew": return x.aheadAnew(a[0], a[1]);
            case "mixed": return x.mixed(a[0]);
            case "record": return x.record(a[0], a[1]);
            case "beat": return x.beat(a[0]);
            case "better": return x.better(a[0], a[1]);
            default: throw new UnsupportedOperationException(name);
        }
    }

    private static List<Asked> script(Random random) {
        List<Asked> calls = new ArrayList<>();
        int walls = random.nextInt(30);
        int particles = random.nextInt(3) == 0 ? random.nextInt(8) : random.nextInt(110);
        int openings = random.nextInt(3) == 0 ? random.nextInt(6) : 0;
        for (int i = 0; i < walls; i++) {
            calls.add(of("wall", near(random), random.nextInt(5) - 1));
        }
        for (int i = 0; i < openings; i++) {
            calls.add(of("open", near(random), 2 + random.nextInt(2)));
        }
        for (int i = 0; i < particles; i++) {
            calls.add(of("particle", near(random), random.nextInt(4)));
        }
        atALimit(random, calls);
        boolean isRare = random.nextBoolean();
        while (calls.size() < CALLS) {
            calls.add(random.nextInt(isRare ? 12 : 4) == 0 ? tell(random) : pass(random));
        }
        return calls;
    }

    /** Some runs begin close to a limit, so that they come to it from both sides. */
    private static void atALimit(Random random, List<Asked> calls) {
        switch (random.nextInt(10)) {
            case 0:
                for (int i = 0; i < 24; i++) {
                    calls.add(of("step", 200));
                }
                calls.add(of("step", 170 + random.nextInt(30)));
                break;
            case 1:
                for (int i = 0; i < 10; i++) {
                    calls.add(of("bring", near(random), random.nextInt(4), 100000 - random.nextInt(9)));
                }
                break;
            case 2:
                for (int i = 0; i < 90; i++) {
                    calls.add(of("wall", random.nextInt(96), random.nextInt(4)));
                }
                break;
            case 3:
                for (int i = 0; i < 4; i++) {
                    calls.add(of("probe", near(random)));
                }
                break;
            default:
        }
    }

    private static Asked of(String name, int... args) {
        return new Asked(name, args);
    }

    private static Asked tell(Random random) {
        switch (random.nextInt(9)) {
            case 0: return of("wall", cell(random), one(random, -1, 3));
            case 1: return of("clear", cell(random));
            case 2: return random.nextInt(3) == 0 ? of("open", cell(random), one(random, 2, 3)) : pass(random);
            case 3:
            case 4: return of("particle", cell(random), one(random, 0, 3));
            case 5: return of("ink", cell(random));
            case 6: return of("probe", cell(random));
            case 7: return of("fault", one(random, 0, 3), one(random, -5, 5));
            default: return of("bring", cell(random), one(random, 0, 3), many(random));
        }
    }

    private static Asked pass(Random random) {
        switch (random.nextInt(24)) {
            case 0:
            case 1:
            case 2: return of("step", one(random, 1, 6));
            case 3: return of("back", one(random, 1, 6));
            case 4: return of(random.nextBoolean() ? "step" : "back", one(random, 1, 30));
            case 5: return of("flow", random.nextInt(9) == 0 ? one(random, 1, 100) : one(random, 1, 4));
            case 6: return of("bring", cell(random), one(random, 0, 3), many(random));
            default: return look(random);
        }
    }

    private static Asked look(Random random) {
        switch (random.nextInt(16)) {
            case 0:
            case 1: return of("cellOf", cell(random), one(random, 0, 7));
            case 2: return of("bodyOf", one(random, 0, 3), one(random, 0, 5));
            case 3: return of("sum", one(random, 0, 7));
            case 4: return of("left", random.nextInt(2));
            case 5:
            case 6:
                return of(random.nextBoolean() ? "average" : "scatter", random.nextInt(2), one(random, 0, 2),
                        one(random, 0, 7), one(random, 0, 11), one(random, 1, 5), one(random, 1, 12));
            case 7: return of("likeness", one(random, 0, 7), one(random, 0, 11), one(random, 1, 5), one(random, 1, 12));
            case 8:
            case 9: return of("ahead", cell(random), one(random, 0, 5));
            case 10: return of("aheadAnew", cell(random), one(random, 0, 5));
            case 11: return of("mixed", one(random, 0, 1));
            case 12: return of("record", one(random, 0, 3), one(random, 0, 12));
            case 13: return of("beat", one(random, 0, 3));
            default: return of("better", one(random, 0, 3), one(random, 1, 10));
        }
    }

    /** Mostly within, sometimes just outside, seldom far off. */
    private static int one(Random random, int least, int most) {
        int dice = random.nextInt(60);
        if (dice == 0) {
            return least - 1;
        }
        if (dice == 1) {
            return most + 1;
        }
        if (dice == 2) {
            return random.nextInt(4) == 0 ? Integer.MIN_VALUE : Integer.MAX_VALUE - random.nextInt(2);
        }
        return least + random.nextInt(most - least + 1);
    }

    private static int many(Random random) {
        return random.nextBoolean() ? one(random, 1, 9) : one(random, 1, 100000);
    }

    private static int cell(Random random) {
        return random.nextInt(4) == 0 ? one(random, 0, 95) : near(random);
    }

    /** Close to one another, so that calls have to do with one another. */
    private static int near(Random random) {
        int row = random.nextInt(5) == 0 ? random.nextInt(8) : 5 + random.nextInt(3);
        int column = random.nextInt(5) == 0 ? random.nextInt(12) : (10 + random.nextInt(5)) % 12;
        return 12 * row + column;
    }
}

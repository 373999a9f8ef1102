/** All that can be seen of a state: asked of objects that are made alike, for an object has 512 calls at most. */
final class Seen {
    /** What leads to a state, in at most 120 calls. */
    interface Tale {
        void tell(Eddyhall x);
    }

    private Seen() {
    }

    static String all(Tale tale) {
        StringBuilder text = new StringBuilder();
        kindsAndParticles(text, told(tale));
        counts(text, told(tale));
        numbers(text, told(tale));
        later(text, told(tale));
        earlier(text, told(tale));
        return text.toString();
    }

    /** Where two of these texts part, in a line. */
    static String parting(String one, String other) {
        String[] before = one.split("\n");
        String[] behind = other.split("\n");
        for (int i = 0; i < before.length && i < behind.length; i++) {
            if (!before[i].equals(behind[i])) {
                return before[i] + " has become " + behind[i];
            }
        }
        return before.length + " lines have become " + behind.length;
    }

    private static Eddyhall told(Tale tale) {
        Eddyhall x = new Eddyhall();
        tale.tell(x);
        return x;
    }

    private static void put(StringBuilder text, String what, Due.Call call) {
        String answer;
        try {
            answer = String.valueOf(call.now());
        } catch (RuntimeException e) {
            answer = e.getClass().getSimpleName();
        }
        text.append(what).append(": ").append(answer).append('\n');
    }

    private static void cells(StringBuilder text, Eddyhall x, int first, int last) {
        for (int cell = 0; cell < 96; cell++) {
            for (int what = first; what <= last; what++) {
                int c = cell;
                int w = what;
                put(text, "cellOf(" + c + ", " + w + ")", () -> x.cellOf(c, w));
            }
        }
    }

    private static void sums(StringBuilder text, Eddyhall x) {
        for (int what = 0; what < 8; what++) {
            int w = what;
            put(text, "sum(" + w + ")", () -> x.sum(w));
        }
        for (int i = 0; i < 24; i++) {
            int k = i;
            put(text, "bodyOf(" + k / 6 + ", " + k % 6 + ")", () -> x.bodyOf(k / 6, k % 6));
        }
    }

    private static void kindsAndParticles(StringBuilder text, Eddyhall x) {
        cells(text, x, 0, 3);
    }

    private static void counts(StringBuilder text, Eddyhall x) {
        cells(text, x, 4, 7);
    }

    private static void numbers(StringBuilder text, Eddyhall x) {
        sums(text, x);
        put(text, "left(false)", () -> x.left(false));
        put(text, "left(true)", () -> x.left(true));
        for (int probe = 0; probe < 4; probe++) {
            int p = probe;
            put(text, "beat(" + p + ")", () -> x.beat(p));
            for (int ago = 0; ago < 20; ago++) {
                int a = ago;
                put(text, "record(" + p + ", " + a + ")", () -> x.record(p, a));
            }
        }
        for (int body = 0; body < 4; body++) {
            int b = body;
            put(text, "better(" + b + ", 10)", () -> x.better(b, 10));
            put(text, "fault(" + b + ", 0)", () -> x.fault(b, 0));
        }
        put(text, "mixed(1)", () -> x.mixed(1));
        put(text, "flow(1)", () -> x.flow(1));
        put(text, "probe(0)", () -> x.probe(0));
    }

    /** What comes later tells of what no question does. */
    private static void later(StringBuilder text, Eddyhall x) {
        put(text, "step(3)", () -> x.step(3));
        put(text, "flow(2)", () -> x.flow(2));
        cells(text, x, 2, 4);
        sums(text, x);
    }

    private static void earlier(StringBuilder text, Eddyhall x) {
        long reach = x.sum(1);
        while (reach > 0) {
            int steps = (int) Math.min(reach, 200);
            put(text, "back(" + steps + ")", () -> x.back(steps));
            reach -= steps;
        }
        put(text, "back(1)", () -> x.back(1));
        cells(text, x, 2, 3);
        sums(text, x);
        for (int probe = 0; probe < 4; probe++) {
            int p = probe;
            put(text, "record(" + p + ", 0)", () -> x.record(p, 0));
        }
    }
}

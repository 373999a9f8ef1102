/** What is due of a call: an answer, or just one class of exception. */
final class Due {
    interface Call {
        double now();
    }

    interface Deed {
        void now();
    }

    private static int wrong = 0;
    private static int looked = 0;

    private Due() {
    }

    static void is(String call, double want, Call asked) {
        looked++;
        String got;
        try {
            double answer = asked.now();
            if (answer == want) {
                return;
            }
            got = "answered " + answer;
        } catch (RuntimeException e) {
            got = "threw " + e;
        }
        tell(call + " " + got + ", due is " + want);
    }

    static void passes(String call, Deed deed) {
        looked++;
        try {
            deed.now();
        } catch (RuntimeException e) {
            tell(call + " threw " + e + ", due is nothing");
        }
    }

    /** IndexOutOfBoundsException itself is due, not what the machine throws of an array. */
    static void noIndex(String call, Deed deed) {
        fails(call, IndexOutOfBoundsException.class, deed);
    }

    static void noArgument(String call, Deed deed) {
        fails(call, IllegalArgumentException.class, deed);
    }

    static void noState(String call, Deed deed) {
        fails(call, IllegalStateException.class, deed);
    }

    static void fails(String call, Class<?> want, Deed deed) {
        looked++;
        try {
            deed.now();
            tell(call + " threw nothing, due is " + want.getName());
        } catch (RuntimeException e) {
            if (e.getClass() != want) {
                tell(call + " threw " + e + ", due is " + want.getName());
            }
        }
    }

    /** Counts a look that was taken elsewhere. */
    static void look() {
        looked++;
    }

    static void tell(String what) {
        wrong++;
        if (wrong <= 50) {
            System.out.println(what);
        }
    }

    static void end() {
        System.out.println(wrong == 0 ? looked + " answers are as due" : wrong + " are not as due");
        if (wrong != 0) {
            System.exit(1);
        }
    }
}

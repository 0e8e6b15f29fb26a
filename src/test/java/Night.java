/** Ways to bring a machine where a test wants it. */
final class Night {
    static final int IDLE = 0;
    static final int DRAIN = 1;
    static final int FILL = 2;
    static final int DWELL = 3;
    static final int LAST = 4;
    static final int END = 5;
    static final int DONE = 6;

    static final int CYCLES = 0;
    static final int FILL_VOLUME = 1;
    static final int DWELL_MINUTES = 2;
    static final int LAST_VOLUME = 3;
    static final int LEAST = 4;
    static final int CEILING = 5;
    static final int NIGHT = 6;
    static final int TARGET = 7;
    static final int RETAINED = 8;

    static final int UNKNOWN = -1000000;
    static final int FILL_0 = 64 + 3;
    static final int FILL_1 = 128 + 3;
    static final int DRAIN_0 = 64 + 12;
    static final int DRAIN_1 = 128 + 12;
    static final int HEATER = 256;

    private Night() {
    }

    /** A machine with fields of the prescription set: field, value, field, value, .. */
    static NightCycler prescribed(int... fieldsAndValues) {
        NightCycler x = new NightCycler();
        for (int i = 0; i + 1 < fieldsAndValues.length; i += 2) {
            x.prescribe(fieldsAndValues[i], fieldsAndValues[i + 1]);
        }
        return x;
    }

    static NightCycler started(int... fieldsAndValues) {
        NightCycler x = prescribed(fieldsAndValues);
        x.start();
        return x;
    }

    /** Nothing is retained at first, so the initial drain is over behind 60 ticks: the first tick of FILL. */
    static NightCycler inFirstFill(int... fieldsAndValues) {
        NightCycler x = started(fieldsAndValues);
        x.tick(61);
        return x;
    }

    /** Ticks once and moves so much by the chamber that is ordered. */
    static boolean move(NightCycler x, int volume) {
        int pump = x.tick(1) >> 6 & 3;
        return x.stroke(pump - 1, volume);
    }

    static void moveTimes(NightCycler x, int times, int volume) {
        for (int i = 0; i < times; i++) {
            if (!move(x, volume)) {
                throw new AssertionError("a stroke was refused on the way to a test");
            }
        }
    }

    static void weigh(NightCycler x, int times, int grams) {
        for (int i = 0; i < times; i++) {
            x.scale(grams);
        }
    }

    /** In the first FILL with B known: the base is 5000 grams. */
    static NightCycler weighedInFirstFill(int... fieldsAndValues) {
        NightCycler x = prescribed(fieldsAndValues);
        weigh(x, 8, 5000);
        x.start();
        x.tick(61);
        return x;
    }

    /** Tells a cause, or that it is gone; that of the books needs a B that is known and about A. */
    static void cause(NightCycler x, int rank, boolean there) {
        if (rank == 0) {
            x.air(there);
        } else if (rank == 1) {
            x.door(!there);
        } else if (rank == 2) {
            weigh(x, 8, there ? 6000 : 5000);
        } else if (rank == 3) {
            x.heat(0, there ? 4101 : 3700);
        } else {
            x.line(there);
        }
    }

    static NightCycler done() {
        NightCycler x = started(CYCLES, 1);
        x.end();
        x.tick(61);
        return x;
    }
}

import java.util.Random;

/** Runs of calls by chance (with seeds, so always the same), each answer compared with the model's. */
public final class ModelTest {
    private static final int RUNS = 12000;
    /** The document tells of 512 calls; some are left for what one step and the last look may need. */
    private static final int CALLS = 512 - 40 - 80;
    private static final int[] FIELD_STEPS = {1, 500, 1, 300, 10, 1000, 30, 50, 300};

    private final Random random;
    private final String run;
    private final NightCycler machine = new NightCycler();
    private int calls;
    private Model m = new Model();

    private ModelTest(int seed) {
        random = new Random(seed);
        run = "run " + seed;
    }

    public static void main(String[] args) {
        int[] phases = new int[7];
        for (int seed = 0; seed < RUNS; seed++) {
            new ModelTest(seed).go(phases);
        }
        for (int phase = 0; phase < 7; phase++) {
            Check.yes("phase " + phase + " was tried often: " + phases[phase], phases[phase] > 5000);
        }
        Check.finish();
    }

    private NightCycler x() {
        calls++;
        return machine;
    }

    private void go(int[] phases) {
        for (int field = 0; field < 9; field++) {
            if (random.nextInt(3) == 0) {
                prescribe(field);
            }
        }
        if (random.nextBoolean()) {
            prescribe(Night.CYCLES, 1 + random.nextInt(2));
            prescribe(Night.FILL_VOLUME, 500);
            prescribe(Night.LAST_VOLUME, 100 + random.nextInt(500));
        }
        if (random.nextBoolean()) {
            weigh(8);
        }
        start();
        while (calls < CALLS) {
            someCall();
            compareSome();
            phases[m.phase]++;
        }
        compareAll();
        Check.yes(run + " made " + calls + " calls", calls <= 512);
    }

    private void someCall() {
        int dice = random.nextInt(100);
        if (!m.on) {
            if (dice < 50) {
                int minutes = random.nextInt(4) == 0 ? 119 + random.nextInt(4) : random.nextInt(100);
                Check.same(run + " power", x().power(minutes), m.power(minutes));
            } else {
                tell();
            }
        } else if (dice < 45) {
            move();
        } else if (dice < 60) {
            tick();
        } else if (dice < 75) {
            weigh(1 + random.nextInt(8));
        } else if (dice < 84) {
            tell();
        } else if (dice < 94) {
            mend();
        } else {
            rareCall();
        }
    }

    private void rareCall() {
        int dice = random.nextInt(7);
        if (dice == 0) {
            int words = random.nextInt(7);
            x().cut(words);
            m = m.cut(words);
        } else if (dice == 1 && (m.phase == 0 || m.phase == 6)) {
            prescribe(random.nextInt(9));
        } else if (dice == 2 && m.phase != 0 && m.phase != 6) {
            boolean on = random.nextInt(4) == 0;
            x().pause(on);
            m.paused = on;
        } else if (dice == 3 && m.phase > 0 && m.phase < 5 && random.nextInt(4) == 0) {
            x().end();
            m.end();
        } else {
            start();
        }
    }

    private void prescribe(int field) {
        int[] low = {1, 500, 1, 0, 50, 1000, 1, 3000, 0};
        int[] high = {12, 30000, 240, 30000, 100, 40000, 900, 3900, 20000};
        prescribe(field, Math.min(high[field], low[field] + FIELD_STEPS[field] * random.nextInt(4)));
    }

    private void prescribe(int field, int value) {
        x().prescribe(field, value);
        m.rx[field] = value;
    }

    private void start() {
        int got = 0;
        try {
            x().start();
        } catch (IllegalStateException e) {
            got = 1;
        } catch (UnsupportedOperationException e) {
            got = 2;
        }
        Check.same(run + " start", got, m.start());
    }

    private void tick() {
        int n = random.nextInt(3) == 0 ? 1 + random.nextInt(130) : 55 + random.nextInt(10);
        if (random.nextInt(3) == 0) {
            n = m.phase == Night.DWELL ? 240 : 1;
        }
        tick(n);
    }

    private void tick(int n) {
        for (int i = 0; i < n; i++) {
            m.oneTick();
        }
        Check.same(run + " tick", x().tick(n), m.orders);
    }

    private void move() {
        tick(1);
        int chamber = (m.orders >> 6 & 3) - 1;
        if (random.nextInt(20) == 0) {
            chamber = random.nextInt(4) - 1;
        }
        int volume = random.nextInt(3) == 0 ? random.nextInt(203) - 1 : 200;
        Check.same(run + " stroke", x().stroke(chamber, volume) ? 1 : 0, m.stroke(chamber, volume) ? 1 : 0);
    }

    /** Weights near what A asks for, mostly, so that the books agree now and then. */
    private void weigh(int times) {
        int about = 5000 - (m.a - m.rx[8]) / 10 + random.nextInt(21) - 10;
        for (int i = 0; i < times; i++) {
            int grams = random.nextInt(30) == 0 ? random.nextInt(100003) - 1 : about + random.nextInt(7) - 3;
            boolean due = m.on && grams >= 0 && grams <= 100000;
            if (due) {
                m.weights.add(grams);
                m.look();
            }
            Check.same(run + " scale", x().scale(grams) ? 1 : 0, due ? 1 : 0);
        }
    }

    private void tell() {
        boolean bad = random.nextInt(3) == 0;
        int dice = random.nextInt(8);
        if (dice == 0) {
            x().air(bad);
            m.air = m.on ? bad : m.air;
        } else if (dice == 1) {
            x().door(!bad);
            m.open = m.on ? bad : m.open;
        } else if (dice == 2) {
            x().line(bad);
            m.blocked = m.on ? bad : m.blocked;
        } else {
            tellHeat(bad);
        }
        if (m.on) {
            m.look();
        }
    }

    private void tellHeat(boolean bad) {
        int sensor = random.nextInt(12) == 0 ? random.nextInt(4) - 1 : random.nextInt(2);
        int value = bad ? random.nextInt(15010) - 5005 : m.rx[7] - 80 + random.nextInt(100);
        boolean due = m.on && (sensor == 0 || sensor == 1) && value >= -5000 && value <= 10000;
        if (due) {
            m.heat[sensor] = value;
        }
        Check.same(run + " heat", x().heat(sensor, value) ? 1 : 0, due ? 1 : 0);
    }

    private void mend() {
        if (random.nextInt(3) == 0) {
            boolean due = !m.alarms.isEmpty();
            m.mute = due ? 480 : m.mute;
            Check.same(run + " mute", x().mute() ? 1 : 0, due ? 1 : 0);
            return;
        }
        x().air(false);
        m.air = false;
        m.look();
        x().door(true);
        m.open = false;
        m.look();
        for (int rank = -1; rank < 6; rank++) {
            boolean due = m.alarms.contains(rank) && !m.cause(rank);
            m.alarms.remove(due ? rank : -1);
            Check.same(run + " lift", x().lift(rank) ? 1 : 0, due ? 1 : 0);
        }
    }

    /** A question or two behind each call, so that most of the calls are left for what changes something. */
    private void compareSome() {
        int dice = random.nextInt(24);
        if (dice < 16) {
            compareState(dice % 9);
        } else if (dice < 18) {
            Check.same(run + " muted", x().muted(), m.mute);
        } else if (dice < 21) {
            compareAlarm(random.nextInt(6));
        } else {
            compareReport(m.cycle, random.nextInt(4));
        }
    }

    private void compareAll() {
        for (int what = 0; what < 9; what++) {
            compareState(what);
        }
        Check.same(run + " muted", x().muted(), m.mute);
        for (int i = 0; i < 6; i++) {
            compareAlarm(i);
        }
        for (int cycle = -1; cycle < 14; cycle++) {
            for (int field = 0; field < 4 && (field == 0 || cycle < m.reports.size()); field++) {
                compareReport(cycle, field);
            }
        }
    }

    private void compareState(int what) {
        Check.same(run + " state " + what, x().state(what), m.state(what));
    }

    private void compareAlarm(int i) {
        Object[] standing = m.alarms.toArray();
        Check.same(run + " alarm " + i, x().alarm(i), i < standing.length ? (Integer) standing[i] : -1);
    }

    private void compareReport(int cycle, int field) {
        if (cycle < 0 || cycle >= m.reports.size()) {
            Check.outOfBounds(run + " report of " + cycle, () -> x().report(cycle, field));
            return;
        }
        Check.same(run + " report " + field, x().report(cycle, field), m.reports.get(cycle)[field]);
    }
}

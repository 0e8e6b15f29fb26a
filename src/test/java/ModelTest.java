import java.util.Random;

/** Runs of calls by chance (with seeds, so always the same), each answer compared with the model's. */
public final class ModelTest {
    private static final int RUNS = 1500;
    private static final int CALLS = 500;
    private static final int[] FIELD_STEPS = {1, 500, 1, 300, 10, 1000, 30, 50, 300};

    private final Random random;
    private final String run;
    private NightCycler x = new NightCycler();
    private Model m = new Model();

    private ModelTest(int seed) {
        random = new Random(seed);
        run = "run " + seed;
    }

    public static void main(String[] args) {
        int[] phases = new int[7];
        for (int seed = 0; seed < RUNS; seed++) {
            new ModelTest(seed).go(phases);
        }
        for (int phase = 0; phase < 7; phase++) {
            Check.yes("phase " + phase + " was tried often", phases[phase] > 1000);
        }
        Check.finish();
    }

    private void go(int[] phases) {
        for (int field = 0; field < 9; field++) {
            if (random.nextInt(3) == 0) {
                prescribe(field);
            }
        }
        if (random.nextBoolean()) {
            weigh(8);
        }
        start();
        for (int i = 0; i < CALLS; i++) {
            someCall();
            compare();
            phases[m.phase]++;
        }
        for (int c = -1; c < 14; c++) {
            compareReport(c);
        }
    }

    private void someCall() {
        int dice = random.nextInt(100);
        if (!m.on) {
            if (dice < 50) {
                int minutes = random.nextInt(4) == 0 ? 119 + random.nextInt(4) : random.nextInt(100);
                Check.same(run + " power", x.power(minutes), m.power(minutes));
            } else {
                tell();
            }
        } else if (dice < 45) {
            move();
        } else if (dice < 60) {
            tick();
        } else if (dice < 75) {
            weigh(1 + random.nextInt(8));
        } else if (dice < 84) {
            tell();
        } else if (dice < 94) {
            mend();
        } else {
            rareCall();
        }
    }

    private void rareCall() {
        int dice = random.nextInt(7);
        if (dice == 0) {
            int words = random.nextInt(7);
            x.cut(words);
            m = m.cut(words);
        } else if (dice == 1 && (m.phase == 0 || m.phase == 6)) {
            prescribe(random.nextInt(9));
        } else if (dice == 2 && m.phase != 0 && m.phase != 6) {
            boolean on = random.nextInt(4) == 0;
            x.pause(on);
            m.paused = on;
        } else if (dice == 3 && m.phase > 0 && m.phase < 5 && random.nextInt(4) == 0) {
            x.end();
            m.end();
        } else {
            start();
        }
    }

    private void prescribe(int field) {
        int[] low = {1, 500, 1, 0, 50, 1000, 1, 3000, 0};
        int[] high = {12, 30000, 240, 30000, 100, 40000, 900, 3900, 20000};
        int value = Math.min(high[field], low[field] + FIELD_STEPS[field] * random.nextInt(4));
        x.prescribe(field, value);
        m.rx[field] = value;
    }

    private void start() {
        int got = 0;
        try {
            x.start();
        } catch (IllegalStateException e) {
            got = 1;
        } catch (UnsupportedOperationException e) {
            got = 2;
        }
        Check.same(run + " start", got, m.start());
    }

    private void tick() {
        int n = random.nextInt(3) == 0 ? 1 + random.nextInt(130) : 55 + random.nextInt(10);
        if (random.nextInt(3) == 0) {
            n = 1;
        }
        tick(n);
    }

    private void tick(int n) {
        for (int i = 0; i < n; i++) {
            m.oneTick();
        }
        Check.same(run + " tick", x.tick(n), m.orders);
    }

    private void move() {
        tick(1);
        int chamber = (m.orders >> 6 & 3) - 1;
        if (random.nextInt(20) == 0) {
            chamber = random.nextInt(4) - 1;
        }
        int volume = random.nextInt(3) == 0 ? random.nextInt(203) - 1 : 200;
        Check.same(run + " stroke", x.stroke(chamber, volume) ? 1 : 0, m.stroke(chamber, volume) ? 1 : 0);
    }

    /** Weights near what A asks for, mostly, so that the books agree now and then. */
    private void weigh(int times) {
        int about = 5000 - (m.a - m.rx[8]) / 10 + random.nextInt(21) - 10;
        for (int i = 0; i < times; i++) {
            int grams = random.nextInt(30) == 0 ? random.nextInt(100003) - 1 : about + random.nextInt(7) - 3;
            boolean due = m.on && grams >= 0 && grams <= 100000;
            if (due) {
                m.weights.add(grams);
                m.look();
            }
            Check.same(run + " scale", x.scale(grams) ? 1 : 0, due ? 1 : 0);
        }
    }

    private void tell() {
        boolean bad = random.nextInt(3) == 0;
        int dice = random.nextInt(8);
        if (dice == 0) {
            x.air(bad);
            m.air = m.on ? bad : m.air;
        } else if (dice == 1) {
            x.door(!bad);
            m.open = m.on ? bad : m.open;
        } else if (dice == 2) {
            x.line(bad);
            m.blocked = m.on ? bad : m.blocked;
        } else {
            tellHeat(bad);
        }
        if (m.on) {
            m.look();
        }
    }

    private void tellHeat(boolean bad) {
        int sensor = random.nextInt(12) == 0 ? random.nextInt(4) - 1 : random.nextInt(2);
        int value = bad ? random.nextInt(15010) - 5005 : m.rx[7] - 80 + random.nextInt(100);
        boolean due = m.on && (sensor == 0 || sensor == 1) && value >= -5000 && value <= 10000;
        if (due) {
            m.heat[sensor] = value;
        }
        Check.same(run + " heat", x.heat(sensor, value) ? 1 : 0, due ? 1 : 0);
    }

    private void mend() {
        if (random.nextInt(3) == 0) {
            boolean due = !m.alarms.isEmpty();
            m.mute = due ? 480 : m.mute;
            Check.same(run + " mute", x.mute() ? 1 : 0, due ? 1 : 0);
            return;
        }
        x.air(false);
        m.air = false;
        m.look();
        x.door(true);
        m.open = false;
        m.look();
        for (int rank = -1; rank < 6; rank++) {
            boolean due = m.alarms.contains(rank) && !m.cause(rank);
            m.alarms.remove(due ? rank : -1);
            Check.same(run + " lift", x.lift(rank) ? 1 : 0, due ? 1 : 0);
        }
    }

    private void compare() {
        for (int what = 0; what < 9; what++) {
            Check.same(run + " state " + what, x.state(what), m.state(what));
        }
        Check.same(run + " muted", x.muted(), m.mute);
        Object[] standing = m.alarms.toArray();
        for (int i = 0; i < 6; i++) {
            Check.same(run + " alarm " + i, x.alarm(i), i < standing.length ? (Integer) standing[i] : -1);
        }
        compareReport(m.cycle);
    }

    private void compareReport(int cycle) {
        if (cycle < 0 || cycle >= m.reports.size()) {
            Check.outOfBounds(run + " report of " + cycle, () -> x.report(cycle, 0));
            return;
        }
        for (int field = 0; field < 4; field++) {
            Check.same(run + " report " + field, x.report(cycle, field), m.reports.get(cycle)[field]);
        }
    }
}

/** Each call that is refused or throws, wherever it does so, and each that only asks: none changes anything. */
public final class RefusedTest {
    private static final int MIN = Integer.MIN_VALUE;
    private static final int MAX = Integer.MAX_VALUE;
    private static final int[] LOWEST = {1, 500, 1, 0, 50, 1000, 1, 3000, 0};
    private static final int[] HIGHEST = {12, 30000, 240, 30000, 100, 40000, 900, 3900, 20000};
    private static final String STATE = "IllegalStateException";
    private static final String ARGUMENT = "IllegalArgumentException";
    private static final String BOUNDS = "IndexOutOfBoundsException";
    private static final String UNSUPPORTED = "UnsupportedOperationException";

    private final String name;
    private final Twins.Way way;
    private boolean on = true;
    private boolean startable = true;
    private int phase;
    private int moving = -1;
    private int standing;
    private int liftable;
    private int begun;

    private RefusedTest(String name, int phase, Twins.Way way) {
        this.name = name;
        this.phase = phase;
        this.way = way;
    }

    public static void main(String[] args) {
        betweenTherapies();
        inTherapy();
        standingStill();
        withoutPower();
        behindPower();
        Check.finish();
    }

    private static NightCycler prescribed() {
        return Night.prescribed(Night.CYCLES, 2, Night.FILL_VOLUME, 500, Night.LAST_VOLUME, 300,
            Night.RETAINED, 150, Night.CEILING, 2000, Night.NIGHT, 3);
    }

    private static NightCycler started() {
        NightCycler x = prescribed();
        Night.weigh(x, 8, 5000);
        x.start();
        return x;
    }

    private static NightCycler draining() {
        NightCycler x = started();
        Night.moveTimes(x, 3, 45);
        x.tick(20);
        return x;
    }

    private static NightCycler filling() {
        NightCycler x = started();
        Night.moveTimes(x, 1, 150);
        x.tick(61);
        x.stroke(0, 100);
        x.tick(1);
        return x;
    }

    private static NightCycler dwelling() {
        NightCycler x = filling();
        x.stroke(1, 200);
        Night.weigh(x, 8, 4985);
        Night.moveTimes(x, 1, 200);
        Night.weigh(x, 8, 4965);
        x.tick(100);
        return x;
    }

    /** In LAST behind its first stroke, the last cycle being the second. */
    private static NightCycler fillingLast() {
        NightCycler x = prescribed();
        x.start();
        x.tick(121);
        for (int cycle = 1; cycle <= 2; cycle++) {
            x.stroke(0, 180);
            Night.moveTimes(x, 2, 160);
            x.tick(240);
            Night.moveTimes(x, 4, 150);
            x.tick(61);
        }
        x.stroke(0, 180);
        x.tick(1);
        return x;
    }

    private static NightCycler ending() {
        NightCycler x = filling();
        x.end();
        Night.moveTimes(x, 1, 80);
        x.tick(1);
        return x;
    }

    private static NightCycler done() {
        NightCycler x = ending();
        x.stroke(1, 20);
        x.tick(200);
        return x;
    }

    private static void betweenTherapies() {
        new RefusedTest("new", Night.IDLE, () -> new NightCycler()).tryAll();
        new RefusedTest("IDLE", Night.IDLE, () -> {
            NightCycler x = prescribed();
            Night.weigh(x, 7, 5000);
            return x;
        }).tryAll();
        RefusedTest unsound = new RefusedTest("unsound", Night.IDLE, () -> {
            NightCycler x = prescribed();
            x.prescribe(Night.DWELL_MINUTES, 2);
            return x;
        });
        unsound.startable = false;
        unsound.tryAll();
        for (int alarm : new int[] {0, 1, 3, 4}) {
            alarmedWhenIdle(alarm, false);
            alarmedWhenIdle(alarm, true);
        }
        RefusedTest done = new RefusedTest("DONE", Night.DONE, () -> done());
        done.begun = 2;
        done.tryAll();
        notStartableWhenDone("DONE and unsound", 0, () -> {
            NightCycler x = done();
            x.prescribe(Night.CEILING, 1000);
            x.prescribe(Night.FILL_VOLUME, 1001);
            return x;
        });
        notStartableWhenDone("DONE with the line blocked", 1 << 4, () -> {
            NightCycler x = done();
            x.line(true);
            return x;
        });
    }

    private static void notStartableWhenDone(String name, int standing, Twins.Way way) {
        RefusedTest t = new RefusedTest(name, Night.DONE, way);
        t.startable = false;
        t.standing = standing;
        t.begun = 2;
        t.tryAll();
    }

    private static void alarmedWhenIdle(int alarm, boolean gone) {
        RefusedTest t = new RefusedTest("IDLE with alarm " + alarm + (gone ? ", cause gone" : ""), Night.IDLE, () -> {
            NightCycler x = prescribed();
            Night.cause(x, alarm, true);
            Night.cause(x, alarm, !gone);
            return x;
        });
        t.startable = false;
        t.standing = 1 << alarm;
        t.liftable = gone ? 1 << alarm : 0;
        t.tryAll();
    }

    private static void inTherapy() {
        inPhase("just started", Night.DRAIN, -1, 1, () -> started());
        inPhase("DRAIN", Night.DRAIN, 1, 1, () -> draining());
        inPhase("FILL", Night.FILL, 1, 2, () -> filling());
        inPhase("DWELL", Night.DWELL, -1, 2, () -> dwelling());
        inPhase("LAST", Night.LAST, 1, 3, () -> fillingLast());
        inPhase("END", Night.END, 1, 2, () -> ending());
        inPhase("END just begun", Night.END, -1, 2, () -> {
            NightCycler x = filling();
            x.end();
            return x;
        });
        inPhase("FILL behind its stroke", Night.FILL, -1, 2, () -> {
            NightCycler x = filling();
            x.stroke(1, 0);
            return x;
        });
    }

    private static void inPhase(String name, int phase, int moving, int begun, Twins.Way way) {
        RefusedTest t = new RefusedTest(name, phase, way);
        t.moving = moving;
        t.begun = begun;
        t.tryAll();
    }

    private static void standingStill() {
        inPhase("paused", Night.FILL, -1, 2, () -> {
            NightCycler x = filling();
            x.pause(true);
            x.tick(1);
            return x;
        });
        for (int alarm = 0; alarm < 5; alarm++) {
            alarmedInFill(alarm);
        }
    }

    /** With the alarm muted, so that a change of that would be seen, too. */
    private static void alarmedInFill(int alarm) {
        RefusedTest t = new RefusedTest("FILL with cause " + alarm, Night.FILL, () -> {
            NightCycler x = filling();
            Night.cause(x, alarm, true);
            x.tick(1);
            x.mute();
            x.tick(1);
            return x;
        });
        t.moving = alarm == 3 ? 1 : -1;
        t.standing = 1 << alarm;
        t.begun = 2;
        t.tryAll();
    }

    private static void withoutPower() {
        cut("never started, without power", 0, () -> new NightCycler(), 6);
        cut("DRAIN, without power", 1, () -> draining(), 6);
        cut("FILL, without power", 2, () -> filling(), 6);
        cut("FILL, without power or the latest page", 2, () -> filling(), 5);
        cut("DONE, without power", 2, () -> done(), 6);
    }

    private static void cut(String name, int begun, Twins.Way way, int words) {
        RefusedTest t = new RefusedTest(name, Night.IDLE, () -> {
            NightCycler x = way.go();
            x.cut(words);
            return x;
        });
        t.on = false;
        t.begun = begun;
        t.tryAll();
    }

    private static void behindPower() {
        inPhase("FILL taken up", Night.FILL, -1, 2, () -> {
            NightCycler x = filling();
            x.cut(6);
            x.power(120);
            return x;
        });
        inPhase("END behind a long cut", Night.END, -1, 2, () -> {
            NightCycler x = filling();
            x.cut(6);
            x.power(121);
            return x;
        });
        RefusedTest idle = new RefusedTest("IDLE behind a cut", Night.IDLE, () -> {
            NightCycler x = done();
            x.cut(6);
            x.power(0);
            return x;
        });
        idle.begun = 2;
        idle.tryAll();
    }

    private void refuse(String what, Object due, Twins.Call call) {
        Twins.unchanged(name + ": " + what, way, due, call);
    }

    private boolean isBetween() {
        return on && (phase == Night.IDLE || phase == Night.DONE);
    }

    private boolean isInTherapy() {
        return on && phase != Night.IDLE && phase != Night.DONE;
    }

    private void tryAll() {
        NightCycler x = way.go();
        Check.same(name + ": phase", x.state(0), phase);
        prescribe();
        start();
        pauseAndEnd();
        tick();
        stroke();
        scaleAndHeat();
        tellWithoutPower();
        lift();
        alarmsAndMute();
        cutAndPower();
        state();
        report();
    }

    private void prescribe(int field, int value, String due) {
        refuse("prescribe(" + field + ", " + value + ")", due, x -> {
            x.prescribe(field, value);
            return "prescribed";
        });
    }

    private void prescribe() {
        String due = isBetween() ? ARGUMENT : STATE;
        for (int field : new int[] {-1, 9, MIN, MAX}) {
            prescribe(field, 1, due);
        }
        for (int field = 0; field < 9; field++) {
            prescribe(field, LOWEST[field] - 1, due);
            prescribe(field, HIGHEST[field] + 1, due);
            prescribe(field, MIN, due);
            prescribe(field, MAX, due);
            if (!isBetween()) {
                prescribe(field, LOWEST[field], due);
                prescribe(field, HIGHEST[field], due);
            }
        }
    }

    private void start() {
        if (!isBetween() || !startable) {
            refuse("start", isBetween() ? UNSUPPORTED : STATE, x -> {
                x.start();
                return "started";
            });
        }
    }

    private void pauseAndEnd() {
        if (!isInTherapy()) {
            for (boolean which : new boolean[] {true, false}) {
                refuse("pause(" + which + ")", STATE, x -> {
                    x.pause(which);
                    return "paused";
                });
            }
        }
        if (!isInTherapy() || phase == Night.END) {
            refuse("end", STATE, x -> {
                x.end();
                return "ended";
            });
        }
    }

    private void tick() {
        for (int n : new int[] {0, -1, 5001, MIN, MAX}) {
            refuse("tick(" + n + ")", on ? ARGUMENT : STATE, x -> x.tick(n));
        }
        if (!on) {
            refuse("tick(1)", STATE, x -> x.tick(1));
            refuse("tick(5000)", STATE, x -> x.tick(5000));
        }
    }

    private void stroke(int chamber, int volume) {
        refuse("stroke(" + chamber + ", " + volume + ")", false, x -> x.stroke(chamber, volume));
    }

    private void stroke() {
        for (int chamber : new int[] {-1, 2, MIN, MAX}) {
            stroke(chamber, 100);
        }
        for (int chamber = 0; chamber < 2; chamber++) {
            for (int volume : new int[] {-1, 201, MIN, MAX}) {
                stroke(chamber, volume);
            }
            if (chamber != moving) {
                stroke(chamber, 0);
                stroke(chamber, 200);
            }
        }
    }

    private void heat(int sensor, int value) {
        refuse("heat(" + sensor + ", " + value + ")", false, x -> x.heat(sensor, value));
    }

    private void scaleAndHeat() {
        for (int grams : new int[] {-1, 100001, MIN, MAX}) {
            refuse("scale(" + grams + ")", false, x -> x.scale(grams));
        }
        for (int sensor : new int[] {-1, 2, MIN, MAX}) {
            heat(sensor, 3600);
        }
        for (int sensor = 0; sensor < 2; sensor++) {
            for (int value : new int[] {-5001, 10001, MIN, MAX}) {
                heat(sensor, value);
            }
        }
        if (!on) {
            refuse("scale(0)", false, x -> x.scale(0));
            refuse("scale(5000)", false, x -> x.scale(5000));
            heat(0, 3600);
            heat(1, 9000);
        }
    }

    private void tellWithoutPower() {
        if (on) {
            return;
        }
        for (boolean which : new boolean[] {true, false}) {
            refuse("air(" + which + ")", "told", x -> {
                x.air(which);
                return "told";
            });
            refuse("door(" + which + ")", "told", x -> {
                x.door(which);
                return "told";
            });
            refuse("line(" + which + ")", "told", x -> {
                x.line(which);
                return "told";
            });
        }
    }

    private void lift() {
        for (int alarm : new int[] {-1, 0, 1, 2, 3, 4, 5, MIN, MAX}) {
            if (alarm < 0 || alarm > 4 || (liftable >> alarm & 1) == 0) {
                refuse("lift(" + alarm + ")", false, x -> x.lift(alarm));
            }
        }
    }

    private void alarmsAndMute() {
        int next = 0;
        for (int alarm = 0; alarm < 5; alarm++) {
            if ((standing >> alarm & 1) == 1) {
                int i = next;
                refuse("alarm(" + i + ")", alarm, x -> x.alarm(i));
                next++;
            }
        }
        for (int i : new int[] {-1, next, 5, MIN, MAX}) {
            refuse("alarm(" + i + ")", -1, x -> x.alarm(i));
        }
        refuse("muted", null, x -> x.muted());
        if (standing == 0) {
            refuse("mute", false, x -> x.mute());
        }
    }

    private void cut(int words) {
        refuse("cut(" + words + ")", on ? ARGUMENT : STATE, x -> {
            x.cut(words);
            return "cut";
        });
    }

    private void cutAndPower() {
        for (int words : new int[] {-1, 7, MIN, MAX}) {
            cut(words);
        }
        for (int minutes : new int[] {-1, MIN}) {
            refuse("power(" + minutes + ")", on ? STATE : ARGUMENT, x -> x.power(minutes));
        }
        if (on) {
            for (int minutes : new int[] {0, 120, 121, MAX}) {
                refuse("power(" + minutes + ")", STATE, x -> x.power(minutes));
            }
        } else {
            cut(0);
            cut(5);
            cut(6);
        }
    }

    private void state() {
        for (int what : new int[] {-1, 9, MIN, MAX}) {
            refuse("state(" + what + ")", ARGUMENT, x -> x.state(what));
        }
        for (int what = 0; what < 9; what++) {
            int w = what;
            refuse("state(" + what + ")", null, x -> x.state(w));
        }
    }

    private void report(int cycle, int field, Object due) {
        refuse("report(" + cycle + ", " + field + ")", due, x -> x.report(cycle, field));
    }

    private void report() {
        for (int cycle : new int[] {-1, begun, 12, 13, MIN, MAX}) {
            report(cycle, 0, BOUNDS);
            report(cycle, 3, BOUNDS);
            report(cycle, 4, BOUNDS);
        }
        for (int cycle = 0; cycle < begun; cycle++) {
            for (int field : new int[] {-1, 4, MIN, MAX}) {
                report(cycle, field, ARGUMENT);
            }
            report(cycle, 0, null);
            report(cycle, 3, null);
        }
    }
}

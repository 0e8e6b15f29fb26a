/** Promise 1. */
public final class NewObjectTest {
    public static void main(String[] args) {
        NightCycler x = new NightCycler();
        int[] due = {Night.IDLE, 0, 0, Night.UNKNOWN, 0, 0, 0, 0, 0};
        for (int what = 0; what < due.length; what++) {
            Check.same("state(" + what + ")", x.state(what), due[what]);
        }
        Check.same("no alarm", x.alarm(0), -1);
        Check.same("not mute", x.muted(), 0);
        Check.outOfBounds("no report", () -> x.report(0, 0));
        Check.badState("power is on", () -> x.power(0));
        Check.same("a tick", x.tick(1), 0);
        Check.same("no alarm behind a tick", x.alarm(0), -1);
        sensorsAtFirst();
        prescriptionAtFirst();
        nothingStandsInTheWay();
        firstValues();
        Check.finish();
    }

    private static void sensorsAtFirst() {
        NightCycler x = new NightCycler();
        x.heat(0, 3550);
        Check.same("the other sensor is 3700: 3550 differs by 150", x.alarm(0), -1);
        x.heat(0, 3549);
        Check.same("3549 differs by 151", x.alarm(0), 3);
        NightCycler y = new NightCycler();
        y.heat(1, 3850);
        Check.same("3850 differs by 150", y.alarm(0), -1);
        y.heat(1, 3851);
        Check.same("3851 differs by 151", y.alarm(0), 3);
    }

    private static void prescriptionAtFirst() {
        NightCycler x = Night.inFirstFill();
        Check.same("the initial drain is over at once: RETAINED is 0", x.state(0), Night.FILL);
        Night.moveTimes(x, 10, 200);
        Check.same("FILL is 2000", x.tick(1), 0);
        Check.same("then it dwells", x.state(0), Night.DWELL);
        x.tick(239);
        Check.same("DWELL is a minute", x.state(0), Night.DWELL);
        x.tick(1);
        Check.same("then it drains", x.state(0), Night.DRAIN);
        Night.moveTimes(x, 8, 200);
        x.tick(61);
        Check.same("LEAST is 80: 1600 of 2000 are enough", x.state(0), Night.FILL);
        Check.same("not poor", x.report(1, 3), 0);
        fillAndLeastAtFirst();
        ceilingAtFirst();
        nightAtFirst();
        cyclesAndLastAtFirst();
    }

    private static void ceilingAtFirst() {
        NightCycler x = Night.prescribed(Night.FILL_VOLUME, 5000);
        x.start();
        NightCycler y = Night.prescribed(Night.FILL_VOLUME, 5001);
        Check.unsupported("CEILING is 5000", () -> y.start());
    }

    private static void nightAtFirst() {
        Night.prescribed(Night.DWELL_MINUTES, 20).start();
        NightCycler y = Night.prescribed(Night.DWELL_MINUTES, 21);
        Check.unsupported("NIGHT is 60, CYCLES 3", () -> y.start());
        NightCycler z = Night.prescribed(Night.CYCLES, 1, Night.DWELL_MINUTES, 61);
        Check.unsupported("NIGHT is 60", () -> z.start());
    }

    private static void fillAndLeastAtFirst() {
        NightCycler x = Night.inFirstFill();
        Night.moveTimes(x, 9, 200);
        Night.moveTimes(x, 1, 199);
        x.tick(1);
        Check.same("FILL is not 1999", x.state(0), Night.FILL);
        x.stroke(0, 1);
        x.tick(240);
        Night.moveTimes(x, 7, 200);
        Night.moveTimes(x, 1, 199);
        x.tick(61);
        Check.same("1599 of 2000 are not LEAST", x.state(0), Night.DRAIN);
        x.tick(59);
        Check.same("it is tried again", x.state(0), Night.DRAIN);
        x.tick(1);
        Check.same("and over", x.state(0), Night.FILL);
        Check.same("poor", x.report(1, 3), 1);
    }

    private static void cyclesAndLastAtFirst() {
        NightCycler x = Night.inFirstFill();
        int phases = 0;
        for (int i = 0; i < 400 && x.state(0) != Night.DONE; i++) {
            Night.move(x, 200);
            phases = Math.max(phases, x.state(1));
            Check.no("no LAST", x.state(0) == Night.LAST);
            if (x.state(0) == Night.DWELL) {
                x.tick(240);
            }
            if (x.state(0) == Night.DRAIN && x.state(2) <= 0) {
                x.tick(61);
            }
        }
        Check.same("DONE", x.state(0), Night.DONE);
        Check.same("CYCLES is 3", phases, 3);
    }

    private static void nothingStandsInTheWay() {
        NightCycler x = new NightCycler();
        for (int alarm = 0; alarm < 5; alarm++) {
            Check.no("no alarm to lift", x.lift(alarm));
        }
        x.start();
        Check.same("the line is free, the door shut, no air", x.tick(1), Night.DRAIN_0);
        Check.same("no heater at 3700, the target being 3700", x.tick(1) & Night.HEATER, 0);
        NightCycler colder = new NightCycler();
        colder.start();
        colder.heat(0, 3649);
        Check.same("TARGET is not below 3700", colder.tick(1) & Night.HEATER, Night.HEATER);
        NightCycler warmer = new NightCycler();
        warmer.start();
        warmer.heat(0, 3650);
        Check.same("nor above", warmer.tick(1) & Night.HEATER, 0);
        NightCycler eighth = new NightCycler();
        Night.weigh(eighth, 7, 5000);
        eighth.start();
        Check.same("no weight was there", eighth.state(3), Night.UNKNOWN);
    }

    private static void firstValues() {
        NightCycler last = Night.prescribed(Night.CEILING, 2000);
        last.start();
        Check.same("FILL is at most 2000, RETAINED 0", last.state(2), 0);
        NightCycler fill = Night.prescribed(Night.CEILING, 1999);
        Check.unsupported("FILL is at least 2000", () -> fill.start());
    }
}

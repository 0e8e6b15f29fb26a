/** Promise 3. */
public final class StartTest {
    public static void main(String[] args) {
        aTherapyStarts();
        reportsAreEmpty();
        soundness();
        alarmsForbid();
        onlyBetweenTherapies();
        theBaseIsTaken();
        whatAStartLeaves();
        Check.finish();
    }

    private static void aTherapyStarts() {
        NightCycler x = Night.started(Night.RETAINED, 700);
        int[] due = {Night.DRAIN, 0, 700, Night.UNKNOWN, 0, 0, 0, 0, 1};
        for (int what = 0; what < due.length; what++) {
            Check.same("state(" + what + ")", x.state(what), due[what]);
        }
        Check.no("nothing is ordered before the first tick", x.stroke(0, 1));
    }

    private static void reportsAreEmpty() {
        NightCycler x = Night.inFirstFill(Night.CYCLES, 1);
        Night.moveTimes(x, 2, 200);
        x.end();
        Night.moveTimes(x, 1, 200);
        x.tick(200);
        Check.same("DONE", x.state(0), Night.DONE);
        Check.same("filled", x.report(1, 0), 400);
        Check.same("poor", x.report(1, 3), 1);
        int number = x.state(8);
        x.start();
        Check.same("A is RETAINED", x.state(2), 0);
        Check.same("the cycle", x.state(1), 0);
        Check.same("a page is written", x.state(8), number + 1);
        for (int field = 0; field < 4; field++) {
            Check.same("report of the initial drain", x.report(0, field), 0);
        }
        Check.outOfBounds("the old report is gone", () -> x.report(1, 0));
        x.tick(61);
        for (int field = 0; field < 4; field++) {
            Check.same("the new report is empty", x.report(1, field), 0);
        }
    }

    private static void soundness() {
        Night.prescribed(Night.CEILING, 3000, Night.FILL_VOLUME, 3000).start();
        NightCycler fill = Night.prescribed(Night.CEILING, 3000, Night.FILL_VOLUME, 3001);
        Check.unsupported("FILL above the ceiling", () -> fill.start());
        Night.prescribed(Night.CEILING, 3000, Night.LAST_VOLUME, 3000).start();
        NightCycler last = Night.prescribed(Night.CEILING, 3000, Night.LAST_VOLUME, 3001);
        Check.unsupported("LAST above the ceiling", () -> last.start());
        Night.prescribed(Night.CEILING, 3000, Night.RETAINED, 3000).start();
        NightCycler retained = Night.prescribed(Night.CEILING, 3000, Night.RETAINED, 3001);
        Check.unsupported("RETAINED above the ceiling", () -> retained.start());
        Night.prescribed(Night.CYCLES, 4, Night.DWELL_MINUTES, 25, Night.NIGHT, 100).start();
        NightCycler night = Night.prescribed(Night.CYCLES, 4, Night.DWELL_MINUTES, 25, Night.NIGHT, 99);
        Check.unsupported("the night is too short", () -> night.start());
        Check.same("it is IDLE still", night.state(0), Night.IDLE);
        Check.same("no page", night.state(8), 0);
        night.prescribe(Night.NIGHT, 100);
        night.start();
    }

    private static void alarmsForbid() {
        for (int alarm : new int[] {0, 1, 3, 4}) {
            NightCycler x = new NightCycler();
            Night.cause(x, alarm, true);
            Check.unsupported("with the cause " + alarm, () -> x.start());
            Night.cause(x, alarm, false);
            Check.unsupported("with the alarm " + alarm, () -> x.start());
            Check.yes("lift " + alarm, x.lift(alarm));
            x.start();
            Check.same("started", x.state(0), Night.DRAIN);
        }
    }

    private static void onlyBetweenTherapies() {
        NightCycler x = Night.started();
        Check.badState("started already", () -> x.start());
        x.air(true);
        Check.badState("the state is looked at first", () -> x.start());
        x.air(false);
        x.lift(0);
        x.end();
        Check.badState("in END", () -> x.start());
        x.tick(61);
        x.start();
        Check.same("from DONE", x.state(0), Night.DRAIN);
        NightCycler off = new NightCycler();
        off.cut(6);
        Check.badState("without power", () -> off.start());
        off.power(0);
        off.start();
    }

    private static void theBaseIsTaken() {
        NightCycler x = Night.prescribed(Night.RETAINED, 700);
        Night.weigh(x, 8, 4000);
        Check.same("no base before", x.state(3), Night.UNKNOWN);
        x.start();
        Check.same("B is RETAINED", x.state(3), 700);
        NightCycler y = Night.prescribed(Night.RETAINED, 700);
        Night.weigh(y, 7, 4000);
        y.start();
        Check.same("seven weights are no base", y.state(3), Night.UNKNOWN);
        y.scale(4000);
        Check.same("there was no base when it started", y.state(3), Night.UNKNOWN);
        y.end();
        y.tick(200);
        y.start();
        Check.same("now there is one", y.state(3), 700);
        y.end();
        y.tick(200);
        Night.weigh(y, 8, 3990);
        Check.same("B goes on when DONE", y.state(3), 800);
        y.start();
        Check.same("a new base", y.state(3), 700);
    }

    /** Weights, how long alarms are mute and what the heater was in the latest tick are none of the start's. */
    private static void whatAStartLeaves() {
        NightCycler x = new NightCycler();
        x.line(true);
        x.mute();
        x.line(false);
        x.lift(4);
        Night.weigh(x, 8, 5000);
        x.start();
        Check.same("mute", x.muted(), 480);
        Check.same("the weights", x.state(3), 0);
        x.heat(0, 3640);
        x.end();
        Check.same("the tick in which DONE begins", x.tick(61), Night.HEATER);
        Check.same("DONE", x.state(0), Night.DONE);
        x.heat(0, 3660);
        x.start();
        Check.same("the heater was on in the latest tick", x.tick(1), Night.DRAIN_0 + Night.HEATER);
        Check.same("mutes ran down by each tick", x.muted(), 480 - 62);
    }
}

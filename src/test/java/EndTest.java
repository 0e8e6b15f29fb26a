/** Promise 5. */
public final class EndTest {
    public static void main(String[] args) {
        itGoesOnWithEnd();
        allIsShut();
        theHeaterBeginsOff();
        fromEachPhase();
        notWhereNoTherapyGoesOn();
        Check.finish();
    }

    private static void itGoesOnWithEnd() {
        NightCycler x = Night.inFirstFill();
        Night.moveTimes(x, 3, 200);
        x.pause(true);
        int number = x.state(8);
        x.end();
        int[] due = {Night.END, 1, 600, Night.UNKNOWN, 0, 0, 0, 0, number + 1};
        for (int what = 0; what < due.length; what++) {
            Check.same("state(" + what + ")", x.state(what), due[what]);
        }
        Check.same("chamber 0 is first", x.tick(1), Night.DRAIN_0);
        Check.yes("it drains", x.stroke(0, 200));
        Night.moveTimes(x, 2, 200);
        Check.same("A", x.state(2), 0);
        Check.same("taken", x.state(5), 600);
        x.tick(61);
        Check.same("then DONE", x.state(0), Night.DONE);
        Check.same("the cycle stays", x.state(1), 1);
        Check.same("drained", x.report(1, 1), 600);
        Check.same("not poor", x.report(1, 3), 0);
    }

    private static void allIsShut() {
        NightCycler x = Night.inFirstFill();
        x.end();
        Check.no("no stroke till the next tick", x.stroke(0, 200));
        Check.no("of no chamber", x.stroke(1, 200));
        Check.same("A", x.state(2), 0);
    }

    private static void theHeaterBeginsOff() {
        NightCycler x = Night.inFirstFill();
        x.heat(0, 3640);
        x.tick(1);
        x.heat(0, 3660);
        Check.same("on", x.tick(1), Night.FILL_0 + Night.HEATER);
        x.end();
        Check.same("as if it had been off", x.tick(1), Night.DRAIN_0);
        NightCycler y = Night.inFirstFill();
        y.heat(0, 3640);
        y.tick(1);
        y.end();
        Check.same("on, as it is cold", y.tick(1), Night.DRAIN_0 + Night.HEATER);
    }

    private static void fromEachPhase() {
        NightCycler drain = Night.started();
        drain.end();
        Check.same("from DRAIN", drain.state(0), Night.END);
        NightCycler dwell = Night.inFirstFill(Night.FILL_VOLUME, 500);
        Night.moveTimes(dwell, 3, 200);
        dwell.tick(10);
        Check.same("in DWELL", dwell.state(0), Night.DWELL);
        dwell.end();
        Check.same("from DWELL", dwell.state(0), Night.END);
        Check.same("ticks of dwell stay", dwell.report(1, 2), 10);
        NightCycler last = Night.inFirstFill(Night.CYCLES, 1, Night.LAST_VOLUME, 500, Night.FILL_VOLUME, 500);
        Night.moveTimes(last, 3, 200);
        last.tick(240);
        Night.moveTimes(last, 3, 200);
        last.tick(61);
        Check.same("in LAST", last.state(0), Night.LAST);
        last.end();
        Check.same("from LAST", last.state(0), Night.END);
        NightCycler safe = Night.started();
        safe.air(true);
        safe.end();
        Check.same("when it is safe", safe.state(0), Night.END);
        Check.same("but nothing moves", safe.tick(1), 0);
    }

    private static void notWhereNoTherapyGoesOn() {
        NightCycler idle = new NightCycler();
        Check.badState("IDLE", () -> idle.end());
        NightCycler x = Night.started();
        x.end();
        Check.badState("END", () -> x.end());
        x.tick(61);
        Check.badState("DONE", () -> x.end());
        NightCycler off = Night.started();
        off.cut(6);
        Check.badState("without power", () -> off.end());
    }
}

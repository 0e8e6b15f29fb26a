/** Promise 4. */
public final class PauseTest {
    public static void main(String[] args) {
        onlyInTherapy();
        nothingGoesOn();
        aStrokeOfTheLatestTickIsStillAccepted();
        theHeaterBeginsOff();
        inEachPhase();
        Check.finish();
    }

    private static void onlyInTherapy() {
        NightCycler x = new NightCycler();
        Check.badState("IDLE", () -> x.pause(true));
        Check.badState("IDLE, false", () -> x.pause(false));
        NightCycler done = Night.done();
        Check.badState("DONE", () -> done.pause(true));
        NightCycler off = Night.started();
        off.cut(6);
        Check.badState("without power", () -> off.pause(true));
        off.power(0);
        off.pause(true);
        Check.same("paused", off.state(7), 1);
        off.cut(6);
        Check.same("not paused without power", off.state(7), 0);
        off.power(0);
        Check.same("not paused behind a cut", off.state(7), 0);
    }

    private static void nothingGoesOn() {
        NightCycler x = Night.started();
        x.tick(60);
        x.pause(true);
        Check.same("paused", x.state(7), 1);
        Check.same("orders", x.tick(1000), 0);
        Check.same("ticks of the phase", x.state(4), 60);
        Check.same("the phase", x.state(0), Night.DRAIN);
        x.pause(true);
        Check.same("paused again", x.state(7), 1);
        x.door(false);
        Check.same("causes are looked at", x.alarm(0), 1);
        x.mute();
        x.tick(10);
        Check.same("mutes run down", x.muted(), 470);
        x.door(true);
        x.lift(1);
        x.pause(false);
        Check.same("not paused", x.state(7), 0);
        Check.same("it goes on", x.tick(1), Night.FILL_0);
    }

    private static void aStrokeOfTheLatestTickIsStillAccepted() {
        NightCycler x = Night.inFirstFill();
        x.pause(true);
        Check.yes("the latest tick ordered it", x.stroke(0, 200));
        x.tick(1);
        Check.no("now nothing moves", x.stroke(1, 200));
        Check.same("A", x.state(2), 200);
    }

    private static void theHeaterBeginsOff() {
        NightCycler x = Night.inFirstFill();
        x.heat(0, 3640);
        Check.same("on", x.tick(1), Night.FILL_0 + Night.HEATER);
        x.heat(0, 3660);
        Check.same("still on", x.tick(1), Night.FILL_0 + Night.HEATER);
        x.pause(true);
        x.pause(false);
        Check.same("no tick was paused", x.tick(1), Night.FILL_0 + Night.HEATER);
        x.pause(true);
        x.tick(1);
        x.pause(false);
        Check.same("it was off in the paused tick", x.tick(1), Night.FILL_0);
    }

    private static void inEachPhase() {
        NightCycler x = Night.started(Night.CYCLES, 1, Night.FILL_VOLUME, 500, Night.LAST_VOLUME, 300);
        pausedIn(x, Night.DRAIN);
        x.tick(61);
        pausedIn(x, Night.FILL);
        Night.moveTimes(x, 3, 200);
        x.tick(1);
        pausedIn(x, Night.DWELL);
        x.tick(240);
        pausedIn(x, Night.DRAIN);
        Night.moveTimes(x, 3, 200);
        x.tick(61);
        pausedIn(x, Night.LAST);
        x.end();
        pausedIn(x, Night.END);
        x.tick(61);
        Check.same("DONE", x.state(0), Night.DONE);
        Check.badState("DONE", () -> x.pause(false));
    }

    private static void pausedIn(NightCycler x, int phase) {
        Check.same("phase", x.state(0), phase);
        x.pause(true);
        Check.same("paused in " + phase, x.state(7), 1);
        int ticks = x.state(4);
        Check.same("nothing is ordered in " + phase, x.tick(300), 0);
        Check.same("no tick in " + phase, x.state(4), ticks);
        Check.same("no other phase than " + phase, x.state(0), phase);
        x.pause(false);
        Check.same("not paused in " + phase, x.state(7), 0);
        x.pause(false);
        Check.same("nor twice", x.state(7), 0);
    }
}

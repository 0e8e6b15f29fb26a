/** Promise 6: how a therapy goes on, and the orders. (A drain's judgement is in DrainTest.) */
public final class TickTest {
    public static void main(String[] args) {
        numbers();
        aWholeTherapy();
        manyTicksAreAsManyOnes();
        fillIsOverWhenEnoughIsFilled();
        vetoByBookA();
        vetoByBookB();
        vetoAtTheBeginning();
        dwellMinutes();
        lastFill();
        safeState();
        heater();
        heaterInEachPhase();
        oneAndFiveThousand();
        onePhaseInATick();
        vetoInLast();
        ticksThatDoNotCount();
        heaterAtTheEdgesOfHeat();
        heaterBetweenTheLimits();
        chamberZeroFirstInEachPhase();
        wantedFromBelowNothing();
        wantedUpToTheCeiling();
        Check.finish();
    }

    private static void numbers() {
        NightCycler x = new NightCycler();
        Check.badArgument("0", () -> x.tick(0));
        Check.badArgument("-1", () -> x.tick(-1));
        Check.badArgument("5001", () -> x.tick(5001));
        Check.badArgument("far below", () -> x.tick(Integer.MIN_VALUE));
        Check.badArgument("far above", () -> x.tick(Integer.MAX_VALUE));
        Check.same("1", x.tick(1), 0);
        Check.same("5000", x.tick(5000), 0);
        x.cut(6);
        Check.badState("without power", () -> x.tick(1));
        Check.badState("the state is looked at first", () -> x.tick(0));
    }

    private static void aWholeTherapy() {
        NightCycler x = Night.prescribed(Night.CYCLES, 2, Night.FILL_VOLUME, 500, Night.LAST_VOLUME, 300,
            Night.RETAINED, 200);
        x.start();
        Check.same("the first tick", x.tick(1), Night.DRAIN_0);
        x.stroke(0, 200);
        Check.same("60 ticks behind the stroke", x.tick(60), Night.DRAIN_1);
        for (int cycle = 1; cycle <= 2; cycle++) {
            Check.same("FILL begins", x.tick(1), Night.FILL_0);
            Check.same("its cycle", x.state(1), cycle);
            Check.same("its phase", x.state(0), Night.FILL);
            Check.same("its tick is counted", x.state(4), 1);
            x.stroke(0, 200);
            Check.same("chamber 1", x.tick(1), Night.FILL_1);
            x.stroke(1, 200);
            Check.same("chamber 0 again", x.tick(1), Night.FILL_0);
            x.stroke(0, 100);
            Check.same("DWELL begins", x.tick(1), 0);
            Check.same("its phase", x.state(0), Night.DWELL);
            Check.same("nothing is moved in it", x.state(5), 0);
            Check.same("it stays", x.tick(239), 0);
            Check.same("DRAIN begins, chamber 0 first", x.tick(1), Night.DRAIN_0);
            Check.same("its phase", x.state(0), Night.DRAIN);
            Check.same("its cycle", x.state(1), cycle);
            x.stroke(0, 200);
            Night.moveTimes(x, 2, 150);
            Check.same("it waits for flow", x.tick(60), Night.DRAIN_1);
        }
        Check.same("LAST begins", x.tick(1), Night.FILL_0);
        Check.same("its phase", x.state(0), Night.LAST);
        Check.same("its cycle", x.state(1), 2);
        x.stroke(0, 200);
        Night.moveTimes(x, 1, 100);
        Check.same("DONE begins", x.tick(1), 0);
        Check.same("its phase", x.state(0), Night.DONE);
        Check.same("its tick", x.state(4), 1);
        Check.same("nothing more", x.tick(100), 0);
        Check.same("no ticks are counted when DONE", x.state(4), 1);
        Check.same("A", x.state(2), 300);
    }

    private static void manyTicksAreAsManyOnes() {
        NightCycler one = Night.started(Night.RETAINED, 1000);
        NightCycler many = Night.started(Night.RETAINED, 1000);
        int orders = 0;
        for (int i = 0; i < 130; i++) {
            orders = one.tick(1);
        }
        Check.same("orders", many.tick(130), orders);
        for (int what = 0; what < 9; what++) {
            Check.same("state(" + what + ")", many.state(what), one.state(what));
        }
    }

    private static void fillIsOverWhenEnoughIsFilled() {
        NightCycler x = Night.inFirstFill(Night.FILL_VOLUME, 500);
        Night.moveTimes(x, 2, 200);
        Night.moveTimes(x, 1, 99);
        x.tick(3000);
        Check.same("499 are not enough, however long", x.state(0), Night.FILL);
        x.stroke(1, 1);
        Check.same("the phase changes in a tick only", x.state(0), Night.FILL);
        x.tick(1);
        Check.same("500 are", x.state(0), Night.DWELL);
    }

    private static void vetoByBookA() {
        NightCycler x = Night.inFirstFill(Night.CEILING, 1000, Night.FILL_VOLUME, 1000);
        Night.moveTimes(x, 5, 160);
        Check.same("800 and 200 are not more than 1000", x.tick(1), Night.FILL_1);
        NightCycler y = Night.inFirstFill(Night.CEILING, 1000, Night.FILL_VOLUME, 1000);
        Night.moveTimes(y, 4, 160);
        Night.moveTimes(y, 1, 161);
        Check.same("801 and 200 are", y.tick(1), 0);
        Check.same("so FILL is over", y.state(0), Night.DWELL);
    }

    /** In FILL behind 700, with both books at work, the last weights being as told. */
    private static NightCycler filledBy700(int retained, int grams) {
        NightCycler x = Night.weighedInFirstFill(Night.CEILING, 1000, Night.FILL_VOLUME, 1000,
            Night.RETAINED, retained);
        for (int i = 1; i <= 3; i++) {
            Night.moveTimes(x, 1, 200);
            Night.weigh(x, 8, 5000 - 20 * i);
        }
        Night.moveTimes(x, 1, 100);
        Night.weigh(x, 8, grams);
        return x;
    }

    private static void vetoByBookB() {
        NightCycler x = filledBy700(0, 4920);
        Check.same("B", x.state(3), 800);
        Check.same("800 and 200 are not more than 1000", x.tick(1), Night.FILL_0);
        NightCycler y = filledBy700(1, 4920);
        Check.same("B", y.state(3), 801);
        Check.same("the books agree", y.alarm(0), -1);
        Check.same("801 and 200 are", y.tick(1), 0);
        Check.same("so FILL is over", y.state(0), Night.DWELL);
    }

    private static void vetoAtTheBeginning() {
        NightCycler x = Night.started(Night.CEILING, 1000, Night.FILL_VOLUME, 500, Night.RETAINED, 900);
        x.tick(120);
        Check.same("one phase in a tick: all is shut in FILL", x.tick(1), 0);
        Check.same("FILL", x.state(0), Night.FILL);
        Check.no("no stroke", x.stroke(0, 1));
        x.tick(1);
        Check.same("then DWELL", x.state(0), Night.DWELL);
        Check.same("nothing was filled", x.report(1, 0), 0);

        NightCycler warm = Night.started(Night.CEILING, 1000, Night.FILL_VOLUME, 500, Night.RETAINED, 900);
        warm.tick(120);
        warm.heat(0, 3600);
        Check.same("but the heater", warm.tick(1), Night.HEATER);

        NightCycler most = Night.started(Night.CEILING, 1000, Night.FILL_VOLUME, 1000, Night.RETAINED, 800);
        most.tick(120);
        Check.same("800 and 200 pass", most.tick(1), Night.FILL_0);
        most.stroke(0, 200);
        most.tick(1);
        Check.same("200 were wanted", most.state(0), Night.DWELL);
    }

    private static void dwellMinutes() {
        NightCycler x = Night.inFirstFill(Night.FILL_VOLUME, 500, Night.DWELL_MINUTES, 3);
        Night.moveTimes(x, 3, 200);
        x.tick(720);
        Check.same("three minutes", x.state(0), Night.DWELL);
        Check.same("their ticks", x.state(4), 720);
        x.tick(1);
        Check.same("over", x.state(0), Night.DRAIN);
        Check.same("the first tick of DRAIN", x.state(4), 1);
    }

    private static NightCycler behindTheLastDrain(int last) {
        NightCycler x = Night.inFirstFill(Night.CYCLES, 1, Night.FILL_VOLUME, 500, Night.LAST_VOLUME, last,
            Night.CEILING, 1000);
        Night.moveTimes(x, 3, 170);
        x.tick(240);
        Night.moveTimes(x, 3, 170);
        x.tick(61);
        return x;
    }

    private static void lastFill() {
        NightCycler none = behindTheLastDrain(0);
        Check.same("without LAST", none.state(0), Night.DONE);
        NightCycler least = behindTheLastDrain(1);
        Check.same("LAST is 1", least.state(0), Night.LAST);
        least.tick(1000);
        Check.same("it waits for it", least.state(0), Night.LAST);
        least.stroke(0, 1);
        least.tick(1);
        Check.same("then DONE", least.state(0), Night.DONE);
        NightCycler vetoed = behindTheLastDrain(1000);
        Night.moveTimes(vetoed, 5, 161);
        vetoed.tick(1);
        Check.same("a veto ends LAST", vetoed.state(0), Night.DONE);
        Check.same("A", vetoed.state(2), 805);
    }

    private static void safeState() {
        NightCycler x = Night.started();
        x.tick(60);
        x.air(true);
        Check.same("orders", x.tick(500), 0);
        Check.same("ticks of the phase", x.state(4), 60);
        x.air(false);
        Check.same("the alarm stands still", x.tick(1), 0);
        x.lift(0);
        Check.same("it goes on", x.tick(1), Night.FILL_0);
        x.heat(0, 4101);
        Check.same("alarm 3 is not safe's", x.tick(1), Night.FILL_0);
        Check.same("state", x.state(6), 0);
    }

    private static void heater() {
        NightCycler x = Night.inFirstFill();
        x.heat(0, 3650);
        Check.same("the target less 50 is not below it", x.tick(1), Night.FILL_0);
        x.heat(0, 3649);
        Check.same("a hundredth less is", x.tick(1), Night.FILL_0 + Night.HEATER);
        x.heat(0, 3700);
        Check.same("on up to the target", x.tick(1), Night.FILL_0 + Night.HEATER);
        x.heat(0, 3701);
        Check.same("the other one is the lower", x.tick(1), Night.FILL_0 + Night.HEATER);
        x.heat(1, 3701);
        Check.same("above the target", x.tick(1), Night.FILL_0);
        x.heat(1, 3660);
        Check.same("off, as it was off", x.tick(1), Night.FILL_0);
        x.heat(1, 3600);
        Check.same("sensor 1 is the lower", x.tick(1), Night.FILL_0 + Night.HEATER);
        x.heat(1, 3550);
        Check.same("no more than 150 apart", x.tick(1), Night.FILL_0);
        x.heat(0, 3700);
        Check.same("the alarm stands, but the cause is gone", x.tick(1), Night.FILL_0 + Night.HEATER);
        NightCycler y = Night.inFirstFill(Night.TARGET, 3500);
        y.heat(0, 3600);
        y.heat(1, 3500);
        Check.same("below 3450 it would be", y.tick(1), Night.FILL_0);
        y.heat(1, 3450);
        Check.same("3450 is not", y.tick(1), Night.FILL_0);
        y.heat(0, 3500);
        y.heat(1, 3449);
        Check.same("3449 is", y.tick(1), Night.FILL_0 + Night.HEATER);
    }

    private static void heaterInEachPhase() {
        NightCycler idle = new NightCycler();
        idle.heat(0, 3600);
        Check.same("IDLE", idle.tick(1), 0);
        NightCycler x = Night.prescribed(Night.CYCLES, 1, Night.FILL_VOLUME, 500);
        x.heat(0, 3600);
        x.start();
        Check.same("DRAIN", x.tick(1), Night.DRAIN_0 + Night.HEATER);
        Check.same("FILL", x.tick(60), Night.FILL_0 + Night.HEATER);
        x.line(true);
        Check.same("with the line blocked", x.tick(1), Night.HEATER);
        x.line(false);
        Night.moveTimes(x, 3, 200);
        Check.same("DWELL", x.tick(1), Night.HEATER);
        x.air(true);
        Check.same("safe", x.tick(1), 0);
        x.air(false);
        x.lift(0);
        x.end();
        Check.same("END", x.tick(1), Night.DRAIN_0 + Night.HEATER);
        x.stroke(0, 200);
        Night.moveTimes(x, 2, 200);
        x.tick(60);
        Check.same("still END", x.state(0), Night.END);
        Check.same("the tick in which DONE begins gives orders as any", x.tick(1), Night.HEATER);
        Check.same("DONE", x.state(0), Night.DONE);
        Check.same("later ones do not", x.tick(1), 0);
    }

    private static void oneAndFiveThousand() {
        NightCycler x = Night.inFirstFill();
        Check.same("the first tick of FILL", x.state(4), 1);
        x.tick(1);
        Check.same("one more", x.state(4), 2);
        x.tick(5000);
        Check.same("5000 more", x.state(4), 5002);
        Check.badArgument("0", () -> x.tick(0));
        Check.badArgument("5001", () -> x.tick(5001));
        Check.same("none of these", x.state(4), 5002);
    }

    /** Nothing flows and all fills are vetoed, so each phase is as short as it can be. */
    private static void onePhaseInATick() {
        NightCycler x = Night.started(Night.CYCLES, 2, Night.CEILING, 1000, Night.FILL_VOLUME, 500,
            Night.LAST_VOLUME, 500, Night.RETAINED, 900);
        int[] phases = {Night.DRAIN, Night.FILL, Night.DWELL, Night.DRAIN, Night.FILL, Night.DWELL, Night.DRAIN,
            Night.LAST};
        int[] lengths = {120, 1, 240, 120, 1, 240, 120, 1};
        for (int i = 0; i < phases.length; i++) {
            x.tick(1);
            Check.same("phase " + i, x.state(0), phases[i]);
            Check.same("its first tick", x.state(4), 1);
            if (lengths[i] > 1) {
                x.tick(lengths[i] - 1);
                Check.same("phase " + i + " till its last tick", x.state(0), phases[i]);
                Check.same("its last tick", x.state(4), lengths[i]);
            }
        }
        x.tick(1);
        Check.same("DONE at last", x.state(0), Night.DONE);
    }

    private static void vetoInLast() {
        for (int rest = 0; rest <= 1; rest++) {
            NightCycler x = behindTheLastDrain(1000);
            Check.same("LAST", x.state(0), Night.LAST);
            Night.moveTimes(x, 4, 200);
            Night.moveTimes(x, 1, rest);
            Check.same("800 and 801 of 1000", x.tick(1), rest == 0 ? Night.FILL_1 : 0);
            Check.same("the phase", x.state(0), rest == 0 ? Night.LAST : Night.DONE);
        }
        for (int taken = 99; taken <= 100; taken++) {
            NightCycler x = Night.inFirstFill(Night.CYCLES, 1, Night.FILL_VOLUME, 900, Night.CEILING, 1000,
                Night.LAST_VOLUME, 1);
            Night.moveTimes(x, 3, 200);
            Night.moveTimes(x, 2, 150);
            x.tick(240);
            Night.moveTimes(x, 1, taken);
            x.tick(taken == 99 ? 119 : 120);
            Check.same("DRAIN, tried again", x.state(0), Night.DRAIN);
            Check.same("A of 801 is vetoed, of 800 is not", x.tick(1), taken == 99 ? 0 : Night.FILL_0);
            Check.same("LAST begins with either", x.state(0), Night.LAST);
            x.tick(1);
            Check.same("and is over where it is vetoed", x.state(0), taken == 99 ? Night.DONE : Night.LAST);
        }
    }

    private static void ticksThatDoNotCount() {
        NightCycler idle = new NightCycler();
        idle.line(true);
        idle.mute();
        Check.same("IDLE", idle.tick(7), 0);
        Check.same("no ticks of a phase", idle.state(4), 0);
        Check.same("but mutes run down", idle.muted(), 473);
        NightCycler done = Night.done();
        done.line(true);
        done.mute();
        int ticks = done.state(4);
        Check.same("DONE", done.tick(7), 0);
        Check.same("no ticks of a phase", done.state(4), ticks);
        Check.same("but mutes run down", done.muted(), 473);
        NightCycler safe = Night.inFirstFill();
        safe.door(false);
        safe.mute();
        Check.same("safe", safe.tick(7), 0);
        Check.same("no ticks of a phase", safe.state(4), 1);
        Check.same("but mutes run down", safe.muted(), 473);
        NightCycler paused = Night.inFirstFill();
        paused.line(true);
        paused.mute();
        paused.pause(true);
        Check.same("paused", paused.tick(7), 0);
        Check.same("no ticks of a phase", paused.state(4), 1);
        Check.same("but mutes run down", paused.muted(), 473);
        paused.pause(false);
        paused.tick(1);
        Check.same("a blocked line's tick is one", paused.state(4), 2);
    }

    private static boolean heatsAt(int first, int second) {
        NightCycler x = Night.started();
        x.heat(0, first);
        x.heat(1, second);
        return (x.tick(1) & Night.HEATER) != 0;
    }

    private static void heaterAtTheEdgesOfHeat() {
        Check.yes("1500", heatsAt(1500, 1500));
        Check.no("1499 is a cause", heatsAt(1499, 1500));
        Check.no("1499 is one in sensor 1, too", heatsAt(1500, 1499));
        Check.yes("150 apart", heatsAt(3640, 3790));
        Check.no("151 apart is a cause", heatsAt(3640, 3791));
        Check.no("151 apart the other way", heatsAt(3791, 3640));
        NightCycler hot = Night.started(Night.TARGET, 3900);
        hot.heat(0, 4101);
        hot.heat(1, 4101);
        hot.tick(1);
        Check.no("4101 is a cause", hot.lift(3));
        hot.heat(0, 4100);
        hot.heat(1, 4100);
        Check.same("4100 is none, but warm", hot.tick(1), Night.DRAIN_0);
        Check.yes("and the alarm is lifted", hot.lift(3));
    }

    private static void heaterBetweenTheLimits() {
        for (int heat = 3648; heat <= 3702; heat++) {
            NightCycler off = Night.started();
            off.heat(0, heat);
            Check.same("off before, " + heat, off.tick(1) & Night.HEATER, heat < 3650 ? Night.HEATER : 0);
            NightCycler on = Night.started();
            on.heat(0, 3600);
            on.tick(1);
            on.heat(0, heat);
            on.heat(1, heat);
            Check.same("on before, " + heat, on.tick(1) & Night.HEATER, heat <= 3700 ? Night.HEATER : 0);
        }
    }

    private static void chamberZeroFirstInEachPhase() {
        NightCycler x = Night.started(Night.CYCLES, 1, Night.FILL_VOLUME, 500, Night.LAST_VOLUME, 100,
            Night.RETAINED, 150);
        Check.same("DRAIN", x.tick(1), Night.DRAIN_0);
        x.stroke(0, 150);
        Check.same("the other one", x.tick(60), Night.DRAIN_1);
        Check.same("FILL", x.tick(1), Night.FILL_0);
        x.stroke(0, 200);
        Night.moveTimes(x, 2, 200);
        x.tick(240);
        Check.same("DRAIN again", x.tick(1), Night.DRAIN_0);
        x.stroke(0, 200);
        Night.moveTimes(x, 2, 200);
        x.tick(60);
        Check.same("LAST", x.tick(1), Night.FILL_0);
        x.stroke(0, 50);
        Check.same("the other one", x.tick(1), Night.FILL_1);
        x.end();
        Check.same("END", x.tick(1), Night.DRAIN_0);
    }

    /** With A below 0 there is more room than the ceiling, so all of FILL is wanted. */
    private static void wantedFromBelowNothing() {
        NightCycler x = Night.started(Night.CEILING, 1000, Night.FILL_VOLUME, 1000);
        Night.moveTimes(x, 3, 200);
        x.tick(61);
        Check.same("A", x.state(2), -600);
        Check.same("FILL", x.state(0), Night.FILL);
        x.stroke(0, 200);
        Night.moveTimes(x, 3, 200);
        Night.moveTimes(x, 1, 199);
        x.tick(1);
        Check.same("999 of 1000", x.state(0), Night.FILL);
        x.stroke(1, 1);
        x.tick(1);
        Check.same("1000 of 1000", x.state(0), Night.DWELL);
        Check.same("A", x.state(2), 400);
    }

    private static void wantedUpToTheCeiling() {
        for (int retained = 799; retained <= 801; retained++) {
            NightCycler x = Night.started(Night.CEILING, 1000, Night.FILL_VOLUME, 500, Night.RETAINED, retained);
            x.tick(120);
            int due = retained == 801 ? 0 : Night.FILL_0;
            Check.same("the first tick of FILL with A " + retained, x.tick(1), due);
            Check.same("FILL begins", x.state(0), Night.FILL);
            Check.same("a stroke with A " + retained, x.stroke(0, 200) ? 1 : 0, retained == 801 ? 0 : 1);
            x.tick(1);
            Check.same("over with A " + x.state(2), x.state(0), Night.DWELL);
        }
        NightCycler full = Night.started(Night.CEILING, 1000, Night.FILL_VOLUME, 1000, Night.RETAINED, 1000);
        full.tick(121);
        Check.same("nothing is wanted at the ceiling", full.state(0), Night.FILL);
        full.tick(1);
        Check.same("so FILL is over", full.state(0), Night.DWELL);
        Check.same("with nothing filled", full.report(1, 0), 0);
    }
}

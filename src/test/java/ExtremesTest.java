/** The ends of each field's range and of each cross rule, as a therapy shows them (promises 2, 3 and 6). */
public final class ExtremesTest {
    public static void main(String[] args) {
        oneCycleAndTwelve();
        fill();
        dwell();
        last();
        least();
        ceiling();
        night();
        target();
        retained();
        crossRules();
        Check.finish();
    }

    /** Drains all that A tells, and waits till the flow has dried up. */
    private static void drain(NightCycler x) {
        while (x.state(2) > 0) {
            Night.moveTimes(x, 1, Math.min(200, x.state(2)));
        }
        x.tick(61);
    }

    /** Fills by so many strokes of 200 and a last one. */
    private static void fill(NightCycler x, int times, int rest) {
        Night.moveTimes(x, times, 200);
        Night.moveTimes(x, 1, rest);
    }

    private static void oneCycleAndTwelve() {
        for (int cycles : new int[] {1, 2, 12}) {
            NightCycler x = Night.inFirstFill(Night.CYCLES, cycles, Night.FILL_VOLUME, 500);
            for (int cycle = 1; cycle <= cycles; cycle++) {
                Check.same("cycle of " + cycles, x.state(1), cycle);
                Check.same("FILL of " + cycles, x.state(0), Night.FILL);
                fill(x, 2, 100);
                x.tick(240);
                drain(x);
            }
            Check.same("behind the last of " + cycles, x.state(0), Night.DONE);
            Check.same("it stays the last of " + cycles, x.state(1), cycles);
        }
    }

    private static void fill() {
        NightCycler least = Night.inFirstFill(Night.FILL_VOLUME, 500);
        fill(least, 2, 99);
        least.tick(1);
        Check.same("499 of 500", least.state(0), Night.FILL);
        least.stroke(1, 1);
        least.tick(1);
        Check.same("500 of 500", least.state(0), Night.DWELL);
        NightCycler most = Night.inFirstFill(Night.FILL_VOLUME, 30000, Night.CEILING, 40000);
        fill(most, 149, 199);
        most.tick(1);
        Check.same("29999 of 30000", most.state(0), Night.FILL);
        most.stroke(0, 1);
        most.tick(1);
        Check.same("30000 of 30000", most.state(0), Night.DWELL);
        NightCycler beyond = Night.inFirstFill(Night.FILL_VOLUME, 500);
        fill(beyond, 2, 99);
        Night.moveTimes(beyond, 1, 200);
        beyond.tick(1);
        Check.same("699 of 500", beyond.state(0), Night.DWELL);
        Check.same("all that was filled", beyond.report(1, 0), 699);
    }

    private static NightCycler dwelling(int minutes) {
        NightCycler x = Night.inFirstFill(Night.CYCLES, 1, Night.FILL_VOLUME, 500, Night.DWELL_MINUTES, minutes,
            Night.NIGHT, minutes);
        fill(x, 2, 100);
        x.tick(1);
        Check.same("the first tick", x.state(4), 1);
        return x;
    }

    private static void dwell() {
        NightCycler least = dwelling(1);
        least.tick(238);
        Check.same("239 ticks", least.state(4), 239);
        least.tick(1);
        Check.same("a minute's last tick", least.state(0), Night.DWELL);
        Check.same("240 ticks", least.report(1, 2), 240);
        least.tick(1);
        Check.same("over", least.state(0), Night.DRAIN);
        Check.same("no tick more", least.report(1, 2), 240);
        NightCycler most = dwelling(240);
        for (int i = 0; i < 11; i++) {
            Check.same("nothing is ordered", most.tick(5000), 0);
        }
        Check.same("5000 ticks in a call", most.state(4), 55001);
        most.tick(2599);
        Check.same("240 minutes' last tick", most.state(0), Night.DWELL);
        Check.same("57600 ticks", most.state(4), 57600);
        most.tick(1);
        Check.same("over", most.state(0), Night.DRAIN);
        Check.same("in the report", most.report(1, 2), 57600);
    }

    private static NightCycler behindTheLastDrain(int... more) {
        NightCycler x = Night.prescribed(more);
        x.prescribe(Night.CYCLES, 1);
        x.prescribe(Night.FILL_VOLUME, 500);
        x.start();
        x.tick(61);
        fill(x, 2, 100);
        x.tick(240);
        drain(x);
        return x;
    }

    private static void last() {
        NightCycler none = behindTheLastDrain(Night.LAST_VOLUME, 0);
        Check.same("no LAST", none.state(0), Night.DONE);
        NightCycler least = behindTheLastDrain(Night.LAST_VOLUME, 1);
        Check.same("LAST of 1", least.state(0), Night.LAST);
        least.stroke(0, 0);
        least.tick(1);
        Check.same("0 of 1", least.state(0), Night.LAST);
        least.stroke(1, 1);
        least.tick(1);
        Check.same("1 of 1", least.state(0), Night.DONE);
        NightCycler most = behindTheLastDrain(Night.LAST_VOLUME, 30000, Night.CEILING, 40000);
        Check.same("LAST of 30000", most.state(0), Night.LAST);
        fill(most, 149, 199);
        most.tick(1);
        Check.same("29999 of 30000", most.state(0), Night.LAST);
        most.stroke(0, 1);
        most.tick(1);
        Check.same("30000 of 30000", most.state(0), Night.DONE);
        Check.same("LAST counts for the last cycle", most.report(1, 0), 30500);
    }

    private static void least() {
        Check.same("99 of 200 at 50 percent", poorBehind(50, 200, 99), 1);
        Check.same("100 of 200 at 50 percent", poorBehind(50, 200, 100), 0);
        Check.same("101 of 200 at 51 percent", poorBehind(51, 200, 101), 1);
        Check.same("102 of 200 at 51 percent", poorBehind(51, 200, 102), 0);
        Check.same("199 of 200 at 100 percent", poorBehind(100, 200, 199), 1);
        Check.same("200 of 200 at 100 percent", poorBehind(100, 200, 200), 0);
        Check.same("more than all at 100 percent", poorBehind(100, 150, 200), 0);
        Check.same("100 of 201 at 50 percent: 100.5 is not rounded", poorBehind(50, 201, 100), 1);
        Check.same("101 of 201 at 50 percent", poorBehind(50, 201, 101), 0);
    }

    private static int poorBehind(int percent, int retained, int taken) {
        NightCycler x = Night.started(Night.LEAST, percent, Night.RETAINED, retained);
        Night.moveTimes(x, 1, taken);
        x.tick(122);
        Check.same("the drain is over", x.state(0), Night.FILL);
        return x.report(0, 3);
    }

    private static void ceiling() {
        Check.same("800 below 1000", phaseFilledTo(1000, 4, 0), Night.FILL);
        Check.same("801 below 1000", phaseFilledTo(1000, 4, 1), Night.DWELL);
        NightCycler x = Night.started(Night.CEILING, 40000, Night.FILL_VOLUME, 30000, Night.RETAINED, 20000);
        x.tick(121);
        fill(x, 98, 199);
        Check.same("39799 below 40000", x.tick(1), Night.FILL_1);
        x.stroke(1, 1);
        Check.same("39800 below 40000", x.tick(1), Night.FILL_0);
        x.stroke(0, 1);
        Check.same("39801 below 40000", x.tick(1), 0);
        Check.same("so FILL is over", x.state(0), Night.DWELL);
        Check.same("A", x.state(2), 39801);
    }

    private static int phaseFilledTo(int ceiling, int times, int rest) {
        NightCycler x = Night.inFirstFill(Night.CEILING, ceiling, Night.FILL_VOLUME, ceiling);
        fill(x, times, rest);
        x.tick(1);
        return x.state(0);
    }

    private static boolean starts(int... fieldsAndValues) {
        NightCycler x = Night.prescribed(fieldsAndValues);
        try {
            x.start();
        } catch (UnsupportedOperationException e) {
            Check.same("it is IDLE then", x.state(0), Night.IDLE);
            Check.same("and no page is written", x.state(8), 0);
            Check.outOfBounds("nor a report begun", () -> x.report(0, 0));
            return false;
        }
        Check.same("it drains then", x.state(0), Night.DRAIN);
        return true;
    }

    private static void night() {
        Check.yes("1 * 1 in 1", starts(Night.CYCLES, 1, Night.DWELL_MINUTES, 1, Night.NIGHT, 1));
        Check.no("2 * 1 in 1", starts(Night.CYCLES, 2, Night.DWELL_MINUTES, 1, Night.NIGHT, 1));
        Check.no("1 * 2 in 1", starts(Night.CYCLES, 1, Night.DWELL_MINUTES, 2, Night.NIGHT, 1));
        Check.yes("12 * 75 in 900", starts(Night.CYCLES, 12, Night.DWELL_MINUTES, 75, Night.NIGHT, 900));
        Check.no("12 * 75 in 899", starts(Night.CYCLES, 12, Night.DWELL_MINUTES, 75, Night.NIGHT, 899));
        Check.no("12 * 76 in 900", starts(Night.CYCLES, 12, Night.DWELL_MINUTES, 76, Night.NIGHT, 900));
        Check.no("12 * 240 in 900", starts(Night.CYCLES, 12, Night.DWELL_MINUTES, 240, Night.NIGHT, 900));
        Check.yes("3 * 240 in 720", starts(Night.CYCLES, 3, Night.DWELL_MINUTES, 240, Night.NIGHT, 720));
        Check.no("3 * 240 in 719", starts(Night.CYCLES, 3, Night.DWELL_MINUTES, 240, Night.NIGHT, 719));
    }

    private static boolean heatsAt(int target, int heat) {
        NightCycler x = Night.started(Night.TARGET, target);
        x.heat(0, heat);
        x.heat(1, heat);
        return (x.tick(1) & Night.HEATER) != 0;
    }

    private static void target() {
        Check.yes("2949 for 3000", heatsAt(3000, 2949));
        Check.no("2950 for 3000", heatsAt(3000, 2950));
        Check.yes("3849 for 3900", heatsAt(3900, 3849));
        Check.no("3850 for 3900", heatsAt(3900, 3850));
        Check.yes("3648 for 3699", heatsAt(3699, 3648));
        Check.no("3649 for 3699", heatsAt(3699, 3649));
    }

    private static void retained() {
        Check.same("0", Night.started(Night.RETAINED, 0).state(2), 0);
        Check.same("20000", Night.started(Night.RETAINED, 20000, Night.CEILING, 20000).state(2), 20000);
    }

    private static void crossRules() {
        int[] fields = {Night.FILL_VOLUME, Night.LAST_VOLUME, Night.RETAINED};
        for (int field : fields) {
            Check.yes(field + " of 1000 below 1000", starts(Night.CEILING, 1000, Night.FILL_VOLUME, 500, field, 1000));
            Check.no(field + " of 1001 below 1000", starts(Night.CEILING, 1000, Night.FILL_VOLUME, 500, field, 1001));
            Check.yes(field + " of 20000 below 20000", starts(Night.CEILING, 20000, field, 20000));
            Check.no(field + " of 20000 below 19999", starts(Night.CEILING, 19999, field, 20000));
        }
        Check.yes("all three at the ceiling", starts(Night.CEILING, 20000, Night.FILL_VOLUME, 20000,
            Night.LAST_VOLUME, 20000, Night.RETAINED, 20000));
    }
}

/** Promise 9. (The heater is in TickTest.) */
public final class HeatTest {
    public static void main(String[] args) {
        refused();
        within();
        apart();
        leastAndGreatest();
        sensorsAlone();
        Check.finish();
    }

    private static void refused() {
        NightCycler x = new NightCycler();
        Check.no("sensor -1", x.heat(-1, 3700));
        Check.no("sensor 2", x.heat(2, 3700));
        Check.no("sensor 2 with a cause", x.heat(2, 9000));
        Check.no("sensor far below", x.heat(Integer.MIN_VALUE, 3700));
        Check.no("sensor far above", x.heat(Integer.MAX_VALUE, 3700));
        Check.no("-5001", x.heat(0, -5001));
        Check.no("10001", x.heat(1, 10001));
        Check.no("far below", x.heat(0, Integer.MIN_VALUE));
        Check.no("far above", x.heat(1, Integer.MAX_VALUE));
        Check.same("nothing was told", x.alarm(0), -1);
        Check.yes("-5000", x.heat(0, -5000));
        Check.same("a cause", x.alarm(0), 3);
        Check.yes("10000", x.heat(1, 10000));
        Check.same("not safe's", x.state(6), 0);
        NightCycler off = new NightCycler();
        off.cut(6);
        Check.no("without power", off.heat(0, 3700));
        Check.no("without power, hot", off.heat(0, 4200));
        off.power(0);
        off.tick(1);
        Check.same("it was not told", off.alarm(0), -1);
    }

    /** Whether the cause is gone with both sensors so. */
    private static boolean isGone(int first, int second) {
        NightCycler x = new NightCycler();
        x.heat(0, 9000);
        x.heat(0, first);
        x.heat(1, second);
        return x.lift(3);
    }

    private static void within() {
        Check.yes("1500", isGone(1500, 1500));
        Check.no("1499 in sensor 0", isGone(1499, 1500));
        Check.no("1499 in sensor 1", isGone(1500, 1499));
        Check.yes("4100", isGone(4100, 4100));
        Check.no("4101 in sensor 0", isGone(4101, 4100));
        Check.no("4101 in sensor 1", isGone(4100, 4101));
    }

    private static void apart() {
        Check.yes("150 apart", isGone(3600, 3750));
        Check.no("151 apart", isGone(3600, 3751));
        Check.yes("150 apart the other way", isGone(3750, 3600));
        Check.no("151 apart the other way", isGone(3751, 3600));
    }

    private static void leastAndGreatest() {
        for (int sensor = 0; sensor < 2; sensor++) {
            NightCycler x = new NightCycler();
            Check.no("-5001", x.heat(sensor, -5001));
            Check.no("10001", x.heat(sensor, 10001));
            Check.same("neither was told", x.alarm(0), -1);
            Check.yes("-5000", x.heat(sensor, -5000));
            Check.same("told", x.alarm(0), 3);
            Check.yes("3700", x.heat(sensor, 3700));
            Check.yes("lifted", x.lift(3));
            Check.yes("10000", x.heat(sensor, 10000));
            Check.same("told", x.alarm(0), 3);
            Check.no("refused, so the cause is still there", x.heat(sensor, 10001) || x.lift(3));
        }
    }

    /** Each sensor is kept for itself: one within does not mend the other. */
    private static void sensorsAlone() {
        NightCycler x = new NightCycler();
        x.heat(0, 4200);
        x.heat(1, 4100);
        Check.no("sensor 0 is beyond still", x.lift(3));
        x.heat(0, 4100);
        Check.yes("now it is not", x.lift(3));
        x.heat(1, 4101);
        x.heat(0, 4000);
        Check.no("sensor 1 is beyond", x.lift(3));
        x.heat(1, 4100);
        Check.yes("now it is not", x.lift(3));
    }
}

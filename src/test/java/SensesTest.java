/** Promises 10, 11 and 12: air, door and line. */
public final class SensesTest {
    public static void main(String[] args) {
        air();
        door();
        line();
        withoutPower();
        toldTwice();
        Check.finish();
    }

    private static void air() {
        NightCycler x = Night.inFirstFill();
        x.air(false);
        Check.same("no air", x.alarm(0), -1);
        x.air(true);
        Check.same("it is looked at at once", x.alarm(0), 0);
        Check.same("safe", x.state(6), 1);
        Check.same("nothing moves", x.tick(1), 0);
        Check.no("air is not gone", x.lift(0));
        x.air(false);
        Check.same("the alarm stands", x.alarm(0), 0);
        Check.yes("air is gone", x.lift(0));
        Check.same("it moves", x.tick(1), Night.FILL_0);
    }

    private static void door() {
        NightCycler x = Night.inFirstFill();
        x.door(true);
        Check.same("shut", x.alarm(0), -1);
        x.door(false);
        Check.same("it is looked at at once", x.alarm(0), 1);
        Check.same("safe", x.state(6), 1);
        Check.same("nothing moves", x.tick(1), 0);
        Check.no("open", x.lift(1));
        x.door(true);
        Check.same("the alarm stands", x.alarm(0), 1);
        Check.yes("shut", x.lift(1));
        Check.same("it moves", x.tick(1), Night.FILL_0);
    }

    private static void line() {
        NightCycler x = Night.inFirstFill();
        x.line(false);
        Check.same("free", x.alarm(0), -1);
        x.line(true);
        Check.same("it is looked at at once", x.alarm(0), 4);
        Check.same("not safe's", x.state(6), 0);
        Check.yes("the latest tick ordered it", x.stroke(0, 100));
        Check.same("valves are shut, too", x.tick(1), 0);
        Check.no("no stroke", x.stroke(1, 100));
        Check.same("ticks of the phase go on", x.state(4), 2);
        Check.no("blocked", x.lift(4));
        x.line(false);
        Check.same("it moves with the alarm standing", x.tick(1), Night.FILL_1);
        Check.same("the alarm stands", x.alarm(0), 4);
        Check.yes("free", x.lift(4));
        NightCycler y = Night.started();
        y.line(true);
        Check.same("in DRAIN", y.tick(1), 0);
        y.line(false);
        Check.same("free", y.tick(1), Night.DRAIN_0);
        y.end();
        y.line(true);
        Check.same("in END", y.tick(1), 0);
    }

    private static void withoutPower() {
        NightCycler x = new NightCycler();
        x.air(true);
        x.door(false);
        x.line(true);
        x.cut(6);
        Check.same("alarms are as at first", x.alarm(0), -1);
        x.air(true);
        x.door(false);
        x.line(true);
        Check.same("nothing is told", x.alarm(0), -1);
        x.power(0);
        x.tick(1);
        Check.same("nor was before", x.alarm(0), -1);
        x.start();
        Check.same("the line is free", x.tick(1), Night.DRAIN_0);
    }

    private static void toldTwice() {
        for (int cause : new int[] {0, 1, 4}) {
            NightCycler x = Night.inFirstFill();
            Night.cause(x, cause, true);
            Night.cause(x, cause, true);
            Check.same("one alarm " + cause, x.alarm(0), cause);
            Check.same("not two", x.alarm(1), -1);
            Night.cause(x, cause, false);
            Night.cause(x, cause, false);
            Check.yes("gone is gone", x.lift(cause));
            Check.same("none is left", x.alarm(0), -1);
            Night.cause(x, cause, false);
            Check.same("and none comes", x.alarm(0), -1);
        }
    }
}

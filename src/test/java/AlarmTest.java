/** Promises 13 to 16: lift, alarm, mute and muted. */
public final class AlarmTest {
    public static void main(String[] args) {
        byRank();
        lift();
        muteRunsDown();
        higherAlarmsEndIt();
        withoutPower();
        Check.finish();
    }

    private static void byRank() {
        NightCycler x = new NightCycler();
        Check.same("none", x.alarm(0), -1);
        x.line(true);
        Check.same("4", x.alarm(0), 4);
        Check.same("no second", x.alarm(1), -1);
        x.door(false);
        Check.same("1 before 4", x.alarm(0), 1);
        Check.same("4 behind 1", x.alarm(1), 4);
        x.heat(0, 4200);
        Check.same("3 between them", x.alarm(1), 3);
        x.air(true);
        int[] due = {0, 1, 3, 4, -1, -1};
        for (int i = 0; i < due.length; i++) {
            Check.same("alarm(" + i + ")", x.alarm(i), due[i]);
        }
        Check.same("alarm(-1)", x.alarm(-1), -1);
        Check.same("far below", x.alarm(Integer.MIN_VALUE), -1);
        Check.same("far above", x.alarm(Integer.MAX_VALUE), -1);
        NightCycler y = Night.weighedInFirstFill();
        Night.weigh(y, 8, 4000);
        y.air(true);
        y.door(false);
        y.heat(0, 4200);
        y.line(true);
        for (int i = 0; i < 5; i++) {
            Check.same("all five: " + i, y.alarm(i), i);
        }
        Check.same("no sixth", y.alarm(5), -1);
    }

    private static void lift() {
        NightCycler x = new NightCycler();
        for (int alarm = -1; alarm < 7; alarm++) {
            Check.no("it does not stand: " + alarm, x.lift(alarm));
        }
        Check.no("far below", x.lift(Integer.MIN_VALUE));
        Check.no("far above", x.lift(Integer.MAX_VALUE));
        x.door(false);
        x.line(true);
        x.door(true);
        Check.no("another one", x.lift(0));
        Check.yes("lifted", x.lift(1));
        Check.no("it stands no more", x.lift(1));
        Check.same("the other stands", x.alarm(0), 4);
        Check.no("its cause is there", x.lift(4));
        Check.same("it stands still", x.alarm(0), 4);
        x.tick(1);
        Check.same("the lifted one stays away", x.alarm(0), 4);
    }

    private static void muteRunsDown() {
        NightCycler x = new NightCycler();
        Check.no("no alarm stands", x.mute());
        Check.same("not mute", x.muted(), 0);
        x.line(true);
        Check.same("not mute by itself", x.muted(), 0);
        Check.yes("one stands", x.mute());
        Check.same("480", x.muted(), 480);
        x.tick(1);
        Check.same("479", x.muted(), 479);
        x.mute();
        Check.same("480 anew", x.muted(), 480);
        x.tick(479);
        Check.same("1", x.muted(), 1);
        x.tick(1);
        Check.same("0", x.muted(), 0);
        x.tick(1);
        Check.same("not below 0", x.muted(), 0);
        x.mute();
        x.line(false);
        x.lift(4);
        x.tick(80);
        Check.same("it runs on when the alarm was lifted", x.muted(), 400);
        Check.no("but none stands", x.mute());
        Check.same("so it is not anew", x.muted(), 400);
        x.line(true);
        Check.same("an alarm where none stood ends it", x.muted(), 0);
    }

    private static void higherAlarmsEndIt() {
        NightCycler x = new NightCycler();
        x.heat(0, 4200);
        x.mute();
        x.line(true);
        Check.same("a lower one does not", x.muted(), 480);
        x.heat(0, 4300);
        Check.same("the same cause again does not", x.muted(), 480);
        x.air(false);
        Check.same("no cause does not", x.muted(), 480);
        x.door(false);
        Check.same("a higher one does", x.muted(), 0);
        x.mute();
        x.door(false);
        Check.same("it stood already", x.muted(), 480);
        x.air(true);
        Check.same("the highest does", x.muted(), 0);
        x.mute();
        x.door(true);
        x.lift(1);
        x.door(false);
        Check.same("lower than the one that stands", x.muted(), 480);
        NightCycler y = Night.weighedInFirstFill();
        y.line(true);
        y.mute();
        Night.weigh(y, 8, 4000);
        Check.same("the books' one does", y.muted(), 0);
    }

    private static void withoutPower() {
        NightCycler x = new NightCycler();
        x.line(true);
        x.mute();
        x.cut(6);
        Check.same("not mute", x.muted(), 0);
        Check.same("no alarm", x.alarm(0), -1);
        Check.no("nothing to mute", x.mute());
        Check.no("nothing to lift", x.lift(4));
    }
}

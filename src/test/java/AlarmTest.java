/** Promises 13 to 16: lift, alarm, mute and muted. */
public final class AlarmTest {
    public static void main(String[] args) {
        byRank();
        lift();
        muteRunsDown();
        higherAlarmsEndIt();
        withoutPower();
        liftOfEach();
        muteByRanks();
        muteAtItsEnds();
        whenCausesAreLookedAt();
        whenTheyAreNot();
        safeByRank();
        Check.finish();
    }

    private static void byRank() {
        NightCycler x = new NightCycler();
        Check.same("none", x.alarm(0), -1);
        x.line(true);
        Check.same("4", x.alarm(0), 4);
        Check.same("no second", x.alarm(1), -1);
        x.door(false);
        Check.same("1 before 4", x.alarm(0), 1);
        Check.same("4 behind 1", x.alarm(1), 4);
        x.heat(0, 4200);
        Check.same("3 between them", x.alarm(1), 3);
        x.air(true);
        int[] due = {0, 1, 3, 4, -1, -1};
        for (int i = 0; i < due.length; i++) {
            Check.same("alarm(" + i + ")", x.alarm(i), due[i]);
        }
        Check.same("alarm(-1)", x.alarm(-1), -1);
        Check.same("far below", x.alarm(Integer.MIN_VALUE), -1);
        Check.same("far above", x.alarm(Integer.MAX_VALUE), -1);
        NightCycler y = Night.weighedInFirstFill();
        Night.weigh(y, 8, 4000);
        y.air(true);
        y.door(false);
        y.heat(0, 4200);
        y.line(true);
        for (int i = 0; i < 5; i++) {
            Check.same("all five: " + i, y.alarm(i), i);
        }
        Check.same("no sixth", y.alarm(5), -1);
    }

    private static void lift() {
        NightCycler x = new NightCycler();
        for (int alarm = -1; alarm < 7; alarm++) {
            Check.no("it does not stand: " + alarm, x.lift(alarm));
        }
        Check.no("far below", x.lift(Integer.MIN_VALUE));
        Check.no("far above", x.lift(Integer.MAX_VALUE));
        x.door(false);
        x.line(true);
        x.door(true);
        Check.no("another one", x.lift(0));
        Check.yes("lifted", x.lift(1));
        Check.no("it stands no more", x.lift(1));
        Check.same("the other stands", x.alarm(0), 4);
        Check.no("its cause is there", x.lift(4));
        Check.same("it stands still", x.alarm(0), 4);
        x.tick(1);
        Check.same("the lifted one stays away", x.alarm(0), 4);
    }

    private static void muteRunsDown() {
        NightCycler x = new NightCycler();
        Check.no("no alarm stands", x.mute());
        Check.same("not mute", x.muted(), 0);
        x.line(true);
        Check.same("not mute by itself", x.muted(), 0);
        Check.yes("one stands", x.mute());
        Check.same("480", x.muted(), 480);
        x.tick(1);
        Check.same("479", x.muted(), 479);
        x.mute();
        Check.same("480 anew", x.muted(), 480);
        x.tick(479);
        Check.same("1", x.muted(), 1);
        x.tick(1);
        Check.same("0", x.muted(), 0);
        x.tick(1);
        Check.same("not below 0", x.muted(), 0);
        x.mute();
        x.line(false);
        x.lift(4);
        x.tick(80);
        Check.same("it runs on when the alarm was lifted", x.muted(), 400);
        Check.no("but none stands", x.mute());
        Check.same("so it is not anew", x.muted(), 400);
        x.line(true);
        Check.same("an alarm where none stood ends it", x.muted(), 0);
    }

    private static void higherAlarmsEndIt() {
        NightCycler x = new NightCycler();
        x.heat(0, 4200);
        x.mute();
        x.line(true);
        Check.same("a lower one does not", x.muted(), 480);
        x.heat(0, 4300);
        Check.same("the same cause again does not", x.muted(), 480);
        x.air(false);
        Check.same("no cause does not", x.muted(), 480);
        x.door(false);
        Check.same("a higher one does", x.muted(), 0);
        x.mute();
        x.door(false);
        Check.same("it stood already", x.muted(), 480);
        x.air(true);
        Check.same("the highest does", x.muted(), 0);
        x.mute();
        x.door(true);
        x.lift(1);
        x.door(false);
        Check.same("lower than the one that stands", x.muted(), 480);
        NightCycler y = Night.weighedInFirstFill();
        y.line(true);
        y.mute();
        Night.weigh(y, 8, 4000);
        Check.same("the books' one does", y.muted(), 0);
    }

    private static void withoutPower() {
        NightCycler x = new NightCycler();
        x.line(true);
        x.mute();
        x.cut(6);
        Check.same("not mute", x.muted(), 0);
        Check.same("no alarm", x.alarm(0), -1);
        Check.no("nothing to mute", x.mute());
        Check.no("nothing to lift", x.lift(4));
    }

    /** In FILL, both books known, and nothing wrong. */
    private static NightCycler sound() {
        return Night.weighedInFirstFill();
    }

    private static void liftOfEach() {
        for (int alarm = 0; alarm < 5; alarm++) {
            NightCycler x = sound();
            Check.no("it does not stand: " + alarm, x.lift(alarm));
            Night.cause(x, alarm, true);
            Check.same("it stands: " + alarm, x.alarm(0), alarm);
            Check.no("its cause is there: " + alarm, x.lift(alarm));
            Check.same("it stands still: " + alarm, x.alarm(0), alarm);
            Night.cause(x, alarm, false);
            Check.same("it stands with its cause gone: " + alarm, x.alarm(0), alarm);
            x.tick(1);
            Check.same("also behind a tick: " + alarm, x.alarm(0), alarm);
            for (int other = -1; other <= 5; other++) {
                Check.no("another one: " + other, other != alarm && x.lift(other));
            }
            Check.yes("lifted: " + alarm, x.lift(alarm));
            Check.same("none stands: " + alarm, x.alarm(0), -1);
            Check.no("it was lifted already: " + alarm, x.lift(alarm));
            Night.cause(x, alarm, true);
            Check.same("it comes again: " + alarm, x.alarm(0), alarm);
        }
    }

    private static void muteByRanks() {
        for (int standing = 0; standing < 5; standing++) {
            for (int coming = 0; coming < 5; coming++) {
                NightCycler x = sound();
                Night.cause(x, standing, true);
                x.mute();
                Night.cause(x, coming, true);
                Check.same(coming + " comes to stand with " + standing, x.muted(), coming < standing ? 0 : 480);
                Check.same("the higher one is first", x.alarm(0), Math.min(coming, standing));
                Check.same("the lower one behind it", x.alarm(1),
                    coming == standing ? -1 : Math.max(coming, standing));
            }
        }
        NightCycler x = sound();
        Night.cause(x, 1, true);
        Night.cause(x, 4, true);
        x.mute();
        Night.cause(x, 3, true);
        Check.same("higher than one of two", x.muted(), 480);
        Night.cause(x, 0, true);
        Check.same("higher than all", x.muted(), 0);
    }

    private static void muteAtItsEnds() {
        NightCycler x = sound();
        Check.no("nothing to mute", x.mute());
        Check.same("not mute", x.muted(), 0);
        x.tick(1);
        Check.same("nothing runs down", x.muted(), 0);
        x.line(true);
        Check.yes("one stands", x.mute());
        Check.same("all of it", x.muted(), 480);
        x.tick(1);
        Check.same("the first tick", x.muted(), 479);
        x.tick(478);
        Check.same("one is left", x.muted(), 1);
        Check.yes("anew", x.mute());
        x.tick(480);
        Check.same("all has run down", x.muted(), 0);
        x.tick(5000);
        Check.same("and stays so", x.muted(), 0);
        Check.yes("its cause is still there", x.mute());
        x.line(false);
        x.lift(4);
        Check.same("lifting leaves it", x.muted(), 480);
    }

    /** B is known and DONE, and RETAINED was prescribed so that the books do not agree, which nobody saw. */
    private static NightCycler unseen() {
        NightCycler x = Night.prescribed(Night.CYCLES, 1);
        Night.weigh(x, 8, 5000);
        x.start();
        x.end();
        x.tick(61);
        x.prescribe(Night.RETAINED, 1000);
        Check.same("not looked at yet", x.alarm(0), -1);
        return x;
    }

    private static void whenCausesAreLookedAt() {
        NightCycler tick = unseen();
        tick.tick(1);
        Check.same("a tick", tick.alarm(0), 2);
        NightCycler scale = unseen();
        scale.scale(5000);
        Check.same("a weight", scale.alarm(0), 2);
        NightCycler heat = unseen();
        heat.heat(1, 3700);
        Check.same("a temperature", heat.alarm(0), 2);
        NightCycler air = unseen();
        air.air(false);
        Check.same("air", air.alarm(0), 2);
        NightCycler door = unseen();
        door.door(true);
        Check.same("door", door.alarm(0), 2);
        NightCycler line = unseen();
        line.line(false);
        Check.same("line", line.alarm(0), 2);
        NightCycler stroke = sound();
        Night.weigh(stroke, 8, 5020);
        Check.same("the books agree by a hair", stroke.alarm(0), -1);
        stroke.stroke(0, 200);
        Check.same("a stroke that is accepted", stroke.alarm(0), 2);
    }

    private static void whenTheyAreNot() {
        NightCycler x = unseen();
        x.scale(-1);
        x.scale(100001);
        x.heat(2, 3700);
        x.heat(0, 10001);
        x.stroke(0, 100);
        x.lift(2);
        x.mute();
        x.muted();
        x.state(3);
        x.report(0, 0);
        Check.badArgument("no ticks", () -> x.tick(0));
        Check.same("none of these looks", x.alarm(0), -1);
        x.start();
        Check.same("nor does the start, which needs no alarm", x.alarm(0), -1);
    }

    private static void safeByRank() {
        for (int alarm = 0; alarm < 5; alarm++) {
            NightCycler x = sound();
            Night.cause(x, alarm, true);
            Check.same("safe with alarm " + alarm, x.state(6), alarm <= 2 ? 1 : 0);
            int ticks = x.state(4);
            int due = alarm == 3 ? Night.FILL_0 : 0;
            Check.same("orders with alarm " + alarm, x.tick(1), due);
            Check.same("ticks of the phase with alarm " + alarm, x.state(4), alarm <= 2 ? ticks : ticks + 1);
            Night.cause(x, alarm, false);
            Check.same("safe as long as alarm " + alarm + " stands", x.state(6), alarm <= 2 ? 1 : 0);
            Check.same("orders then", x.tick(1), alarm <= 2 ? 0 : Night.FILL_0);
            x.lift(alarm);
            Check.same("not safe without alarm " + alarm, x.state(6), 0);
            Check.same("orders at last", x.tick(1), Night.FILL_0);
        }
    }
}

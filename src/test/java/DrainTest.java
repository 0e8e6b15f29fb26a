/** Promise 6: how a drain is judged by its flow. */
public final class DrainTest {
    public static void main(String[] args) {
        flowOfSixtyTicks();
        theWindowSlides();
        littleAtTheBeginning();
        triedAgainOnce();
        triedAgainWithNoFlow();
        triedAgainWithSuccess();
        leastPercent();
        endIsJudgedLikewise();
        standingStillDoesNotCount();
        Check.finish();
    }

    private static void flowOfSixtyTicks() {
        NightCycler x = Night.started(Night.RETAINED, 100);
        Night.moveTimes(x, 1, 100);
        x.tick(60);
        Check.same("a flow of 100 is not below 100", x.state(0), Night.DRAIN);
        x.tick(1);
        Check.same("but the stroke is behind tick 1", x.state(0), Night.FILL);
        NightCycler y = Night.started(Night.RETAINED, 99);
        Night.moveTimes(y, 1, 99);
        y.tick(59);
        Check.same("60 ticks must have been", y.state(0), Night.DRAIN);
        y.tick(1);
        Check.same("a flow of 99 is below 100", y.state(0), Night.FILL);
    }

    private static void theWindowSlides() {
        NightCycler x = Night.started(Night.RETAINED, 140, Night.LEAST, 50);
        Night.moveTimes(x, 1, 60);
        x.tick(30);
        Night.moveTimes(x, 1, 40);
        x.tick(28);
        Check.same("60 and 40 are 100", x.state(0), Night.DRAIN);
        Night.moveTimes(x, 1, 60);
        Check.same("still, behind 61 ticks", x.state(4), 61);
        x.tick(31);
        Check.same("40 and 60 are 100", x.state(0), Night.DRAIN);
        x.tick(1);
        Check.same("60 are below 100", x.state(0), Night.FILL);
        NightCycler y = Night.started(Night.RETAINED, 15000, Night.CEILING, 20000);
        Night.moveTimes(y, 150, 100);
        y.tick(60);
        Check.same("the last stroke of a long drain", y.state(0), Night.DRAIN);
        y.tick(1);
        Check.same("60 ticks behind it", y.state(0), Night.FILL);
        Check.same("all was taken", y.report(0, 1), 15000);
        NightCycler z = Night.started(Night.RETAINED, 15000, Night.CEILING, 20000);
        Night.moveTimes(z, 60, 2);
        Check.same("120 behind 60 ticks", z.tick(1), Night.DRAIN_0);
        z.tick(9);
        Check.same("102 behind the latest 60", z.state(4), 70);
        z.stroke(0, 150);
        z.tick(59);
        z.pause(true);
        z.end();
        z.tick(60);
        Check.same("END has its own 60 ticks", z.state(0), Night.END);
        z.tick(60);
        Check.same("and is tried again", z.state(0), Night.END);
        z.tick(1);
        Check.same("with no flow of what was before", z.state(0), Night.DONE);
    }

    private static void littleAtTheBeginning() {
        NightCycler x = Night.started(Night.RETAINED, 99);
        x.tick(61);
        Check.same("99 were below 100", x.state(0), Night.FILL);
        Check.same("not poor", x.report(0, 3), 0);
        NightCycler y = Night.started(Night.RETAINED, 100);
        y.tick(61);
        Check.same("100 were not", y.state(0), Night.DRAIN);
        y.tick(60);
        Check.same("tried again", y.state(0), Night.FILL);
        Check.same("poor", y.report(0, 3), 1);
        NightCycler z = Night.started();
        Night.moveTimes(z, 3, 200);
        z.end();
        Check.same("A", z.state(2), -600);
        z.tick(61);
        Check.same("-600 was below 100", z.state(0), Night.DONE);
        Check.same("not poor", z.report(0, 3), 0);
    }

    private static void triedAgainOnce() {
        NightCycler x = Night.started(Night.RETAINED, 1000);
        int number = x.state(8);
        x.tick(120);
        Check.same("tried again", x.state(0), Night.DRAIN);
        Check.same("ticks of the phase go on", x.state(4), 120);
        Check.same("no page is written for it", x.state(8), number);
        Check.same("not poor yet", x.report(0, 3), 0);
        x.tick(1);
        Check.same("but once", x.state(0), Night.FILL);
        Check.same("poor", x.report(0, 3), 1);
        Check.same("the next cycle is not", x.report(1, 3), 0);
    }

    private static void triedAgainWithNoFlow() {
        NightCycler x = Night.started(Night.RETAINED, 1000);
        x.tick(59);
        Night.moveTimes(x, 1, 90);
        Check.same("it is tried again at tick 61", x.tick(1), Night.DRAIN_1);
        x.stroke(1, 50);
        x.tick(59);
        Check.same("60 ticks anew", x.state(0), Night.DRAIN);
        x.tick(1);
        Check.same("the flow is 50, not 140", x.state(0), Night.FILL);
        Check.same("all that was taken", x.report(0, 1), 140);
    }

    private static void triedAgainWithSuccess() {
        NightCycler x = Night.started(Night.RETAINED, 300);
        x.tick(60);
        Night.moveTimes(x, 1, 200);
        Night.moveTimes(x, 1, 100);
        x.tick(60);
        Check.same("flowing", x.state(0), Night.DRAIN);
        x.tick(1);
        Check.same("over", x.state(0), Night.FILL);
        Check.same("not poor", x.report(0, 3), 0);
        NightCycler y = Night.started(Night.RETAINED, 300);
        y.tick(60);
        Night.moveTimes(y, 1, 200);
        y.tick(60);
        Check.same("flowing", y.state(0), Night.DRAIN);
        y.tick(1);
        Check.same("over", y.state(0), Night.FILL);
        Check.same("poor", y.report(0, 3), 1);
    }

    private static void leastPercent() {
        Check.same("266 of 333 are less than 80 percent", phaseBehind(333, 80, 266), Night.DRAIN);
        Check.same("267 are not", phaseBehind(333, 80, 267), Night.FILL);
        Check.same("299 of 300 are less than 100 percent", phaseBehind(300, 100, 299), Night.DRAIN);
        Check.same("300 are not", phaseBehind(300, 100, 300), Night.FILL);
        Check.same("149 of 300 are less than 50 percent", phaseBehind(300, 50, 149), Night.DRAIN);
        Check.same("150 are not", phaseBehind(300, 50, 150), Night.FILL);
    }

    /** Two strokes, then so long as the flow has dried up for the first time. */
    private static int phaseBehind(int retained, int least, int taken) {
        NightCycler x = Night.started(Night.RETAINED, retained, Night.LEAST, least);
        Night.moveTimes(x, 1, taken / 2);
        Night.moveTimes(x, 1, taken - taken / 2);
        x.tick(61);
        return x.state(0);
    }

    private static void endIsJudgedLikewise() {
        NightCycler x = Night.inFirstFill();
        Night.moveTimes(x, 5, 200);
        x.end();
        x.tick(120);
        Check.same("tried again", x.state(0), Night.END);
        x.tick(1);
        Check.same("over", x.state(0), Night.DONE);
        Check.same("the cycle in which it is is poor", x.report(1, 3), 1);
        Check.same("the initial drain is not", x.report(0, 3), 0);
        NightCycler y = Night.inFirstFill();
        Night.moveTimes(y, 5, 200);
        y.end();
        Night.moveTimes(y, 4, 200);
        y.tick(61);
        Check.same("800 of 1000 are enough", y.state(0), Night.DONE);
        Check.same("not poor", y.report(1, 3), 0);
    }

    private static void standingStillDoesNotCount() {
        NightCycler x = Night.started(Night.RETAINED, 200);
        Night.moveTimes(x, 1, 200);
        x.tick(58);
        x.pause(true);
        x.tick(100);
        x.pause(false);
        x.door(false);
        x.tick(100);
        x.door(true);
        x.lift(1);
        x.tick(2);
        Check.same("61 ticks of the phase", x.state(4), 61);
        Check.same("flowing", x.state(0), Night.DRAIN);
        x.tick(1);
        Check.same("dried up", x.state(0), Night.FILL);
        NightCycler y = Night.started(Night.RETAINED, 200);
        y.line(true);
        y.tick(120);
        Check.same("ticks with the line blocked do count", y.state(4), 120);
        y.tick(1);
        Check.same("over", y.state(0), Night.FILL);
    }
}

/** Promise 6: how a drain is judged by its flow. */
public final class DrainTest {
    public static void main(String[] args) {
        flowOfSixtyTicks();
        theWindowSlides();
        littleAtTheBeginning();
        triedAgainOnce();
        triedAgainWithNoFlow();
        triedAgainWithSuccess();
        leastPercent();
        endIsJudgedLikewise();
        standingStillDoesNotCount();
        fiftyNineTicksAndSixty();
        flowOfTheSecondTry();
        leastBehindTheSecondTry();
        noFlowFromBefore();
        littleTakenFromLittle();
        behindADrain();
        Check.finish();
    }

    private static void flowOfSixtyTicks() {
        NightCycler x = Night.started(Night.RETAINED, 100);
        Night.moveTimes(x, 1, 100);
        x.tick(60);
        Check.same("a flow of 100 is not below 100", x.state(0), Night.DRAIN);
        x.tick(1);
        Check.same("but the stroke is behind tick 1", x.state(0), Night.FILL);
        NightCycler y = Night.started(Night.RETAINED, 99);
        Night.moveTimes(y, 1, 99);
        y.tick(59);
        Check.same("60 ticks must have been", y.state(0), Night.DRAIN);
        y.tick(1);
        Check.same("a flow of 99 is below 100", y.state(0), Night.FILL);
    }

    private static void theWindowSlides() {
        NightCycler x = Night.started(Night.RETAINED, 140, Night.LEAST, 50);
        Night.moveTimes(x, 1, 60);
        x.tick(30);
        Night.moveTimes(x, 1, 40);
        x.tick(28);
        Check.same("60 and 40 are 100", x.state(0), Night.DRAIN);
        Night.moveTimes(x, 1, 60);
        Check.same("still, behind 61 ticks", x.state(4), 61);
        x.tick(31);
        Check.same("40 and 60 are 100", x.state(0), Night.DRAIN);
        x.tick(1);
        Check.same("60 are below 100", x.state(0), Night.FILL);
        NightCycler y = Night.started(Night.RETAINED, 15000, Night.CEILING, 20000);
        Night.moveTimes(y, 150, 100);
        y.tick(60);
        Check.same("the last stroke of a long drain", y.state(0), Night.DRAIN);
        y.tick(1);
        Check.same("60 ticks behind it", y.state(0), Night.FILL);
        Check.same("all was taken", y.report(0, 1), 15000);
        NightCycler z = Night.started(Night.RETAINED, 15000, Night.CEILING, 20000);
        Night.moveTimes(z, 60, 2);
        Check.same("120 behind 60 ticks", z.tick(1), Night.DRAIN_0);
        z.tick(9);
        Check.same("102 behind the latest 60", z.state(4), 70);
        z.stroke(0, 150);
        z.tick(59);
        z.pause(true);
        z.end();
        z.tick(60);
        Check.same("END has its own 60 ticks", z.state(0), Night.END);
        z.tick(60);
        Check.same("and is tried again", z.state(0), Night.END);
        z.tick(1);
        Check.same("with no flow of what was before", z.state(0), Night.DONE);
    }

    private static void littleAtTheBeginning() {
        NightCycler x = Night.started(Night.RETAINED, 99);
        x.tick(61);
        Check.same("99 were below 100", x.state(0), Night.FILL);
        Check.same("not poor", x.report(0, 3), 0);
        NightCycler y = Night.started(Night.RETAINED, 100);
        y.tick(61);
        Check.same("100 were not", y.state(0), Night.DRAIN);
        y.tick(60);
        Check.same("tried again", y.state(0), Night.FILL);
        Check.same("poor", y.report(0, 3), 1);
        NightCycler z = Night.started();
        Night.moveTimes(z, 3, 200);
        z.end();
        Check.same("A", z.state(2), -600);
        z.tick(61);
        Check.same("-600 was below 100", z.state(0), Night.DONE);
        Check.same("not poor", z.report(0, 3), 0);
    }

    private static void triedAgainOnce() {
        NightCycler x = Night.started(Night.RETAINED, 1000);
        int number = x.state(8);
        x.tick(120);
        Check.same("tried again", x.state(0), Night.DRAIN);
        Check.same("ticks of the phase go on", x.state(4), 120);
        Check.same("no page is written for it", x.state(8), number);
        Check.same("not poor yet", x.report(0, 3), 0);
        x.tick(1);
        Check.same("but once", x.state(0), Night.FILL);
        Check.same("poor", x.report(0, 3), 1);
        Check.same("the next cycle is not", x.report(1, 3), 0);
    }

    private static void triedAgainWithNoFlow() {
        NightCycler x = Night.started(Night.RETAINED, 1000);
        x.tick(59);
        Night.moveTimes(x, 1, 90);
        Check.same("it is tried again at tick 61", x.tick(1), Night.DRAIN_1);
        x.stroke(1, 50);
        x.tick(59);
        Check.same("60 ticks anew", x.state(0), Night.DRAIN);
        x.tick(1);
        Check.same("the flow is 50, not 140", x.state(0), Night.FILL);
        Check.same("all that was taken", x.report(0, 1), 140);
    }

    private static void triedAgainWithSuccess() {
        NightCycler x = Night.started(Night.RETAINED, 300);
        x.tick(60);
        Night.moveTimes(x, 1, 200);
        Night.moveTimes(x, 1, 100);
        x.tick(60);
        Check.same("flowing", x.state(0), Night.DRAIN);
        x.tick(1);
        Check.same("over", x.state(0), Night.FILL);
        Check.same("not poor", x.report(0, 3), 0);
        NightCycler y = Night.started(Night.RETAINED, 300);
        y.tick(60);
        Night.moveTimes(y, 1, 200);
        y.tick(60);
        Check.same("flowing", y.state(0), Night.DRAIN);
        y.tick(1);
        Check.same("over", y.state(0), Night.FILL);
        Check.same("poor", y.report(0, 3), 1);
    }

    private static void leastPercent() {
        Check.same("266 of 333 are less than 80 percent", phaseBehind(333, 80, 266), Night.DRAIN);
        Check.same("267 are not", phaseBehind(333, 80, 267), Night.FILL);
        Check.same("299 of 300 are less than 100 percent", phaseBehind(300, 100, 299), Night.DRAIN);
        Check.same("300 are not", phaseBehind(300, 100, 300), Night.FILL);
        Check.same("149 of 300 are less than 50 percent", phaseBehind(300, 50, 149), Night.DRAIN);
        Check.same("150 are not", phaseBehind(300, 50, 150), Night.FILL);
    }

    /** Two strokes, then so long as the flow has dried up for the first time. */
    private static int phaseBehind(int retained, int least, int taken) {
        NightCycler x = Night.started(Night.RETAINED, retained, Night.LEAST, least);
        Night.moveTimes(x, 1, taken / 2);
        Night.moveTimes(x, 1, taken - taken / 2);
        x.tick(61);
        return x.state(0);
    }

    private static void endIsJudgedLikewise() {
        NightCycler x = Night.inFirstFill();
        Night.moveTimes(x, 5, 200);
        x.end();
        x.tick(120);
        Check.same("tried again", x.state(0), Night.END);
        x.tick(1);
        Check.same("over", x.state(0), Night.DONE);
        Check.same("the cycle in which it is is poor", x.report(1, 3), 1);
        Check.same("the initial drain is not", x.report(0, 3), 0);
        NightCycler y = Night.inFirstFill();
        Night.moveTimes(y, 5, 200);
        y.end();
        Night.moveTimes(y, 4, 200);
        y.tick(61);
        Check.same("800 of 1000 are enough", y.state(0), Night.DONE);
        Check.same("not poor", y.report(1, 3), 0);
    }

    private static void standingStillDoesNotCount() {
        NightCycler x = Night.started(Night.RETAINED, 200);
        Night.moveTimes(x, 1, 200);
        x.tick(58);
        x.pause(true);
        x.tick(100);
        x.pause(false);
        x.door(false);
        x.tick(100);
        x.door(true);
        x.lift(1);
        x.tick(2);
        Check.same("61 ticks of the phase", x.state(4), 61);
        Check.same("flowing", x.state(0), Night.DRAIN);
        x.tick(1);
        Check.same("dried up", x.state(0), Night.FILL);
        NightCycler y = Night.started(Night.RETAINED, 200);
        y.line(true);
        y.tick(120);
        Check.same("ticks with the line blocked do count", y.state(4), 120);
        y.tick(1);
        Check.same("over", y.state(0), Night.FILL);
    }

    /** One tick short of 60 a drain is never over, whatever was taken and however little there was. */
    private static void fiftyNineTicksAndSixty() {
        for (int retained : new int[] {0, 99, 100, 1000}) {
            NightCycler x = Night.started(Night.RETAINED, retained);
            x.tick(59);
            Check.same("59 ticks of " + retained, x.state(4), 59);
            x.tick(1);
            Check.same("60 ticks of " + retained, x.state(4), 60);
            Check.same("not over before tick 61", x.state(0), Night.DRAIN);
            x.tick(1);
            Check.same("over at tick 61, or tried again", x.state(0), retained < 100 ? Night.FILL : Night.DRAIN);
            x.tick(59);
            Check.same("59 ticks behind it", x.state(0), retained < 100 ? Night.FILL : Night.DRAIN);
            x.tick(1);
            Check.same("60 ticks behind it", x.state(0), Night.FILL);
            Check.same("poor", x.report(0, 3), retained < 100 ? 0 : 1);
        }
    }

    /** In the second try's first tick, of 1000 so much taken already. */
    private static NightCycler triedAgain(int taken) {
        NightCycler x = Night.started(Night.RETAINED, 1000);
        x.tick(1);
        x.stroke(0, taken);
        x.tick(59);
        Check.same("60 ticks", x.state(4), 60);
        x.tick(1);
        Check.same("tried again", x.state(0), Night.DRAIN);
        return x;
    }

    private static void flowOfTheSecondTry() {
        NightCycler below = triedAgain(99);
        below.stroke(1, 99);
        below.tick(59);
        Check.same("59 more", below.state(0), Night.DRAIN);
        below.tick(1);
        Check.same("a flow of 99", below.state(0), Night.FILL);
        NightCycler enough = triedAgain(99);
        enough.stroke(1, 100);
        enough.tick(60);
        Check.same("a flow of 100", enough.state(0), Night.DRAIN);
        enough.tick(1);
        Check.same("till it is behind 60 ticks", enough.state(0), Night.FILL);
        NightCycler lasting = triedAgain(0);
        for (int i = 0; i < 5; i++) {
            lasting.stroke((i + 1) % 2, 100);
            lasting.tick(60);
            Check.same("as long as it flows", lasting.state(0), Night.DRAIN);
        }
        lasting.tick(1);
        Check.same("but there is no third try", lasting.state(0), Night.FILL);
        Check.same("poor with 500 of 1000", lasting.report(0, 3), 1);
    }

    private static void leastBehindTheSecondTry() {
        for (int rest : new int[] {100, 101}) {
            NightCycler x = triedAgain(99);
            x.stroke(1, 200);
            Night.moveTimes(x, 2, 200);
            Night.moveTimes(x, 1, rest);
            x.tick(61);
            Check.same("over", x.state(0), Night.FILL);
            Check.same("taken", x.report(0, 1), 699 + rest);
            Check.same("poor with 799, not with 800", x.report(0, 3), rest == 100 ? 1 : 0);
        }
    }

    /** A flow of 100 goes on, though as much had flowed in the same ticks of what was before. */
    private static void noFlowFromBefore() {
        NightCycler end = Night.started(Night.RETAINED, 5000);
        Night.moveTimes(end, 70, 50);
        end.end();
        flowsOn("END behind DRAIN", end, false);
        NightCycler cut = Night.started(Night.RETAINED, 5000);
        Night.moveTimes(cut, 70, 50);
        cut.cut(6);
        cut.power(0);
        flowsOn("DRAIN behind a cut", cut, false);
        NightCycler again = Night.started(Night.RETAINED, 1000);
        Night.moveTimes(again, 33, 3);
        again.tick(27);
        Check.same("60 ticks, 99 taken", again.state(5), 99);
        flowsOn("the second try", again, true);
        NightCycler next = Night.started(Night.FILL_VOLUME, 500, Night.RETAINED, 99);
        Night.moveTimes(next, 60, 1);
        next.tick(1);
        Check.same("FILL", next.state(0), Night.FILL);
        next.stroke(0, 200);
        Night.moveTimes(next, 2, 200);
        next.tick(240);
        flowsOn("the next DRAIN", next, false);
    }

    /** The next tick is the first of 60; too little is taken, so behind one more dry tick it is tried again. */
    private static void flowsOn(String where, NightCycler x, boolean triedAlready) {
        Night.moveTimes(x, 10, 10);
        int phase = x.state(0);
        x.tick(51 + (triedAlready ? 0 : 60));
        Check.same(where + ": 100 flowed behind the first 60 ticks", x.state(0), phase);
        x.tick(1);
        Check.no(where + ": 90 behind the next", x.state(0) == phase);
    }

    private static void littleTakenFromLittle() {
        NightCycler nothing = Night.started(Night.RETAINED, 99, Night.LEAST, 100);
        nothing.tick(61);
        Check.same("nothing of 99", nothing.state(0), Night.FILL);
        Check.same("is not poor", nothing.report(0, 3), 0);
        NightCycler all = Night.started(Night.RETAINED, 100, Night.LEAST, 100);
        Night.moveTimes(all, 1, 100);
        all.tick(61);
        Check.same("all of 100", all.state(0), Night.FILL);
        Check.same("is not poor", all.report(0, 3), 0);
        NightCycler most = Night.started(Night.RETAINED, 100, Night.LEAST, 100);
        Night.moveTimes(most, 1, 99);
        most.tick(60);
        Check.same("99 of 100: tried again", most.state(0), Night.DRAIN);
        most.tick(60);
        Check.same("over", most.state(0), Night.FILL);
        Check.same("99 of 100 are poor", most.report(0, 3), 1);
    }

    /** Behind the drain of each cycle but the last FILL, behind that LAST if it is above 0, else DONE. */
    private static void behindADrain() {
        for (int last = 0; last <= 1; last++) {
            NightCycler x = Night.started(Night.CYCLES, 2, Night.FILL_VOLUME, 500, Night.LAST_VOLUME, last);
            x.tick(61);
            for (int cycle = 1; cycle <= 2; cycle++) {
                Check.same("FILL", x.state(0), Night.FILL);
                Check.same("its cycle", x.state(1), cycle);
                x.stroke(0, 200);
                Night.moveTimes(x, 2, 150);
                x.tick(1);
                Check.same("DWELL behind FILL", x.state(0), Night.DWELL);
                x.tick(240);
                Check.same("DRAIN behind DWELL", x.state(0), Night.DRAIN);
                Check.same("of the same cycle", x.state(1), cycle);
                x.tick(120);
            }
            Check.same("LAST of " + last, x.state(0), last == 0 ? Night.DONE : Night.LAST);
            Check.same("the cycle stays", x.state(1), 2);
        }
    }
}

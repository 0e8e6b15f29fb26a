/** Promises 17 and 18: power cuts and what counts when power comes. */
public final class CutTest {
    public static void main(String[] args) {
        exceptions();
        allIsAsAtFirst();
        aFillIsTakenUp();
        aLostStroke();
        aLostChangeOfPhase();
        fewerThanSixWords();
        aDrainIsTakenUp();
        dwellIsTakenUp();
        longCuts();
        noPageCounts();
        doneIsIdle();
        lostTwice();
        pagesByTurns();
        reportsOfLaterCycles();
        prescribedAnewBeforeALoss();
        doneLostByALaterCut();
        poorStays();
        thePrescriptionStays();
        theHeaterBeginsOff();
        Check.finish();
    }

    private static void exceptions() {
        NightCycler x = new NightCycler();
        Check.badArgument("-1 words", () -> x.cut(-1));
        Check.badArgument("7 words", () -> x.cut(7));
        Check.badArgument("far below", () -> x.cut(Integer.MIN_VALUE));
        Check.badArgument("far above", () -> x.cut(Integer.MAX_VALUE));
        Check.badState("power is on", () -> x.power(0));
        Check.badState("the state is looked at first", () -> x.power(-1));
        x.cut(0);
        Check.badState("off already", () -> x.cut(0));
        Check.badState("off already, wrong number", () -> x.cut(7));
        Check.badArgument("minutes below 0", () -> x.power(-1));
        Check.badArgument("far below 0", () -> x.power(Integer.MIN_VALUE));
        Check.badState("it is off still", () -> x.tick(1));
        Check.same("IDLE", x.power(Integer.MAX_VALUE), Night.IDLE);
        x.tick(1);
    }

    private static void allIsAsAtFirst() {
        NightCycler x = Night.weighedInFirstFill(Night.RETAINED, 50);
        Night.moveTimes(x, 2, 90);
        Night.moveTimes(x, 1, 20);
        x.heat(0, 3600);
        x.heat(1, 3600);
        x.pause(true);
        x.air(true);
        x.mute();
        int number = x.state(8);
        x.cut(6);
        int[] due = {Night.IDLE, 0, 0, Night.UNKNOWN, 0, 0, 0, 0, number};
        for (int what = 0; what < due.length; what++) {
            Check.same("state(" + what + ")", x.state(what), due[what]);
        }
        Check.same("no alarm", x.alarm(0), -1);
        Check.same("not mute", x.muted(), 0);
        Check.same("reports stay", x.report(1, 0), 200);
        x.power(0);
        Check.same("not paused, no air, warm", x.tick(1), Night.FILL_0);
        Check.same("the prescription stays", x.state(2), 50 + 200);
    }

    private static void aFillIsTakenUp() {
        NightCycler x = Night.inFirstFill(Night.FILL_VOLUME, 500, Night.CEILING, 1000);
        Night.moveTimes(x, 1, 200);
        x.tick(10);
        Night.moveTimes(x, 1, 200);
        x.tick(5);
        x.cut(6);
        Check.same("behind 120 minutes", x.power(120), Night.FILL);
        int[] due = {Night.FILL, 1, 400, Night.UNKNOWN, 13, 400, 0, 0, 4};
        for (int what = 0; what < due.length; what++) {
            Check.same("state(" + what + ")", x.state(what), due[what]);
        }
        Check.same("chamber 0 is next", x.tick(1), Night.FILL_0);
        x.stroke(0, 99);
        x.tick(1);
        Check.same("499 were filled", x.state(0), Night.FILL);
        x.stroke(1, 1);
        x.tick(1);
        Check.same("500 were wanted", x.state(0), Night.DWELL);
        Check.same("the report goes on", x.report(1, 0), 500);
    }

    private static void aLostStroke() {
        NightCycler x = Night.inFirstFill();
        Night.moveTimes(x, 3, 200);
        x.cut(5);
        Check.same("FILL", x.power(0), Night.FILL);
        Check.same("A", x.state(2), 400);
        Check.same("filled", x.state(5), 400);
        Check.same("ticks", x.state(4), 3);
        Check.same("the number goes on", x.state(8), 5);
        Check.same("what was reported stays", x.report(1, 0), 600);
        Night.moveTimes(x, 1, 100);
        Check.same("the next number", x.state(8), 6);
        Check.same("A", x.state(2), 500);
        x.cut(6);
        x.power(0);
        Check.same("the new page counts", x.state(2), 500);
    }

    private static void aLostChangeOfPhase() {
        NightCycler x = Night.started(Night.RETAINED, 200);
        Night.moveTimes(x, 1, 200);
        x.tick(61);
        Check.same("FILL", x.state(0), Night.FILL);
        x.cut(0);
        Check.same("DRAIN", x.power(0), Night.DRAIN);
        Check.same("the cycle", x.state(1), 0);
        Check.outOfBounds("the later cycle's report is gone", () -> x.report(1, 0));
        Check.same("the initial drain's is not", x.report(0, 1), 200);
        Check.same("ticks as of the stroke", x.state(4), 1);
        x.tick(60);
        Check.same("60 ticks anew", x.state(0), Night.DRAIN);
        x.tick(1);
        Check.same("enough was taken before the cut", x.state(0), Night.FILL);
        Check.same("not poor", x.report(0, 3), 0);
    }

    private static void fewerThanSixWords() {
        for (int words = 0; words <= 6; words++) {
            NightCycler x = Night.inFirstFill();
            Night.moveTimes(x, 2, 200);
            x.cut(words);
            x.power(0);
            Check.same("A with " + words + " words", x.state(2), words == 6 ? 400 : 200);
        }
    }

    private static void aDrainIsTakenUp() {
        NightCycler x = Night.started(Night.RETAINED, 1000);
        Night.moveTimes(x, 2, 200);
        x.tick(61);
        Check.same("tried again", x.state(4), 63);
        x.cut(6);
        Check.same("DRAIN", x.power(0), Night.DRAIN);
        int[] due = {Night.DRAIN, 0, 600, Night.UNKNOWN, 2, 400, 0, 0, 3};
        for (int what = 0; what < due.length; what++) {
            Check.same("state(" + what + ")", x.state(what), due[what]);
        }
        x.tick(60);
        Check.same("the flow from before the cut is none", x.state(0), Night.DRAIN);
        x.tick(60);
        Check.same("it was tried again once more", x.state(0), Night.DRAIN);
        x.tick(1);
        Check.same("400 of 1000 are less than 80 percent", x.state(0), Night.FILL);
        Check.same("poor", x.report(0, 3), 1);
        NightCycler y = Night.started(Night.RETAINED, 1000);
        Night.moveTimes(y, 3, 200);
        y.cut(6);
        y.power(0);
        Night.moveTimes(y, 1, 200);
        y.tick(61);
        Check.same("800 of 1000 are 80 percent", y.state(0), Night.FILL);
    }

    private static void dwellIsTakenUp() {
        NightCycler x = Night.inFirstFill(Night.FILL_VOLUME, 500);
        Night.moveTimes(x, 3, 200);
        x.tick(100);
        Check.same("ticks of dwell", x.report(1, 2), 100);
        x.cut(6);
        Check.same("DWELL", x.power(1), Night.DWELL);
        Check.same("as when it began", x.state(4), 0);
        Check.same("A", x.state(2), 600);
        x.tick(240);
        Check.same("its minutes", x.state(0), Night.DWELL);
        x.tick(1);
        Check.same("are over", x.state(0), Night.DRAIN);
        Check.same("all ticks of dwell", x.report(1, 2), 340);
    }

    private static void longCuts() {
        NightCycler x = Night.inFirstFill();
        Night.moveTimes(x, 3, 200);
        x.cut(6);
        Check.same("END", x.power(121), Night.END);
        int[] due = {Night.END, 1, 600, Night.UNKNOWN, 0, 0, 0, 0, 6};
        for (int what = 0; what < due.length; what++) {
            Check.same("state(" + what + ")", x.state(what), due[what]);
        }
        Check.same("it drains", x.tick(1), Night.DRAIN_0);
        x.stroke(0, 200);
        Night.moveTimes(x, 2, 140);
        x.tick(61);
        Check.same("480 of 600", x.state(0), Night.DONE);
        Check.same("not poor", x.report(1, 3), 0);
        NightCycler y = Night.inFirstFill();
        Night.moveTimes(y, 3, 200);
        y.cut(3);
        Check.same("END", y.power(Integer.MAX_VALUE), Night.END);
        Check.same("A of the page that counts", y.state(2), 400);
        y.cut(6);
        Check.same("END was written", y.power(0), Night.END);
    }

    private static void noPageCounts() {
        NightCycler x = Night.started(Night.RETAINED, 500);
        x.cut(0);
        Check.same("the only page was lost", x.power(0), Night.IDLE);
        Check.same("A", x.state(2), 0);
        Check.same("the report of the initial drain stays", x.report(0, 0), 0);
        Check.same("nothing is ordered", x.tick(10), 0);
        x.start();
        Check.same("it starts anew", x.state(2), 500);
        Check.same("the number goes on", x.state(8), 2);
        x.cut(6);
        Check.same("and is there", x.power(0), Night.DRAIN);
    }

    private static void doneIsIdle() {
        NightCycler x = Night.done();
        int number = x.state(8);
        x.cut(6);
        Check.same("DONE", x.power(0), Night.IDLE);
        Check.same("number", x.state(8), number);
        Check.same("its report stays", x.report(0, 3), 0);
        x.cut(6);
        Check.same("likewise behind a long one", x.power(500), Night.IDLE);
        x.start();
        x.cut(0);
        Check.same("a lost start leaves DONE", x.power(0), Night.IDLE);
        NightCycler y = Night.done();
        y.cut(4);
        Check.same("a lost DONE leaves END", y.power(0), Night.END);
    }

    private static void lostTwice() {
        NightCycler x = Night.inFirstFill();
        Night.moveTimes(x, 2, 200);
        x.cut(2);
        x.power(0);
        x.cut(0);
        Check.same("the page written latest was lost already", x.power(0), Night.FILL);
        Check.same("so the other one counts still", x.state(2), 200);
        x.cut(6);
        Check.same("six words of a lost page do not bring it back", x.power(0), Night.FILL);
        Check.same("A", x.state(2), 200);
    }

    private static void pagesByTurns() {
        NightCycler x = Night.inFirstFill();
        Night.moveTimes(x, 2, 200);
        x.cut(2);
        x.power(0);
        Night.moveTimes(x, 1, 50);
        Check.same("one more than the lost one", x.state(8), 5);
        x.cut(2);
        Check.same("it took the place of the other page", x.power(0), Night.IDLE);
        x.start();
        Check.same("one more", x.state(8), 6);
        x.tick(61);
        x.cut(1);
        Check.same("both pages are in use again", x.power(0), Night.DRAIN);
    }

    private static void reportsOfLaterCycles() {
        NightCycler x = Night.inFirstFill(Night.FILL_VOLUME, 500);
        Night.moveTimes(x, 3, 200);
        x.tick(240);
        Night.moveTimes(x, 3, 200);
        x.tick(61);
        Check.same("cycle 2", x.state(1), 2);
        x.stroke(0, 100);
        x.cut(6);
        x.power(0);
        Check.same("the report of cycle 2 stays", x.report(2, 0), 100);
        x.cut(0);
        x.power(0);
        Check.same("cycle 2 still", x.state(1), 2);
        Check.same("its report is as it was", x.report(2, 0), 100);
        NightCycler y = Night.inFirstFill(Night.FILL_VOLUME, 500);
        Night.moveTimes(y, 3, 200);
        y.tick(240);
        Night.moveTimes(y, 3, 200);
        y.tick(61);
        y.cut(0);
        Check.same("back in DRAIN", y.power(200), Night.END);
        Check.same("of cycle 1", y.state(1), 1);
        Check.outOfBounds("the report of cycle 2 is gone", () -> y.report(2, 0));
        Check.same("that of cycle 1 is not", y.report(1, 1), 600);
    }

    private static void prescribedAnewBeforeALoss() {
        NightCycler x = Night.inFirstFill(Night.CYCLES, 2, Night.FILL_VOLUME, 500);
        for (int cycle = 1; cycle <= 2; cycle++) {
            x.tick(1);
            x.stroke(0, 200);
            Night.moveTimes(x, 2, 200);
            x.tick(240);
            Night.moveTimes(x, 3, 200);
            x.tick(61);
        }
        Check.same("DONE", x.state(0), Night.DONE);
        x.prescribe(Night.CYCLES, 1);
        x.cut(0);
        Check.same("back in DRAIN", x.power(0), Night.DRAIN);
        Check.same("of cycle 2", x.state(1), 2);
        x.tick(61);
        Check.same("no cycle more", x.state(0), Night.DONE);
    }

    /** The page written latest is DONE's, also when a cut before this one left it and it is IDLE now. */
    private static void doneLostByALaterCut() {
        NightCycler x = Night.inFirstFill();
        Night.moveTimes(x, 2, 200);
        x.end();
        Night.moveTimes(x, 2, 200);
        x.tick(61);
        Check.same("DONE", x.state(0), Night.DONE);
        x.cut(6);
        Check.same("DONE counts", x.power(0), Night.IDLE);
        x.tick(10);
        x.cut(5);
        Check.same("END is the other page's", x.power(0), Night.END);
        Check.same("its cycle", x.state(1), 1);
        Check.same("its A", x.state(2), 0);
        Check.same("what it took", x.state(5), 400);
        x.tick(60);
        Check.same("60 ticks anew", x.state(0), Night.END);
        x.tick(1);
        Check.same("then it is over", x.state(0), Night.DONE);
        Check.same("400 of 400 are not poor", x.report(1, 3), 0);
        Check.same("the report of it stayed", x.report(1, 1), 400);
    }

    /** A cycle that was poor is so, though the page behind it was lost and more was taken then. */
    private static void poorStays() {
        NightCycler x = Night.started(Night.RETAINED, 200);
        x.tick(121);
        Check.same("FILL", x.state(0), Night.FILL);
        Check.same("poor", x.report(0, 3), 1);
        x.cut(0);
        Check.same("DRAIN", x.power(0), Night.DRAIN);
        Check.same("reports outlive the cut", x.report(0, 3), 1);
        Night.moveTimes(x, 1, 200);
        x.tick(61);
        Check.same("FILL again", x.state(0), Night.FILL);
        Check.same("all was taken", x.report(0, 1), 200);
        Check.same("it was poor", x.report(0, 3), 1);
    }

    /** A prescription that is sound at its edge, cut before the start: each field is seen to be as it was. */
    private static void thePrescriptionStays() {
        NightCycler x = Night.prescribed(Night.CYCLES, 1, Night.FILL_VOLUME, 600, Night.DWELL_MINUTES, 2,
            Night.LAST_VOLUME, 100, Night.LEAST, 50, Night.CEILING, 1000, Night.NIGHT, 2, Night.TARGET, 3600,
            Night.RETAINED, 300);
        x.cut(0);
        x.power(1000);
        x.start();
        Check.same("RETAINED", x.state(2), 300);
        x.heat(0, 3560);
        Check.same("TARGET", x.tick(1), Night.DRAIN_0);
        x.stroke(0, 150);
        x.heat(0, 3549);
        x.heat(1, 3600);
        Check.same("the target less 50", x.tick(1), Night.DRAIN_1 + Night.HEATER);
        x.tick(60);
        Check.same("LEAST", x.state(0), Night.FILL);
        x.stroke(0, 200);
        Night.moveTimes(x, 2, 200);
        x.tick(1);
        Check.same("FILL", x.state(0), Night.DWELL);
        x.tick(479);
        Check.same("480 ticks", x.state(0), Night.DWELL);
        x.tick(1);
        Check.same("DWELL", x.state(0), Night.DRAIN);
        x.stroke(0, 200);
        Night.moveTimes(x, 2, 200);
        x.tick(61);
        Check.same("CYCLES and LAST", x.state(0), Night.LAST);
        x.stroke(0, 100);
        x.tick(1);
        Check.same("of 100", x.state(0), Night.DONE);
        x.prescribe(Night.DWELL_MINUTES, 3);
        Check.unsupported("NIGHT", () -> x.start());
        x.prescribe(Night.DWELL_MINUTES, 2);
        x.prescribe(Night.FILL_VOLUME, 1001);
        Check.unsupported("CEILING", () -> x.start());
    }

    private static void theHeaterBeginsOff() {
        NightCycler x = Night.inFirstFill();
        x.heat(0, 3640);
        Check.same("on", x.tick(1), Night.FILL_0 + Night.HEATER);
        x.cut(6);
        x.power(0);
        x.heat(0, 3660);
        Check.same("it was off in the latest tick, as at first", x.tick(1), Night.FILL_0);
    }
}

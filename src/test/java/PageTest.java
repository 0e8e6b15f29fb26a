/** The record of two pages: when one is written, what it holds and which one counts (promises 17, 18 and 19). */
public final class PageTest {
    private static final int[] MINUTES = {0, 1, 119, 120, 121, 122, Integer.MAX_VALUE};

    public static void main(String[] args) {
        nothingWrittenYet();
        oneMoreForEachWrite();
        noneForAllElse();
        wordsThatAreKept();
        onlyOnePage();
        bothPagesLost();
        theGreaterNumberCounts();
        eachPhaseByMinutes();
        tornInEachPhase();
        doneByMinutes();
        endInTheInitialDrain();
        lastTakenUp();
        endTakenUp();
        endAnew();
        lowestNumberOfAll();
        Check.finish();
    }

    private static NightCycler prescribed() {
        return Night.prescribed(Night.CYCLES, 1, Night.FILL_VOLUME, 500, Night.LAST_VOLUME, 300, Night.CEILING, 1500,
            Night.RETAINED, 400);
    }

    /** In a phase behind one stroke (DWELL: without), in a phase's third tick. */
    private static NightCycler in(int phase) {
        NightCycler x = prescribed();
        x.start();
        if (phase == Night.DRAIN) {
            return behindOneStroke(x, 90);
        }
        Night.moveTimes(x, 2, 200);
        x.tick(60);
        if (phase == Night.END) {
            x.end();
            return behindOneStroke(x, 90);
        }
        if (phase == Night.FILL) {
            return behindOneStroke(x, 90);
        }
        Night.moveTimes(x, 3, 180);
        if (phase == Night.DWELL) {
            x.tick(3);
            return x;
        }
        x.tick(240);
        Night.moveTimes(x, 3, 150);
        x.tick(60);
        return behindOneStroke(x, 90);
    }

    private static NightCycler behindOneStroke(NightCycler x, int volume) {
        Night.moveTimes(x, 1, 0);
        Night.moveTimes(x, 1, volume);
        x.tick(1);
        return x;
    }

    private static void nothingWrittenYet() {
        for (int words = 0; words <= 6; words++) {
            for (int minutes : MINUTES) {
                NightCycler x = new NightCycler();
                x.cut(words);
                Check.same("IDLE", x.power(minutes), Night.IDLE);
                Check.same("no number", x.state(8), 0);
                Check.outOfBounds("no report", () -> x.report(0, 0));
                x.start();
                Check.same("the first page", x.state(8), 1);
            }
        }
    }

    private static void oneMoreForEachWrite() {
        NightCycler x = prescribed();
        Check.same("new", x.state(8), 0);
        x.start();
        Check.same("start", x.state(8), 1);
        x.tick(1);
        x.stroke(0, 0);
        Check.same("a stroke of nothing", x.state(8), 2);
        Night.moveTimes(x, 2, 200);
        Check.same("two strokes", x.state(8), 4);
        x.tick(61);
        Check.same("FILL", x.state(8), 5);
        x.stroke(0, 200);
        Night.moveTimes(x, 2, 200);
        x.tick(1);
        Check.same("three strokes and DWELL", x.state(8), 9);
        x.tick(240);
        Check.same("DRAIN", x.state(8), 10);
        x.tick(120);
        Check.same("LAST", x.state(8), 11);
        x.stroke(0, 200);
        Night.moveTimes(x, 1, 200);
        x.tick(1);
        Check.same("two strokes and DONE", x.state(8), 14);
        x.start();
        Check.same("the next therapy goes on with it", x.state(8), 15);
        x.end();
        Check.same("END", x.state(8), 16);
        x.tick(121);
        Check.same("DONE behind END", x.state(8), 17);
    }

    private static void noneForAllElse() {
        NightCycler x = Night.started(Night.RETAINED, 1000);
        x.tick(60);
        x.tick(1);
        Check.same("a drain that is tried again", x.state(8), 1);
        x.stroke(0, 201);
        x.stroke(1, 100);
        Check.same("strokes that are refused", x.state(8), 1);
        x.pause(true);
        x.tick(10);
        x.pause(false);
        Check.same("a pause", x.state(8), 1);
        x.air(true);
        x.tick(1);
        x.air(false);
        x.lift(0);
        x.mute();
        x.scale(5000);
        x.heat(0, 3600);
        Check.same("alarms and what is told", x.state(8), 1);
        Check.badState("prescribed in a therapy", () -> x.prescribe(0, 1));
        Check.badState("started in a therapy", () -> x.start());
        x.cut(6);
        Check.same("a cut", x.state(8), 1);
        x.power(120);
        Check.same("power", x.state(8), 1);
        x.cut(6);
        x.power(121);
        Check.same("but END, which begins", x.state(8), 2);
        NightCycler done = Night.done();
        int number = done.state(8);
        done.tick(100);
        done.prescribe(0, 2);
        done.cut(6);
        done.power(0);
        done.tick(100);
        Check.same("nothing when DONE or IDLE", done.state(8), number);
    }

    private static void wordsThatAreKept() {
        for (int words = 0; words <= 6; words++) {
            NightCycler x = in(Night.FILL);
            Check.same("A", x.state(2), 90);
            x.cut(words);
            Check.same("FILL", x.power(0), Night.FILL);
            Check.same(words + " words: A", x.state(2), words == 6 ? 90 : 0);
            Check.same(words + " words: filled", x.state(5), words == 6 ? 90 : 0);
            Check.same(words + " words: ticks", x.state(4), words == 6 ? 2 : 1);
            Check.same(words + " words: the number", x.state(8), 6);
        }
    }

    private static void onlyOnePage() {
        for (int words = 0; words <= 6; words++) {
            for (int minutes : MINUTES) {
                NightCycler x = prescribed();
                x.start();
                x.cut(words);
                int taken = minutes <= 120 ? Night.DRAIN : Night.END;
                Check.same(words + " words of the only page", x.power(minutes), words == 6 ? taken : Night.IDLE);
                Check.same("A", x.state(2), words == 6 ? 400 : 0);
                Check.same("its report stays", x.report(0, 0), 0);
            }
        }
    }

    private static void bothPagesLost() {
        NightCycler x = in(Night.FILL);
        x.cut(5);
        x.power(0);
        Night.moveTimes(x, 1, 50);
        x.cut(0);
        Check.same("neither page is left", x.power(0), Night.IDLE);
        Check.same("A", x.state(2), 0);
        Check.same("the number goes on", x.state(8), 7);
        x.start();
        Check.same("with the next therapy", x.state(8), 8);
        x.cut(6);
        Check.same("whose page counts", x.power(0), Night.DRAIN);
        Check.same("its A", x.state(2), 400);
    }

    /** Even and odd numbers, each being the greater one in turn. */
    private static void theGreaterNumberCounts() {
        NightCycler x = Night.started(Night.RETAINED, 1000);
        for (int i = 1; i <= 20; i++) {
            Night.moveTimes(x, 1, i);
            Check.same("number", x.state(8), i + 1);
            x.cut(6);
            x.power(0);
            Check.same("A of page " + (i + 1), x.state(2), 1000 - i * (i + 1) / 2);
            Check.same("ticks", x.state(4), i);
        }
        for (int i = 1; i <= 20; i++) {
            NightCycler y = Night.started(Night.RETAINED, 1000);
            Night.moveTimes(y, i, 3);
            y.cut(5);
            y.power(0);
            Check.same("A of the page before " + (i + 1), y.state(2), 1000 - 3 * (i - 1));
        }
    }

    private static void eachPhaseByMinutes() {
        for (int phase = Night.DRAIN; phase <= Night.END; phase++) {
            for (int minutes : MINUTES) {
                NightCycler x = in(phase);
                Check.same("phase", x.state(0), phase);
                Check.same("ticks", x.state(4), 3);
                int a = x.state(2);
                int cycle = x.state(1);
                int moved = x.state(5);
                int number = x.state(8);
                boolean taken = minutes <= 120;
                x.cut(6);
                String what = "phase " + phase + " behind " + minutes;
                Check.same(what, x.power(minutes), taken ? phase : Night.END);
                Check.same(what + ": state(0)", x.state(0), taken ? phase : Night.END);
                Check.same(what + ": cycle", x.state(1), cycle);
                Check.same(what + ": A", x.state(2), a);
                Check.same(what + ": moved", x.state(5), taken ? moved : 0);
                Check.same(what + ": ticks as of the stroke", x.state(4), taken && phase != Night.DWELL ? 2 : 0);
                Check.same(what + ": number", x.state(8), taken ? number : number + 1);
                Check.same(what + ": not safe", x.state(6), 0);
                Check.same(what + ": not paused", x.state(7), 0);
                Check.no(what + ": nothing is ordered yet", x.stroke(0, 1));
                Check.same(what + ": chamber 0 is first", x.tick(1), firstOrders(x.state(0)));
            }
        }
    }

    private static int firstOrders(int phase) {
        if (phase == Night.DWELL) {
            return 0;
        }
        return phase == Night.FILL || phase == Night.LAST ? Night.FILL_0 : Night.DRAIN_0;
    }

    /** Just begun, with the page of its beginning torn: the phase before is taken up. */
    private static void tornInEachPhase() {
        NightCycler fill = prescribed();
        fill.start();
        Night.moveTimes(fill, 2, 200);
        fill.tick(61);
        torn("FILL", fill, Night.FILL, Night.DRAIN, 0);
        NightCycler dwell = in(Night.FILL);
        dwell.stroke(0, 200);
        Night.moveTimes(dwell, 2, 200);
        dwell.tick(1);
        torn("DWELL", dwell, Night.DWELL, Night.FILL, 1);
        NightCycler drain = in(Night.DWELL);
        drain.tick(238);
        torn("DRAIN", drain, Night.DRAIN, Night.DWELL, 1);
        NightCycler last = in(Night.DWELL);
        last.tick(237);
        Night.moveTimes(last, 3, 150);
        last.tick(61);
        torn("LAST", last, Night.LAST, Night.DRAIN, 1);
        NightCycler done = in(Night.LAST);
        done.stroke(0, 200);
        Night.moveTimes(done, 1, 200);
        done.tick(1);
        torn("DONE", done, Night.DONE, Night.LAST, 1);
        NightCycler end = in(Night.DWELL);
        end.end();
        torn("END", end, Night.END, Night.DWELL, 1);
    }

    private static void torn(String what, NightCycler x, int phase, int before, int cycle) {
        Check.same(what + ": phase", x.state(0), phase);
        int number = x.state(8);
        x.cut(5);
        Check.same(what + ": the phase before", x.power(0), before);
        Check.same(what + ": its cycle", x.state(1), cycle);
        Check.same(what + ": reports of it", x.report(cycle, 3), 0);
        Check.outOfBounds(what + ": none of later cycles", () -> x.report(cycle + 1, 0));
        Check.same(what + ": the number is not taken back", x.state(8), number);
    }

    private static void doneByMinutes() {
        for (int minutes : MINUTES) {
            NightCycler x = Night.done();
            int number = x.state(8);
            x.cut(6);
            Check.same("IDLE behind DONE", x.power(minutes), Night.IDLE);
            Check.same("the cycle is as at first", x.state(1), 0);
            Check.same("no page", x.state(8), number);
            Check.same("reports stay", x.report(0, 1), 0);
            x.prescribe(Night.RETAINED, 1);
            x.start();
            Check.same("a new therapy", x.state(2), 1);
        }
    }

    private static void endInTheInitialDrain() {
        NightCycler x = in(Night.DRAIN);
        x.cut(6);
        x.power(121);
        Check.same("the initial drain's cycle", x.state(1), 0);
        Night.moveTimes(x, 2, 155);
        Check.same("END's strokes are its", x.report(0, 1), 90 + 310);
        x.tick(61);
        Check.same("DONE", x.state(0), Night.DONE);
        Check.same("310 of 310 are not poor", x.report(0, 3), 0);
        Check.outOfBounds("no cycle has begun", () -> x.report(1, 0));
    }

    private static void lastTakenUp() {
        NightCycler x = in(Night.LAST);
        x.cut(6);
        x.power(120);
        Check.same("filled", x.state(5), 90);
        Night.moveTimes(x, 1, 200);
        Night.moveTimes(x, 1, 9);
        x.tick(1);
        Check.same("299 of 300", x.state(0), Night.LAST);
        x.stroke(0, 1);
        x.tick(1);
        Check.same("300 of 300", x.state(0), Night.DONE);
    }

    /** In END with 360 of 500 taken, and so much more behind a cut. */
    private static NightCycler ended(int more) {
        NightCycler x = Night.inFirstFill(Night.LEAST, 100);
        Night.moveTimes(x, 2, 200);
        Night.moveTimes(x, 1, 100);
        x.end();
        Night.moveTimes(x, 2, 180);
        x.cut(6);
        x.power(120);
        Check.same("taken", x.state(5), 360);
        Night.moveTimes(x, 1, more);
        x.tick(61);
        return x;
    }

    private static void endTakenUp() {
        NightCycler all = ended(140);
        Check.same("500 of 500", all.state(0), Night.DONE);
        Check.same("are not poor", all.report(1, 3), 0);
        NightCycler most = ended(139);
        Check.same("499 of 500: tried again", most.state(0), Night.END);
        most.tick(60);
        Check.same("over", most.state(0), Night.DONE);
        Check.same("poor", most.report(1, 3), 1);
    }

    /** Behind a long cut END begins anew, so what it took before counts for it no more. */
    private static void endAnew() {
        NightCycler x = in(Night.END);
        Check.same("A", x.state(2), -90);
        x.cut(6);
        x.power(121);
        Check.same("taken", x.state(5), 0);
        NightCycler y = Night.inFirstFill(Night.LEAST, 100);
        Night.moveTimes(y, 1, 200);
        y.end();
        Night.moveTimes(y, 1, 101);
        y.cut(6);
        y.power(121);
        Check.same("A", y.state(2), 99);
        y.tick(61);
        Check.same("99 are below 100", y.state(0), Night.DONE);
        Check.same("not poor", y.report(1, 3), 0);
    }

    /** A number is never that of an empty page, from the first on. */
    private static void lowestNumberOfAll() {
        NightCycler x = Night.started(Night.RETAINED, 7);
        Check.same("the first page has number 1", x.state(8), 1);
        x.end();
        Check.same("the second 2", x.state(8), 2);
        x.cut(5);
        Check.same("the first one counts", x.power(0), Night.DRAIN);
        Check.same("with its A", x.state(2), 7);
    }
}

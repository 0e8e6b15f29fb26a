/** Promise 7. */
public final class StrokeTest {
    public static void main(String[] args) {
        whatIsAccepted();
        oncePerTick();
        byTurns();
        booksAndPages();
        whereNothingMoves();
        causesAreLookedAt();
        inEachPhase();
        leastAndMost();
        onlyTheLatestTick();
        Check.finish();
    }

    private static void whatIsAccepted() {
        NightCycler x = Night.inFirstFill();
        Check.no("chamber 1 is not ordered", x.stroke(1, 100));
        Check.no("chamber -1", x.stroke(-1, 100));
        Check.no("chamber 2", x.stroke(2, 100));
        Check.no("chamber far below", x.stroke(Integer.MIN_VALUE, 100));
        Check.no("chamber far above", x.stroke(Integer.MAX_VALUE, 100));
        Check.no("volume -1", x.stroke(0, -1));
        Check.no("volume 201", x.stroke(0, 201));
        Check.no("volume far below", x.stroke(0, Integer.MIN_VALUE));
        Check.no("volume far above", x.stroke(0, Integer.MAX_VALUE));
        Check.same("nothing was moved", x.state(5), 0);
        Check.same("no page was written", x.state(8), 2);
        Check.yes("volume 200, behind all that was refused", x.stroke(0, 200));
        Check.same("chamber 1 now", x.tick(1), Night.FILL_1);
        Check.yes("volume 0", x.stroke(1, 0));
        Check.same("a stroke of nothing is one", x.tick(1), Night.FILL_0);
        Check.same("and writes a page", x.state(8), 4);
        Check.same("A", x.state(2), 200);
    }

    private static void oncePerTick() {
        NightCycler x = Night.inFirstFill();
        Check.yes("first", x.stroke(0, 100));
        Check.no("second of the same chamber", x.stroke(0, 100));
        Check.no("second of the other", x.stroke(1, 100));
        x.tick(1);
        Check.no("chamber 0 is not moved now", x.stroke(0, 100));
        Check.yes("chamber 1 is", x.stroke(1, 100));
        Check.same("moved", x.state(5), 200);
    }

    private static void byTurns() {
        NightCycler x = Night.inFirstFill();
        Check.same("chamber 0 as long as no stroke was accepted", x.tick(20), Night.FILL_0);
        x.stroke(0, 100);
        Check.same("chamber 1 likewise", x.tick(20), Night.FILL_1);
        x.end();
        Check.same("chamber 0 is first in a phase", x.tick(1), Night.DRAIN_0);
    }

    private static void booksAndPages() {
        NightCycler x = Night.started(Night.RETAINED, 300);
        x.tick(1);
        Check.yes("in DRAIN", x.stroke(0, 120));
        Check.same("A", x.state(2), 180);
        Check.same("taken", x.state(5), 120);
        Check.same("page", x.state(8), 2);
        Night.moveTimes(x, 1, 200);
        Check.same("A may go below 0", x.state(2), -20);
        Check.same("taken", x.state(5), 320);
        Check.same("drained", x.report(0, 1), 320);
        Check.same("nothing filled", x.report(0, 0), 0);
        x.tick(61);
        x.stroke(0, 70);
        Check.same("in FILL", x.state(2), 50);
        Check.same("filled", x.state(5), 70);
        Check.same("in the report", x.report(1, 0), 70);
        Check.same("of its cycle alone", x.report(0, 0), 0);
    }

    private static void whereNothingMoves() {
        NightCycler idle = new NightCycler();
        Check.no("IDLE", idle.stroke(0, 100));
        idle.tick(1);
        Check.no("IDLE behind a tick", idle.stroke(0, 100));
        Check.no("IDLE, chamber -1", idle.stroke(-1, 100));
        NightCycler dwell = Night.inFirstFill(Night.FILL_VOLUME, 500);
        Night.moveTimes(dwell, 3, 200);
        dwell.tick(1);
        Check.no("DWELL, chamber 0", dwell.stroke(0, 100));
        Check.no("DWELL, chamber 1", dwell.stroke(1, 100));
        NightCycler done = Night.done();
        Check.no("DONE", done.stroke(0, 100));
        NightCycler off = Night.inFirstFill();
        off.cut(6);
        Check.no("without power", off.stroke(0, 100));
        off.power(0);
        Check.no("before the first tick behind it", off.stroke(0, 100));
        off.tick(1);
        Check.yes("behind it", off.stroke(0, 100));
        NightCycler safe = Night.inFirstFill();
        safe.air(true);
        Check.yes("the latest tick ordered it", safe.stroke(0, 100));
        safe.tick(1);
        Check.no("safe", safe.stroke(1, 100));
    }

    private static void causesAreLookedAt() {
        NightCycler x = Night.weighedInFirstFill();
        Night.weigh(x, 8, 5020);
        Check.same("B", x.state(3), -200);
        Check.same("200 apart", x.alarm(0), -1);
        x.stroke(0, 9);
        Check.same("209 apart", x.alarm(0), 2);
        Check.same("safe", x.state(6), 1);
    }

    private static void inEachPhase() {
        NightCycler x = Night.prescribed(Night.CYCLES, 1, Night.FILL_VOLUME, 500, Night.LAST_VOLUME, 300,
            Night.RETAINED, 100);
        Check.no("IDLE", x.stroke(0, 1));
        x.start();
        Check.no("before the first tick", x.stroke(0, 1));
        x.tick(1);
        Check.yes("DRAIN", x.stroke(0, 100));
        Check.same("takes from A", x.state(2), 0);
        x.tick(61);
        Check.yes("FILL", x.stroke(0, 200));
        Check.same("adds to A", x.state(2), 200);
        Night.moveTimes(x, 2, 200);
        x.tick(1);
        Check.no("DWELL", x.stroke(0, 1));
        Check.no("DWELL, chamber 1", x.stroke(1, 1));
        x.tick(240);
        Check.yes("DRAIN of a cycle", x.stroke(0, 200));
        Night.moveTimes(x, 2, 200);
        x.tick(61);
        Check.yes("LAST", x.stroke(0, 200));
        Check.same("adds to A", x.state(2), 200);
        x.end();
        Check.no("before the first tick of END", x.stroke(1, 1));
        x.tick(1);
        Check.yes("END", x.stroke(0, 200));
        Check.same("takes from A", x.state(2), 0);
        x.tick(61);
        Check.no("DONE", x.stroke(0, 1));
        Check.no("DONE, chamber 1", x.stroke(1, 1));
    }

    private static void leastAndMost() {
        for (int volume : new int[] {0, 1, 199, 200}) {
            NightCycler x = Night.inFirstFill();
            Check.yes("volume " + volume, x.stroke(0, volume));
            Check.same("filled", x.state(5), volume);
            Check.same("A", x.state(2), volume);
            Check.no("none since that tick, even of " + volume, x.stroke(0, volume));
            Check.same("the other chamber is next", x.tick(1), Night.FILL_1);
        }
        for (int volume : new int[] {-1, 201}) {
            NightCycler x = Night.inFirstFill();
            Check.no("volume " + volume, x.stroke(0, volume));
            Check.same("nothing filled", x.state(5), 0);
            Check.same("it is chamber 0's turn still", x.tick(1), Night.FILL_0);
        }
    }

    private static void onlyTheLatestTick() {
        NightCycler x = Night.inFirstFill();
        Check.same("moves", x.tick(3), Night.FILL_0);
        Check.yes("one stroke for three ticks", x.stroke(0, 1));
        Check.no("not three", x.stroke(0, 1));
        x.tick(2);
        x.line(true);
        x.tick(1);
        Check.no("the tick before the latest moved", x.stroke(1, 1));
        x.line(false);
        Check.no("free, but the latest tick did not move", x.stroke(1, 1));
        x.tick(1);
        Check.yes("now it did", x.stroke(1, 1));
    }
}

/** Promise 20. */
public final class ReportTest {
    public static void main(String[] args) {
        NightCycler x = Night.prescribed(Night.CYCLES, 2, Night.FILL_VOLUME, 500, Night.LAST_VOLUME, 300,
            Night.RETAINED, 250);
        notBegun(x, 0);
        x.start();
        due("at the start", x, 0, 0, 0, 0, 0);
        notBegun(x, 1);
        Night.moveTimes(x, 1, 200);
        due("while it drains", x, 0, 0, 200, 0, 0);
        x.tick(61);
        due("FILL has begun", x, 1, 0, 0, 0, 0);
        notBegun(x, 2);
        x.stroke(0, 200);
        due("while it fills", x, 1, 200, 0, 0, 0);
        Night.moveTimes(x, 2, 150);
        x.tick(7);
        due("while it dwells", x, 1, 500, 0, 7, 0);
        x.pause(true);
        x.tick(7);
        x.pause(false);
        due("paused ticks are none", x, 1, 500, 0, 7, 0);
        x.tick(233);
        Night.moveTimes(x, 2, 100);
        due("drained", x, 1, 500, 200, 240, 0);
        x.tick(122);
        due("poor", x, 1, 500, 200, 240, 1);
        due("cycle 2", x, 2, 0, 0, 0, 0);
        notBegun(x, 3);
        Night.moveTimes(x, 3, 180);
        x.tick(240);
        Night.moveTimes(x, 4, 200);
        x.tick(61);
        due("cycle 2 is drained", x, 2, 540, 800, 240, 0);
        Check.same("LAST", x.state(0), Night.LAST);
        x.stroke(0, 200);
        due("LAST counts for the last cycle", x, 2, 740, 800, 240, 0);
        x.end();
        Night.moveTimes(x, 1, 50);
        due("END for the cycle in which it is", x, 2, 740, 850, 240, 0);
        x.tick(200);
        Check.same("DONE", x.state(0), Night.DONE);
        due("the initial drain", x, 0, 0, 200, 0, 0);
        due("cycle 1", x, 1, 500, 200, 240, 1);
        due("cycle 2", x, 2, 740, 850, 240, 1);
        notBegun(x, 3);
        noSuchField(x);
        x.cut(6);
        due("without power", x, 2, 740, 850, 240, 1);
        x.power(0);
        due("behind a cut", x, 2, 740, 850, 240, 1);
        x.start();
        due("a new therapy", x, 0, 0, 0, 0, 0);
        notBegun(x, 1);
        twelveCycles();
        Check.finish();
    }

    private static void due(String where, NightCycler x, int cycle, int... values) {
        for (int field = 0; field < values.length; field++) {
            Check.same(where + ": report(" + cycle + ", " + field + ")", x.report(cycle, field), values[field]);
        }
    }

    private static void notBegun(NightCycler x, int cycle) {
        Check.outOfBounds(cycle + " has not begun", () -> x.report(cycle, 0));
        Check.outOfBounds("the cycle is looked at first", () -> x.report(cycle, 4));
        Check.outOfBounds("-1 never begins", () -> x.report(-1, 0));
        Check.outOfBounds("far below", () -> x.report(Integer.MIN_VALUE, 0));
        Check.outOfBounds("far above", () -> x.report(Integer.MAX_VALUE, 0));
    }

    private static void noSuchField(NightCycler x) {
        Check.badArgument("field -1", () -> x.report(0, -1));
        Check.badArgument("field 4", () -> x.report(2, 4));
        Check.badArgument("field far below", () -> x.report(0, Integer.MIN_VALUE));
        Check.badArgument("field far above", () -> x.report(0, Integer.MAX_VALUE));
    }

    private static void twelveCycles() {
        NightCycler x = Night.inFirstFill(Night.CYCLES, 12, Night.FILL_VOLUME, 500);
        for (int cycle = 1; cycle <= 12; cycle++) {
            Check.same("cycle", x.state(1), cycle);
            x.stroke(0, 200);
            Night.moveTimes(x, 2, 150 + cycle);
            x.tick(240);
            Night.moveTimes(x, 3, 180);
            x.tick(61);
        }
        Check.same("DONE", x.state(0), Night.DONE);
        for (int cycle = 1; cycle <= 12; cycle++) {
            due("of twelve", x, cycle, 500 + 2 * cycle, 540, 240, 0);
        }
        Check.outOfBounds("no thirteenth", () -> x.report(13, 0));
    }
}

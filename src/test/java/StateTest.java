/** Promise 19. */
public final class StateTest {
    public static void main(String[] args) {
        NightCycler x = Night.weighedInFirstFill(Night.RETAINED, 50);
        Night.moveTimes(x, 2, 100);
        Night.weigh(x, 8, 4981);
        x.tick(3);
        due("in FILL", x, Night.FILL, 1, 250, 240, 6, 200, 0, 0, 4);
        x.pause(true);
        due("paused", x, Night.FILL, 1, 250, 240, 6, 200, 0, 1, 4);
        x.door(false);
        due("safe", x, Night.FILL, 1, 250, 240, 6, 200, 1, 1, 4);
        x.end();
        due("in END", x, Night.END, 1, 250, 240, 0, 0, 1, 0, 5);
        x.door(true);
        x.lift(1);
        x.tick(1);
        x.stroke(0, 150);
        due("drained", x, Night.END, 1, 100, 240, 1, 150, 0, 0, 6);
        noSuchWhat(x);
        x.cut(6);
        due("without power", x, Night.IDLE, 0, 0, Night.UNKNOWN, 0, 0, 0, 0, 6);
        noSuchWhat(x);
        safeByEach();
        Check.finish();
    }

    private static void due(String where, NightCycler x, int... values) {
        for (int what = 0; what < values.length; what++) {
            Check.same(where + ": state(" + what + ")", x.state(what), values[what]);
        }
    }

    private static void noSuchWhat(NightCycler x) {
        Check.badArgument("-1", () -> x.state(-1));
        Check.badArgument("9", () -> x.state(9));
        Check.badArgument("far below", () -> x.state(Integer.MIN_VALUE));
        Check.badArgument("far above", () -> x.state(Integer.MAX_VALUE));
    }

    private static void safeByEach() {
        NightCycler air = new NightCycler();
        air.air(true);
        Check.same("air", air.state(6), 1);
        air.air(false);
        Check.same("till it is lifted", air.state(6), 1);
        air.lift(0);
        Check.same("lifted", air.state(6), 0);
        NightCycler door = new NightCycler();
        door.door(false);
        Check.same("door", door.state(6), 1);
        NightCycler books = Night.weighedInFirstFill();
        Night.weigh(books, 8, 4000);
        Check.same("books", books.state(6), 1);
        NightCycler heat = new NightCycler();
        heat.heat(0, 9000);
        Check.same("heat is not", heat.state(6), 0);
        NightCycler line = new NightCycler();
        line.line(true);
        Check.same("line is not", line.state(6), 0);
    }
}

/** Promise 2. */
public final class PrescribeTest {
    private static final int[] LOWEST = {1, 500, 1, 0, 50, 1000, 1, 3000, 0};
    private static final int[] HIGHEST = {12, 30000, 240, 30000, 100, 40000, 900, 3900, 20000};

    public static void main(String[] args) {
        ranges();
        noSuchField();
        aRefusedValueChangesNothing();
        onlyBetweenTherapies();
        Check.finish();
    }

    private static void ranges() {
        NightCycler x = new NightCycler();
        for (int field = 0; field < 9; field++) {
            int f = field;
            x.prescribe(f, LOWEST[f]);
            x.prescribe(f, HIGHEST[f]);
            x.prescribe(f, (LOWEST[f] + HIGHEST[f]) / 2);
            Check.badArgument("field " + f + " below", () -> x.prescribe(f, LOWEST[f] - 1));
            Check.badArgument("field " + f + " above", () -> x.prescribe(f, HIGHEST[f] + 1));
            Check.badArgument("field " + f + " far below", () -> x.prescribe(f, Integer.MIN_VALUE));
            Check.badArgument("field " + f + " far above", () -> x.prescribe(f, Integer.MAX_VALUE));
        }
    }

    private static void noSuchField() {
        NightCycler x = new NightCycler();
        Check.badArgument("field -1", () -> x.prescribe(-1, 1));
        Check.badArgument("field 9", () -> x.prescribe(9, 1));
        Check.badArgument("field far below", () -> x.prescribe(Integer.MIN_VALUE, 1));
        Check.badArgument("field far above", () -> x.prescribe(Integer.MAX_VALUE, 1));
    }

    private static void aRefusedValueChangesNothing() {
        NightCycler x = Night.prescribed(Night.RETAINED, 700);
        Check.badArgument("RETAINED above", () -> x.prescribe(Night.RETAINED, 20001));
        x.start();
        Check.same("A", x.state(2), 700);
    }

    private static void onlyBetweenTherapies() {
        NightCycler x = Night.started();
        Check.badState("in DRAIN", () -> x.prescribe(0, 1));
        Check.badState("the state is looked at first", () -> x.prescribe(9, 1));
        x.tick(61);
        Check.badState("in FILL", () -> x.prescribe(0, 1));
        x.end();
        Check.badState("in END", () -> x.prescribe(0, 1));
        x.tick(61);
        Check.same("DONE", x.state(0), Night.DONE);
        x.prescribe(Night.RETAINED, 300);
        Check.badArgument("a wrong value when DONE", () -> x.prescribe(0, 0));
        x.start();
        Check.same("what was prescribed when DONE counts", x.state(2), 300);

        NightCycler off = new NightCycler();
        off.cut(6);
        Check.badState("without power", () -> off.prescribe(0, 1));
        Check.badState("without power, wrong field", () -> off.prescribe(9, 1));
        off.power(0);
        off.prescribe(0, 1);
    }
}

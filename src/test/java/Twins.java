import java.util.ArrayList;
import java.util.List;

/**
 * Tells whether a call changed nothing: two objects are brought to the same place, the call is made
 * on one of them, and both are asked for all that can be asked, at once and along runs of calls that
 * would show what is kept inside.
 */
final class Twins {
    interface Way {
        NightCycler go();
    }

    interface Call {
        Object on(NightCycler x);
    }

    private static final int FUTURES = 4;

    private Twins() {
    }

    /** The call answers as due (or throws a class of that name), and nothing is changed by it. */
    static void unchanged(String what, Way way, Object due, Call call) {
        for (int future = 0; future < FUTURES; future++) {
            NightCycler touched = way.go();
            Object got = answer(touched, call);
            Check.yes(what + " answered " + got + ", due is " + due, due == null || due.equals(got));
            List<Object> changed = asked(touched);
            NightCycler untouched = way.go();
            Check.yes(what + " changed what can be asked", changed.equals(asked(untouched)));
            Check.yes(what + " changed what comes, " + future,
                toldBy(future, touched).equals(toldBy(future, untouched)));
        }
    }

    static Object answer(NightCycler x, Call call) {
        try {
            return call.on(x);
        } catch (RuntimeException e) {
            return e.getClass().getSimpleName();
        }
    }

    private static List<Object> asked(NightCycler x) {
        List<Object> told = new ArrayList<>();
        ask(x, told);
        for (int cycle = -1; cycle < 4; cycle++) {
            askReport(x, cycle, told);
        }
        return told;
    }

    private static void ask(NightCycler x, List<Object> told) {
        for (int what = 0; what < 9; what++) {
            told.add(x.state(what));
        }
        for (int i = 0; i < 5; i++) {
            told.add(x.alarm(i));
        }
        told.add(x.muted());
    }

    private static void askReport(NightCycler x, int cycle, List<Object> told) {
        for (int field = 0; field < 4; field++) {
            int f = field;
            told.add(answer(x, y -> y.report(cycle, f)));
        }
    }

    private static List<Object> toldBy(int future, NightCycler x) {
        List<Object> told = new ArrayList<>();
        if (future == 0) {
            movesOn(x, told);
        } else if (future == 1) {
            weighs(x, told);
        } else if (future == 2) {
            losesPower(x, told);
        } else {
            livesAnotherNight(x, told);
        }
        return told;
    }

    private static void strokes(NightCycler x, List<Object> told, int volume) {
        told.add(x.stroke(0, volume));
        told.add(x.stroke(1, volume));
    }

    private static void ticks(NightCycler x, List<Object> told, int n) {
        told.add(answer(x, y -> y.tick(n)));
    }

    private static void lifts(NightCycler x, List<Object> told) {
        for (int alarm = 0; alarm < 5; alarm++) {
            told.add(x.lift(alarm));
        }
    }

    /** What was ordered, accepted and had flowed, whose turn it is, and how the phase goes on. */
    private static void movesOn(NightCycler x, List<Object> told) {
        strokes(x, told, 7);
        x.air(false);
        x.door(true);
        lifts(x, told);
        for (int i = 0; i < 4; i++) {
            ticks(x, told, 1);
            strokes(x, told, 30);
        }
        ticks(x, told, 40);
        for (int i = 0; i < 90; i++) {
            ticks(x, told, 1);
            told.add(x.state(0));
        }
        ask(x, told);
        askReport(x, x.state(1), told);
    }

    /** The weights that are kept, the sensors, causes and how long alarms are mute. */
    private static void weighs(NightCycler x, List<Object> told) {
        for (int i = 0; i < 9; i++) {
            told.add(x.scale(5000 + 37 * i * i % 11));
            ask(x, told);
        }
        told.add(x.heat(0, 3651));
        told.add(x.alarm(0));
        ticks(x, told, 1);
        told.add(x.heat(0, 3700));
        told.add(x.heat(1, 3651));
        ticks(x, told, 1);
        ask(x, told);
        lifts(x, told);
        told.add(x.mute());
        ticks(x, told, 5);
        ask(x, told);
    }

    /** Both pages, and what is left when power comes. */
    private static void losesPower(NightCycler x, List<Object> told) {
        int[] words = {6, 5, 6, 6};
        int[] minutes = {0, 120, 121, 0};
        for (int i = 0; i < words.length; i++) {
            int n = words[i];
            int m = minutes[i];
            told.add(answer(x, y -> {
                y.cut(n);
                return "";
            }));
            ask(x, told);
            told.add(answer(x, y -> y.power(m)));
            ask(x, told);
            askReport(x, x.state(1), told);
            askReport(x, x.state(1) + 1, told);
        }
        ticks(x, told, 1);
        strokes(x, told, 9);
        told.add(x.state(8));
    }

    /** The prescription, by a therapy of its own. */
    private static void livesAnotherNight(NightCycler x, List<Object> told) {
        told.add(answer(x, y -> y.power(121)));
        x.air(false);
        x.door(true);
        x.line(false);
        x.heat(0, 3651);
        x.heat(1, 3651);
        lifts(x, told);
        answer(x, y -> {
            y.end();
            return "";
        });
        ticks(x, told, 130);
        told.add(answer(x, y -> {
            y.start();
            return "started";
        }));
        for (int i = 0; i < 45; i++) {
            ticks(x, told, 1);
            strokes(x, told, 190);
            if (x.state(0) == Night.DWELL) {
                ticks(x, told, 239);
            } else if (x.state(0) == Night.DRAIN && x.state(2) <= 0) {
                ticks(x, told, 60);
            }
            told.add(x.state(0));
        }
        ask(x, told);
    }
}

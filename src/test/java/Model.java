import java.util.ArrayList;
import java.util.Collections;
import java.util.List;
import java.util.TreeSet;

/**
 * The document's terms, reckoned anew from whole lists at each call, to be compared with the
 * program: slow, but without rings, sums or flags that could go astray.
 */
final class Model {
    int[] rx = {3, 2000, 1, 0, 80, 5000, 60, 3700, 0};
    int[][] pages = new int[2][];
    int number = 0;
    List<int[]> reports = new ArrayList<>();

    boolean on = true;
    boolean paused;
    int phase;
    int cycle;
    int a;
    List<Integer> strokes = new ArrayList<>();
    int movedBefore;
    int ticks;
    List<Integer> tookBehindTick = new ArrayList<>();
    int tries;
    int accepted;
    List<Integer> weights = new ArrayList<>();
    Integer base;
    int[] heat = {3700, 3700};
    boolean air;
    boolean open;
    boolean blocked;
    TreeSet<Integer> alarms = new TreeSet<>();
    int mute;
    int orders;
    boolean struck;

    int filtered() {
        List<Integer> eight = new ArrayList<>(weights.subList(weights.size() - 8, weights.size()));
        Collections.sort(eight);
        return Math.floorDiv(eight.get(2) + eight.get(3) + eight.get(4) + eight.get(5), 4);
    }

    boolean known() {
        return base != null;
    }

    int b() {
        return rx[8] + 10 * (base - filtered());
    }

    int moved() {
        int sum = movedBefore;
        for (int volume : strokes) {
            sum += volume;
        }
        return sum;
    }

    boolean drains() {
        return phase == 1 || phase == 5;
    }

    boolean fills() {
        return phase == 2 || phase == 4;
    }

    int atBegin() {
        return drains() ? a + moved() : a - moved();
    }

    boolean heatCause() {
        return heat[0] < 1500 || heat[0] > 4100 || heat[1] < 1500 || heat[1] > 4100
            || Math.abs(heat[0] - heat[1]) > 150;
    }

    boolean cause(int rank) {
        boolean books = known() && Math.abs(a - b()) > 200 + Math.floorDiv(4 * Math.abs(a), 100);
        return new boolean[] {air, open, books, heatCause(), blocked}[rank];
    }

    void look() {
        for (int rank = 4; rank >= 0; rank--) {
            if (cause(rank) && !alarms.contains(rank)) {
                if (alarms.isEmpty() || rank < alarms.first()) {
                    mute = 0;
                }
                alarms.add(rank);
            }
        }
    }

    boolean safe() {
        return alarms.contains(0) || alarms.contains(1) || alarms.contains(2);
    }

    void page() {
        number++;
        pages[number % 2] = new int[] {phase, cycle, a, moved(), ticks, number};
    }

    void begin(int next) {
        phase = next;
        strokes.clear();
        movedBefore = 0;
        ticks = 0;
        tookBehindTick.clear();
        tries = 0;
        accepted = 0;
        page();
    }

    boolean vetoed() {
        return a + 200 > rx[5] || known() && b() + 200 > rx[5];
    }

    boolean over() {
        if (fills()) {
            int wanted = Math.max(0, Math.min(phase == 2 ? rx[1] : rx[3], rx[5] - atBegin()));
            return moved() >= wanted || vetoed();
        }
        if (phase == 3) {
            return ticks >= 240 * rx[2];
        }
        int had = tookBehindTick.size();
        if (had < 60) {
            return false;
        }
        int flow = 0;
        for (int volume : tookBehindTick.subList(had - 60, had)) {
            flow += volume;
        }
        if (flow >= 100) {
            return false;
        }
        boolean little = atBegin() < 100;
        boolean enough = moved() * 100 >= rx[4] * atBegin();
        if (!enough && !little && tries == 0) {
            tries++;
            tookBehindTick.clear();
            return false;
        }
        if (!enough && !little) {
            reports.get(cycle)[3] = 1;
        }
        return true;
    }

    int next() {
        if (phase == 2 || phase == 3) {
            return phase == 2 ? 3 : 1;
        }
        if (phase == 1 && cycle < rx[0]) {
            return 2;
        }
        return phase == 1 && rx[3] > 0 ? 4 : 6;
    }

    void oneTick() {
        mute = Math.max(0, mute - 1);
        look();
        struck = false;
        boolean heated = (orders & 256) != 0;
        orders = 0;
        if (safe() || paused || phase == 0 || phase == 6) {
            return;
        }
        if (over()) {
            int next = next();
            if (next == 2) {
                cycle++;
                reports.add(new int[4]);
            }
            begin(next);
        }
        if (!blocked && (drains() || fills() && !vetoed())) {
            orders = (drains() ? 12 : 3) + (accepted % 2 == 0 ? 64 : 128);
        }
        int low = Math.min(heat[0], heat[1]);
        if (!heatCause() && (low < rx[7] - 50 || low <= rx[7] && heated)) {
            orders += 256;
        }
        ticks++;
        if (drains()) {
            tookBehindTick.add(0);
        }
        if (phase == 3) {
            reports.get(cycle)[2]++;
        }
    }

    boolean stroke(int chamber, int volume) {
        boolean moves = chamber == 0 && (orders & 64) != 0 || chamber == 1 && (orders & 128) != 0;
        if (!moves || struck || volume < 0 || volume > 200) {
            return false;
        }
        struck = true;
        accepted++;
        strokes.add(volume);
        if (fills()) {
            a += volume;
            reports.get(cycle)[0] += volume;
        } else {
            a -= volume;
            reports.get(cycle)[1] += volume;
            tookBehindTick.set(tookBehindTick.size() - 1, volume);
        }
        page();
        look();
        return true;
    }

    /** 1 for IllegalStateException, 2 for UnsupportedOperationException. */
    int start() {
        if (!on || phase != 0 && phase != 6) {
            return 1;
        }
        boolean sound = rx[1] <= rx[5] && rx[3] <= rx[5] && rx[8] <= rx[5] && rx[0] * rx[2] <= rx[6];
        if (!sound || !alarms.isEmpty()) {
            return 2;
        }
        reports.clear();
        reports.add(new int[4]);
        cycle = 0;
        a = rx[8];
        base = weights.size() < 8 ? null : Integer.valueOf(filtered());
        begin(1);
        return 0;
    }

    void end() {
        paused = false;
        orders = 0;
        begin(5);
    }

    /** A machine without power, with what a cut leaves. */
    Model cut(int words) {
        Model left = new Model();
        left.rx = rx;
        left.pages = pages;
        left.number = number;
        left.reports = reports;
        left.on = false;
        if (words < 6) {
            pages[number % 2] = null;
        }
        return left;
    }

    int power(int minutes) {
        on = true;
        int[] page = pages[0];
        if (page == null || pages[1] != null && pages[1][5] > page[5]) {
            page = pages[1];
        }
        if (page == null || page[0] == 6) {
            return 0;
        }
        cycle = page[1];
        a = page[2];
        while (reports.size() > cycle + 1) {
            reports.remove(reports.size() - 1);
        }
        if (minutes > 120) {
            begin(5);
        } else {
            phase = page[0];
            movedBefore = page[3];
            ticks = page[4];
        }
        return phase;
    }

    int state(int what) {
        int[] all = {phase, cycle, a, known() ? b() : -1000000, ticks, moved(), safe() ? 1 : 0, paused ? 1 : 0,
            number};
        return all[what];
    }
}

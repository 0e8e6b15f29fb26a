/**
 * A machine that fills, waits and drains by night. Volumes are tenths of a millilitre,
 * a tick is a quarter of a second, temperatures are hundredths of a degree.
 */
public final class NightCycler {
    private static final int IDLE = 0;
    private static final int DRAIN = 1;
    private static final int FILL = 2;
    private static final int DWELL = 3;
    private static final int LAST = 4;
    private static final int END = 5;
    private static final int DONE = 6;

    private static final int TICKS_OF_A_MINUTE = 240;
    private static final int MOST_TICKS = 5000;
    private static final int MOST_OF_A_STROKE = 200;
    private static final int NEXT_TO_NOTHING = 100;
    private static final int LONGEST_RESUMED_OUTAGE = 120;
    private static final int UNKNOWN = -1000000;

    private static final int VALVES_OF_FILL = 3;
    private static final int VALVES_OF_DRAIN = 12;
    private static final int PUMP_SHIFT = 6;
    private static final int PUMP_MASK = 3;
    private static final int HEATER = 256;
    private static final int HEATER_BAND = 50;

    private final Prescription prescription = new Prescription();
    private final Balance balance = new Balance();
    private final Senses senses = new Senses();
    private final Alarms alarms = new Alarms();
    private final Flow flow = new Flow();
    private final Pages pages = new Pages();
    private final Reports reports = new Reports();

    private boolean powered = true;
    private boolean paused;
    private int phase;
    private int cycle;
    private int bookA;
    private int bookAAtBegin;
    private int moved;
    private int ticks;
    private int turn;
    private int orders;
    private boolean strokeTaken;

    public NightCycler() {
    }

    public void prescribe(int field, int value) throws IllegalStateException, IllegalArgumentException {
        if (!isBetweenTherapies()) {
            throw new IllegalStateException();
        }
        if (!prescription.allows(field, value)) {
            throw new IllegalArgumentException();
        }
        prescription.put(field, value);
    }

    public void start() throws IllegalStateException, UnsupportedOperationException {
        if (!isBetweenTherapies()) {
            throw new IllegalStateException();
        }
        if (!prescription.isSound() || alarms.isAnyStanding()) {
            throw new UnsupportedOperationException();
        }
        reports.open(0);
        cycle = 0;
        bookA = prescription.of(Prescription.RETAINED);
        balance.takeBase();
        begin(DRAIN);
    }

    public void pause(boolean on) throws IllegalStateException {
        if (!isInTherapy()) {
            throw new IllegalStateException();
        }
        paused = on;
    }

    public void end() throws IllegalStateException {
        if (!isInTherapy() || phase == END) {
            throw new IllegalStateException();
        }
        paused = false;
        orders = 0;
        begin(END);
    }

    public int tick(int n) throws IllegalStateException, IllegalArgumentException {
        if (!powered) {
            throw new IllegalStateException();
        }
        if (n < 1 || n > MOST_TICKS) {
            throw new IllegalArgumentException();
        }
        for (int i = 0; i < n; i++) {
            passOneTick();
        }
        return orders;
    }

    public boolean stroke(int chamber, int volume) {
        if (strokeTaken || !isMoving(chamber) || volume < 0 || volume > MOST_OF_A_STROKE) {
            return false;
        }
        strokeTaken = true;
        turn = 1 - turn;
        enterInBookA(volume);
        writePage();
        lookAtCauses();
        return true;
    }

    public boolean scale(int grams) {
        if (!powered || grams < 0 || grams > Balance.GREATEST) {
            return false;
        }
        balance.weigh(grams);
        lookAtCauses();
        return true;
    }

    public boolean heat(int sensor, int value) {
        if (!powered || !senses.couldRead(sensor, value)) {
            return false;
        }
        senses.read(sensor, value);
        lookAtCauses();
        return true;
    }

    public void air(boolean seen) {
        if (powered) {
            senses.airSeen = seen;
            lookAtCauses();
        }
    }

    public void door(boolean shut) {
        if (powered) {
            senses.doorOpen = !shut;
            lookAtCauses();
        }
    }

    public void line(boolean blocked) {
        if (powered) {
            senses.lineBlocked = blocked;
            lookAtCauses();
        }
    }

    public boolean lift(int alarm) {
        if (!alarms.isStanding(alarm) || isThere(alarm)) {
            return false;
        }
        alarms.drop(alarm);
        return true;
    }

    public int alarm(int i) {
        return alarms.byRank(i);
    }

    public boolean mute() {
        return alarms.silence();
    }

    public int muted() {
        return alarms.silentTicks;
    }

    public void cut(int words) throws IllegalStateException, IllegalArgumentException {
        if (!powered) {
            throw new IllegalStateException();
        }
        if (words < 0 || words > Pages.WORDS) {
            throw new IllegalArgumentException();
        }
        pages.keepOfLatest(words);
        forgetAllButTheLasting();
        powered = false;
    }

    public int power(int minutes) throws IllegalStateException, IllegalArgumentException {
        if (powered) {
            throw new IllegalStateException();
        }
        if (minutes < 0) {
            throw new IllegalArgumentException();
        }
        powered = true;
        int[] page = pages.thatCounts();
        if (page != null && page[Pages.PHASE] != DONE) {
            takeUp(page, minutes);
        }
        return phase;
    }

    public int state(int what) throws IllegalArgumentException {
        switch (what) {
            case 0:
                return phase;
            case 1:
                return cycle;
            case 2:
                return bookA;
            case 3:
                return balance.isKnown() ? bookB() : UNKNOWN;
            case 4:
                return ticks;
            case 5:
                return moved;
            case 6:
                return alarms.isSafeAsked() ? 1 : 0;
            case 7:
                return paused ? 1 : 0;
            case 8:
                return pages.number;
            default:
                throw new IllegalArgumentException();
        }
    }

    public int report(int cycle, int field) throws IndexOutOfBoundsException, IllegalArgumentException {
        if (!reports.hasBegun(cycle)) {
            throw new IndexOutOfBoundsException();
        }
        if (field < 0 || field >= Reports.FIELDS) {
            throw new IllegalArgumentException();
        }
        return reports.of(cycle, field);
    }

    private boolean isInTherapy() {
        return phase != IDLE && phase != DONE;
    }

    /** Without power the phase is IDLE too, but nothing may be prescribed or started then. */
    private boolean isBetweenTherapies() {
        return powered && !isInTherapy();
    }

    private boolean isFilling() {
        return phase == FILL || phase == LAST;
    }

    private boolean isDraining() {
        return phase == DRAIN || phase == END;
    }

    private int bookB() {
        return prescription.of(Prescription.RETAINED) + balance.givenSinceBase();
    }

    private boolean doBooksAgree() {
        if (!balance.isKnown()) {
            return true;
        }
        return Math.abs(bookA - bookB()) <= 200 + 4 * Math.abs(bookA) / 100;
    }

    private boolean isThere(int cause) {
        switch (cause) {
            case Alarms.AIR:
                return senses.airSeen;
            case Alarms.DOOR:
                return senses.doorOpen;
            case Alarms.BOOKS:
                return !doBooksAgree();
            case Alarms.HEAT:
                return senses.isHeatWrong();
            case Alarms.LINE:
                return senses.lineBlocked;
            default:
                return false;
        }
    }

    private void lookAtCauses() {
        for (int cause = 0; cause < Alarms.COUNT; cause++) {
            if (isThere(cause)) {
                alarms.raise(cause);
            }
        }
    }

    private void passOneTick() {
        alarms.runDown();
        lookAtCauses();
        strokeTaken = false;
        if (alarms.isSafeAsked() || paused || !isInTherapy()) {
            orders = 0;
            return;
        }
        if (isOver()) {
            beginNext();
        }
        orders = ordersNow();
        countTick();
    }

    private boolean isOver() {
        if (isDraining()) {
            return flow.hasDriedUp() && judgeDrain();
        }
        return phase == DWELL ? isDwellOver() : isFillOver();
    }

    private boolean isDwellOver() {
        return ticks >= prescription.of(Prescription.DWELL) * TICKS_OF_A_MINUTE;
    }

    private boolean isFillOver() {
        return moved >= wanted() || isVetoed();
    }

    private int wanted() {
        int prescribed = prescription.of(phase == FILL ? Prescription.FILL : Prescription.LAST);
        int room = prescription.of(Prescription.CEILING) - bookAAtBegin;
        return Math.max(0, Math.min(prescribed, room));
    }

    private boolean isVetoed() {
        int highest = prescription.of(Prescription.CEILING) - MOST_OF_A_STROKE;
        return bookA > highest || (balance.isKnown() && bookB() > highest);
    }

    /** Whether the drain is over: one that took too little is tried again once before it is called poor. */
    private boolean judgeDrain() {
        if (hasDrainedEnough()) {
            return true;
        }
        if (!flow.triedAgain) {
            flow.tryAgain();
            return false;
        }
        reports.markPoor(cycle);
        return true;
    }

    private boolean hasDrainedEnough() {
        return bookAAtBegin < NEXT_TO_NOTHING
            || 100L * moved >= (long) prescription.of(Prescription.LEAST) * bookAAtBegin;
    }

    private void beginNext() {
        int next = nextPhase();
        if (next == FILL) {
            cycle++;
            reports.open(cycle);
        }
        begin(next);
    }

    private int nextPhase() {
        switch (phase) {
            case FILL:
                return DWELL;
            case DWELL:
                return DRAIN;
            case DRAIN:
                return phaseBehindDrain();
            default:
                return DONE;
        }
    }

    /**
     * CYCLES may have been prescribed anew when DONE, before a cut that led back into the old
     * therapy, so the cycle can be beyond it.
     */
    private int phaseBehindDrain() {
        if (cycle < prescription.of(Prescription.CYCLES)) {
            return FILL;
        }
        return prescription.of(Prescription.LAST) > 0 ? LAST : DONE;
    }

    private void begin(int next) {
        phase = next;
        moved = 0;
        ticks = 0;
        bookAAtBegin = bookA;
        turn = 0;
        flow.forget();
        writePage();
    }

    private void writePage() {
        pages.write(phase, cycle, bookA, moved, ticks);
    }

    private int ordersNow() {
        int given = isHeaterWanted() ? HEATER : 0;
        if (senses.lineBlocked) {
            return given;
        }
        if (isDraining()) {
            given |= VALVES_OF_DRAIN | pumpBits();
        } else if (isFilling() && !isVetoed()) {
            given |= VALVES_OF_FILL | pumpBits();
        }
        return given;
    }

    private int pumpBits() {
        return (turn + 1) << PUMP_SHIFT;
    }

    /** The band between the two limits keeps the heater from switching at every tick. */
    private boolean isHeaterWanted() {
        if (senses.isHeatWrong()) {
            return false;
        }
        int target = prescription.of(Prescription.TARGET);
        int lower = senses.lowerHeat();
        boolean wasOn = (orders & HEATER) != 0;
        return lower < target - HEATER_BAND || (lower <= target && wasOn);
    }

    private void countTick() {
        ticks++;
        if (isDraining()) {
            flow.passTick();
        } else if (phase == DWELL) {
            reports.add(cycle, Reports.DWELT, 1);
        }
    }

    private boolean isMoving(int chamber) {
        int pump = (orders >> PUMP_SHIFT) & PUMP_MASK;
        return (chamber == 0 && pump == 1) || (chamber == 1 && pump == 2);
    }

    private void enterInBookA(int volume) {
        moved += volume;
        if (isFilling()) {
            bookA += volume;
            reports.add(cycle, Reports.FILLED, volume);
        } else {
            bookA -= volume;
            flow.take(volume);
            reports.add(cycle, Reports.DRAINED, volume);
        }
    }

    private void forgetAllButTheLasting() {
        balance.forget();
        senses.forget();
        alarms.forget();
        flow.forget();
        paused = false;
        phase = IDLE;
        cycle = 0;
        bookA = 0;
        bookAAtBegin = 0;
        moved = 0;
        ticks = 0;
        turn = 0;
        orders = 0;
        strokeTaken = false;
    }

    /** What the page does not hold (the flow, whose turn it is) is still as the cut left it: as at first. */
    private void takeUp(int[] page, int minutes) {
        cycle = page[Pages.CYCLE];
        bookA = page[Pages.BOOK_A];
        reports.forgetBehind(cycle);
        if (minutes > LONGEST_RESUMED_OUTAGE) {
            begin(END);
            return;
        }
        phase = page[Pages.PHASE];
        moved = page[Pages.MOVED];
        ticks = page[Pages.TICKS];
        bookAAtBegin = isDraining() ? bookA + moved : bookA - moved;
    }

    /** The prescription: fields that are each within a range, with rules across them. */
    private static final class Prescription {
        static final int CYCLES = 0;
        static final int FILL = 1;
        static final int DWELL = 2;
        static final int LAST = 3;
        static final int LEAST = 4;
        static final int CEILING = 5;
        static final int NIGHT = 6;
        static final int TARGET = 7;
        static final int RETAINED = 8;

        private static final int COUNT = 9;
        private static final int[] LOWEST = {1, 500, 1, 0, 50, 1000, 1, 3000, 0};
        private static final int[] HIGHEST = {12, 30000, 240, 30000, 100, 40000, 900, 3900, 20000};

        private final int[] values = {3, 2000, 1, 0, 80, 5000, 60, 3700, 0};

        boolean allows(int field, int value) {
            return field >= 0 && field < COUNT && value >= LOWEST[field] && value <= HIGHEST[field];
        }

        void put(int field, int value) {
            values[field] = value;
        }

        int of(int field) {
            return values[field];
        }

        boolean isSound() {
            int ceiling = values[CEILING];
            return values[FILL] <= ceiling && values[LAST] <= ceiling && values[RETAINED] <= ceiling
                && values[CYCLES] * values[DWELL] <= values[NIGHT];
        }
    }

    /** The scale: its last weights, what they come to when filtered, and the base of a therapy. */
    private static final class Balance {
        static final int GREATEST = 100000;

        private static final int KEPT = 8;
        private static final int LEFT_OUT = 2;
        private static final int VOLUME_OF_A_GRAM = 10;

        private final int[] weights = new int[KEPT];
        private final int[] sorted = new int[KEPT];
        private int count;
        private int next;
        private int filtered;
        private int base;
        private boolean based;

        void weigh(int grams) {
            weights[next] = grams;
            next = (next + 1) % KEPT;
            if (count < KEPT) {
                count++;
            }
            if (count == KEPT) {
                filtered = filter();
            }
        }

        void takeBase() {
            based = count == KEPT;
            base = filtered;
        }

        /** A base needs eight weights and is lost with them, so it alone tells. */
        boolean isKnown() {
            return based;
        }

        int givenSinceBase() {
            return VOLUME_OF_A_GRAM * (base - filtered);
        }

        void forget() {
            count = 0;
            next = 0;
            filtered = 0;
            base = 0;
            based = false;
        }

        private int filter() {
            sortWeights();
            int sum = 0;
            for (int i = LEFT_OUT; i < KEPT - LEFT_OUT; i++) {
                sum += sorted[i];
            }
            return sum / (KEPT - 2 * LEFT_OUT);
        }

        private void sortWeights() {
            for (int i = 0; i < KEPT; i++) {
                int weight = weights[i];
                int at = i;
                while (at > 0 && sorted[at - 1] > weight) {
                    sorted[at] = sorted[at - 1];
                    at--;
                }
                sorted[at] = weight;
            }
        }
    }

    /** What was told last of air, door, line and the two sensors of heat. */
    private static final class Senses {
        private static final int HEAT_AT_FIRST = 3700;
        private static final int LOWEST_READ = -5000;
        private static final int HIGHEST_READ = 10000;
        private static final int COLDEST = 1500;
        private static final int HOTTEST = 4100;
        private static final int WIDEST = 150;

        private boolean airSeen;
        private boolean doorOpen;
        private boolean lineBlocked;
        private int heat0 = HEAT_AT_FIRST;
        private int heat1 = HEAT_AT_FIRST;

        boolean couldRead(int sensor, int value) {
            return (sensor == 0 || sensor == 1) && value >= LOWEST_READ && value <= HIGHEST_READ;
        }

        void read(int sensor, int value) {
            if (sensor == 0) {
                heat0 = value;
            } else {
                heat1 = value;
            }
        }

        int lowerHeat() {
            return Math.min(heat0, heat1);
        }

        boolean isHeatWrong() {
            int higher = Math.max(heat0, heat1);
            return lowerHeat() < COLDEST || higher > HOTTEST || higher - lowerHeat() > WIDEST;
        }

        void forget() {
            airSeen = false;
            doorOpen = false;
            lineBlocked = false;
            heat0 = HEAT_AT_FIRST;
            heat1 = HEAT_AT_FIRST;
        }
    }

    /** The alarms that stand, by rank (0 is the highest), and for how long they are mute. */
    private static final class Alarms {
        static final int AIR = 0;
        static final int DOOR = 1;
        static final int BOOKS = 2;
        static final int HEAT = 3;
        static final int LINE = 4;
        static final int COUNT = 5;

        private static final int MUTE_TICKS = 480;

        private final boolean[] standing = new boolean[COUNT];
        private int silentTicks;

        boolean isStanding(int alarm) {
            return alarm >= 0 && alarm < COUNT && standing[alarm];
        }

        /** The rank of the highest alarm that stands; COUNT, below all ranks, if none does. */
        int highest() {
            int rank = 0;
            while (rank < COUNT && !standing[rank]) {
                rank++;
            }
            return rank;
        }

        boolean isAnyStanding() {
            return highest() < COUNT;
        }

        boolean isSafeAsked() {
            return highest() <= BOOKS;
        }

        int byRank(int i) {
            int before = 0;
            for (int rank = 0; rank < COUNT; rank++) {
                if (standing[rank]) {
                    if (before == i) {
                        return rank;
                    }
                    before++;
                }
            }
            return -1;
        }

        void raise(int alarm) {
            if (alarm < highest()) {
                silentTicks = 0;
            }
            standing[alarm] = true;
        }

        void drop(int alarm) {
            standing[alarm] = false;
        }

        boolean silence() {
            if (!isAnyStanding()) {
                return false;
            }
            silentTicks = MUTE_TICKS;
            return true;
        }

        void runDown() {
            if (silentTicks > 0) {
                silentTicks--;
            }
        }

        void forget() {
            silentTicks = 0;
            for (int rank = 0; rank < COUNT; rank++) {
                standing[rank] = false;
            }
        }
    }

    /** What strokes took behind each of the latest ticks of a drain. */
    private static final class Flow {
        private static final int WINDOW = 60;

        private final int[] taken = new int[WINDOW];
        private int count;
        private int latest;
        private int sum;
        private boolean triedAgain;

        void passTick() {
            latest = (latest + 1) % WINDOW;
            sum -= taken[latest];
            taken[latest] = 0;
            if (count < WINDOW) {
                count++;
            }
        }

        void take(int volume) {
            taken[latest] += volume;
            sum += volume;
        }

        boolean hasDriedUp() {
            return count == WINDOW && sum < NEXT_TO_NOTHING;
        }

        void tryAgain() {
            forget();
            triedAgain = true;
        }

        void forget() {
            for (int i = 0; i < WINDOW; i++) {
                taken[i] = 0;
            }
            count = 0;
            latest = 0;
            sum = 0;
            triedAgain = false;
        }
    }

    /** The record of two pages. Its number goes on over cuts, also when the page written latest is lost. */
    private static final class Pages {
        static final int PHASE = 0;
        static final int CYCLE = 1;
        static final int BOOK_A = 2;
        static final int MOVED = 3;
        static final int TICKS = 4;
        static final int WORDS = 6;

        private static final int NUMBER = 5;

        private final int[] even = new int[WORDS];
        private final int[] odd = new int[WORDS];
        private int number;

        void write(int phase, int cycle, int bookA, int moved, int ticks) {
            number++;
            int[] page = writtenLatest();
            page[PHASE] = phase;
            page[CYCLE] = cycle;
            page[BOOK_A] = bookA;
            page[MOVED] = moved;
            page[TICKS] = ticks;
            page[NUMBER] = number;
        }

        /** The number is the last word, so a page that lost any word has none and does not count. */
        void keepOfLatest(int words) {
            int[] page = writtenLatest();
            for (int i = words; i < WORDS; i++) {
                page[i] = 0;
            }
        }

        int[] thatCounts() {
            int[] page = even[NUMBER] > odd[NUMBER] ? even : odd;
            return page[NUMBER] == 0 ? null : page;
        }

        private int[] writtenLatest() {
            return number % 2 == 0 ? even : odd;
        }
    }

    /** What is told of each cycle that has begun. */
    private static final class Reports {
        static final int FILLED = 0;
        static final int DRAINED = 1;
        static final int DWELT = 2;
        static final int POOR = 3;
        static final int FIELDS = 4;

        private static final int ROWS = 13;

        private final int[] entries = new int[ROWS * FIELDS];
        private int begun;

        /** Cycles begin in order, so none behind this one has begun. */
        void open(int cycle) {
            for (int field = 0; field < FIELDS; field++) {
                entries[cycle * FIELDS + field] = 0;
            }
            begun = cycle + 1;
        }

        boolean hasBegun(int cycle) {
            return cycle >= 0 && cycle < begun;
        }

        int of(int cycle, int field) {
            return entries[cycle * FIELDS + field];
        }

        void add(int cycle, int field, int more) {
            entries[cycle * FIELDS + field] += more;
        }

        void markPoor(int cycle) {
            entries[cycle * FIELDS + POOR] = 1;
        }

        void forgetBehind(int cycle) {
            begun = Math.min(begun, cycle + 1);
        }
    }
}

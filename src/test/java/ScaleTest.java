/** Promise 8, book B and whether the books agree. */
public final class ScaleTest {
    public static void main(String[] args) {
        refused();
        filtered();
        theLastEight();
        booksAgree();
        booksAgreeRounded();
        booksFarFromNothing();
        retainedPrescribedAnewWhenDone();
        booksBelowNothing();
        notKnownBehindACut();
        leastAndGreatestWeight();
        meanRoundedDown();
        sevenWeightsAndEight();
        booksAtTheEdge();
        eachSideOfAWindow();
        Check.finish();
    }

    private static void refused() {
        NightCycler x = new NightCycler();
        Check.no("-1", x.scale(-1));
        Check.no("100001", x.scale(100001));
        Check.no("far below", x.scale(Integer.MIN_VALUE));
        Check.no("far above", x.scale(Integer.MAX_VALUE));
        Check.yes("0", x.scale(0));
        Check.yes("100000", x.scale(100000));
        x.cut(6);
        Check.no("without power", x.scale(100));
        NightCycler y = new NightCycler();
        Night.weigh(y, 7, 5000);
        y.scale(-1);
        y.start();
        Check.same("a refused weight is none", y.state(3), Night.UNKNOWN);
    }

    /** B behind eight equal weights as the base and eight others. */
    private static int bookB(int base, int... weights) {
        NightCycler x = new NightCycler();
        Night.weigh(x, 8, base);
        x.start();
        for (int grams : weights) {
            x.scale(grams);
        }
        return x.state(3);
    }

    private static void filtered() {
        Check.same("two least and two greatest left out",
            bookB(5000, 100000, 4990, 0, 4980, 1, 4970, 99999, 4960), 10 * (5000 - 4975));
        Check.same("rounded down", bookB(5000, 4990, 4990, 4990, 4991, 4991, 4991, 4991, 4991), 100);
        Check.same("rounded down from three quarters", bookB(5000, 4990, 4990, 4990, 4991, 4991, 4991, 4992, 4992),
            100);
        Check.same("falling", bookB(5000, 4998, 4997, 4996, 4995, 4994, 4993, 4992, 4991), 10 * (5000 - 4994));
        Check.same("most", bookB(100000, 0, 0, 0, 0, 0, 0, 0, 0), 1000000);
        Check.same("least", bookB(0, 99999, 99999, 99999, 99999, 99999, 99999, 99999, 99999), -999990);
        NightCycler x = Night.prescribed(Night.RETAINED, 4321);
        for (int grams = 5000; grams < 5008; grams++) {
            x.scale(grams);
        }
        x.start();
        Night.weigh(x, 8, 5003);
        Check.same("the base is filtered, too", x.state(3), 4321);
    }

    private static void theLastEight() {
        Check.same("two new weights are left out", bookB(5000, 4900, 4900), 0);
        Check.same("a third is not", bookB(5000, 4900, 4900, 4900), 250);
        Check.same("a sixth is all", bookB(5000, 4900, 4900, 4900, 4900, 4900, 4900), 1000);
        Check.same("the oldest goes first",
            bookB(5000, 4900, 4900, 4900, 4900, 4900, 4900, 4900, 4900, 4800, 4800, 4800), 1250);
    }

    private static void booksAgree() {
        NightCycler x = Night.weighedInFirstFill();
        Night.weigh(x, 8, 4980);
        Check.same("B", x.state(3), 200);
        Check.same("200 apart with A 0", x.alarm(0), -1);
        Night.weigh(x, 8, 4979);
        Check.same("B", x.state(3), 210);
        Check.same("210 apart", x.alarm(0), 2);
        Check.same("safe", x.state(6), 1);
        Check.no("the cause is there", x.lift(2));
        Night.weigh(x, 8, 5020);
        Check.same("B", x.state(3), -200);
        Check.yes("the cause is gone", x.lift(2));
        Night.weigh(x, 8, 5021);
        Check.same("210 apart the other way", x.alarm(0), 2);
    }

    /** Whether the books agree with so much filled by one stroke and such a B, told by the alarm. */
    private static boolean agree(int filled, int b) {
        NightCycler x = Night.weighedInFirstFill();
        int half = b / 20 * 10;
        Night.weigh(x, 8, 5000 - half / 10);
        x.stroke(0, filled);
        Night.weigh(x, 8, 5000 - b / 10);
        Check.same("A", x.state(2), filled);
        Check.same("B", x.state(3), b);
        return x.alarm(0) == -1;
    }

    private static void booksAgreeRounded() {
        Check.no("192: 207 is the most", agree(192, 400));
        Check.yes("193: 207 is the most", agree(193, 400));
        Check.yes("196: 206 are less than 207", agree(196, -10));
        Check.yes("200: 208 is the most", agree(200, 0));
        Check.no("200: 210 is too much", agree(200, -10));
    }

    private static void booksFarFromNothing() {
        NightCycler x = Night.prescribed(Night.RETAINED, 2500);
        Night.weigh(x, 8, 5000);
        x.start();
        Night.weigh(x, 8, 4970);
        Check.same("B", x.state(3), 2800);
        Check.same("300 apart with A 2500", x.alarm(0), -1);
        x.tick(1);
        x.stroke(0, 1);
        Check.same("301 apart, 299 is the most", x.alarm(0), 2);
    }

    private static void retainedPrescribedAnewWhenDone() {
        NightCycler x = new NightCycler();
        Night.weigh(x, 8, 5000);
        x.start();
        x.end();
        x.tick(61);
        x.prescribe(Night.RETAINED, 201);
        Check.same("B is reckoned with it", x.state(3), 201);
        Check.same("nobody has looked", x.alarm(0), -1);
        x.tick(1);
        Check.same("a tick looks at causes", x.alarm(0), 2);
        x.prescribe(Night.RETAINED, 200);
        Check.yes("the cause is gone", x.lift(2));
        x.prescribe(Night.RETAINED, 2000);
        x.start();
        x.tick(1);
        Check.same("A is RETAINED then, too", x.alarm(0), -1);
    }

    private static void booksBelowNothing() {
        Check.same("A -156: 206 is the most", alarmBehindDrained(156), -1);
        Check.same("A -157: 207 is too much", alarmBehindDrained(157), 2);
    }

    private static int alarmBehindDrained(int volume) {
        NightCycler x = new NightCycler();
        Night.weigh(x, 8, 5000);
        x.start();
        Night.weigh(x, 8, 4995);
        x.tick(1);
        x.stroke(0, volume);
        Check.same("B", x.state(3), 50);
        return x.alarm(0);
    }

    private static void notKnownBehindACut() {
        NightCycler x = Night.weighedInFirstFill();
        x.cut(6);
        Check.same("without power", x.state(3), Night.UNKNOWN);
        x.power(10);
        Night.weigh(x, 8, 9000);
        Check.same("there is no base", x.state(3), Night.UNKNOWN);
        Check.same("so the books agree", x.alarm(0), -1);
        x.end();
        x.tick(61);
        x.start();
        Check.same("the next therapy has one", x.state(3), 0);
        NightCycler y = new NightCycler();
        Night.weigh(y, 8, 5000);
        y.cut(6);
        y.power(0);
        Night.weigh(y, 7, 5000);
        y.start();
        Check.same("weights from before the cut are none", y.state(3), Night.UNKNOWN);
    }

    private static void leastAndGreatestWeight() {
        Check.same("0 grams are a weight", bookB(10, 0, 0, 0, 0, 0, 0, 0, 0), 100);
        Check.same("100000 grams are a weight",
            bookB(99990, 100000, 100000, 100000, 100000, 100000, 100000, 100000, 100000), -100);
        NightCycler x = new NightCycler();
        Night.weigh(x, 8, 5000);
        x.start();
        Night.weigh(x, 8, -1);
        Night.weigh(x, 8, 100001);
        Check.same("neither -1 nor 100001 are", x.state(3), 0);
    }

    /** The four in the middle are 4990 and as much more as told, together. */
    private static int bookBWithMiddleMore(int more) {
        int[] weights = {4980, 4981, 4990, 4990, 4990, 4990 + more, 5200, 5300};
        return bookB(5000, weights);
    }

    private static void meanRoundedDown() {
        Check.same("no rest", bookBWithMiddleMore(0), 100);
        Check.same("a quarter", bookBWithMiddleMore(1), 100);
        Check.same("a half", bookBWithMiddleMore(2), 100);
        Check.same("three quarters", bookBWithMiddleMore(3), 100);
        Check.same("a whole", bookBWithMiddleMore(4), 90);
    }

    private static void sevenWeightsAndEight() {
        for (int before = 0; before <= 9; before++) {
            NightCycler x = Night.prescribed(Night.RETAINED, 50);
            Night.weigh(x, before, 5000);
            Check.same("no therapy has started", x.state(3), Night.UNKNOWN);
            x.start();
            Check.same(before + " weights", x.state(3), before < 8 ? Night.UNKNOWN : 50);
            Night.weigh(x, 9, 5000);
            Check.same("more of them behind the start of " + before, x.state(3), before < 8 ? Night.UNKNOWN : 50);
            x.end();
            x.tick(61);
            Check.same("DONE", x.state(0), Night.DONE);
            x.start();
            Check.same("at the next start all have come", x.state(3), 50);
        }
        for (int behind = 7; behind <= 8; behind++) {
            NightCycler x = new NightCycler();
            Night.weigh(x, 8, 5000);
            x.cut(6);
            Night.weigh(x, 8, 5000);
            x.power(0);
            Night.weigh(x, behind, 5000);
            x.start();
            Check.same(behind + " since power came", x.state(3), behind < 8 ? Night.UNKNOWN : 0);
        }
    }

    /** The alarm with A as told (all of it retained at first but for one stroke) and B so far above it. */
    private static int alarmWith(int a, int above) {
        int took = Math.floorMod(above, 10);
        NightCycler x = Night.prescribed(Night.RETAINED, a + took, Night.CEILING, 20000);
        Night.weigh(x, 8, 5000);
        x.start();
        Night.weigh(x, 8, 5000 - (above - took) / 20);
        x.tick(1);
        x.stroke(0, took);
        Night.weigh(x, 8, 5000 - (above - took) / 10);
        Check.same("A", x.state(2), a);
        Check.same("B", x.state(3), a + above);
        return x.alarm(0);
    }

    private static void booksAtTheEdge() {
        int[][] mostByA = {{0, 200}, {24, 200}, {25, 201}, {49, 201}, {50, 202}, {99, 203}, {100, 204},
            {2474, 298}, {2475, 299}, {2499, 299}, {2500, 300}, {9999, 599}, {10000, 600}, {19900, 996}};
        for (int[] pair : mostByA) {
            Check.same("A " + pair[0] + ", as far above as may be", alarmWith(pair[0], pair[1]), -1);
            Check.same("A " + pair[0] + ", one farther", alarmWith(pair[0], pair[1] + 1), 2);
            Check.same("A " + pair[0] + ", as far below as may be", alarmWith(pair[0], -pair[1]), -1);
            Check.same("A " + pair[0] + ", one farther below", alarmWith(pair[0], -pair[1] - 1), 2);
        }
    }

    /** Of ever heavier weights the last eight count: the third to the sixth of them by size. */
    private static void eachSideOfAWindow() {
        NightCycler x = new NightCycler();
        for (int grams = 1; grams <= 8; grams++) {
            x.scale(grams);
        }
        x.start();
        for (int grams = 9; grams <= 40; grams++) {
            x.scale(grams);
            Check.same("behind " + grams, x.state(3), 10 * (4 - (grams - 4)));
        }
    }
}

import java.math.BigInteger;

/**
 * The boundary cases of the document's "Terms", sentence by sentence: at the bound, one short of it, one beyond it.
 * A comment ahead of each test has the words that it holds to; what is due was reckoned by hand.
 */
public final class VoltSlopesTermBounds {
    private static final int STATE = -1000000003;
    private static int wrong = 0;

    public static void main(String[] args) {
        ticksCountFromZero();
        wavesTickByTick();
        wavesWrapAtTwenty();
        humIsCutTowardsZero();
        noiseBounds();
        seedWraps();
        outIsCut();
        outIsCutInOneTick();
        shortedIsNotAsked();
        leanAtZero();
        switchedWithinOneConversion();
        runDownToZero();
        runDownOfOne();
        creepStops();
        creepOfEachConversion();
        rangeDownBounds();
        rangeDownWhenOver();
        rangeUpBounds();
        rangeNotUpBehindDown();
        rangeTwoWays();
        autoOff();
        zeroing();
        zeroAge();
        zeroCyclesAndRange();
        plainIsCutTowardsZero();
        factorOfWholeMillions();
        overOfTheLastConversion();
        overStaysOutOfTheFilter();
        jumpAtTheWindow();
        jumpFromShown();
        jumpNeedsValuesAndWindow();
        filterFills();
        filterShrinks();
        settled();
        System.out.println(wrong == 0 ? "all bounds of the terms hold" : wrong + " answers at the terms' bounds are wrong");
        if (wrong != 0) {
            System.exit(1);
        }
    }

    private static void due(String what, long got, long want) {
        if (got != want) {
            wrong++;
            System.out.println(what + " answered " + got + ", due is " + want);
        }
    }

    private static int set(VoltSlopes x, String text) {
        for (char c : text.toCharArray()) {
            x.letter(c);
        }
        return x.set();
    }

    private static VoltSlopes with(String text) {
        VoltSlopes x = new VoltSlopes();
        due("settings \"" + text + "\" are read", text.length() > 40 || set(x, text) == STATE ? 0 : 1, 1);
        return x;
    }

    private static long sumOf(VoltSlopes x) {
        return x.latest(9) * 1000000L + x.latest(10);
    }

    private static long trueOf(VoltSlopes x) {
        return x.latest(11) * 1000000L + x.latest(12);
    }

    private static long valueOf(VoltSlopes x, int place) {
        return x.reading(place, 1) * 1000L + x.reading(place, 2);
    }

    // ---- 1 the source and the amplifier

    /** "TICKS are numbered from 0, and count on ever." */
    private static void ticksCountFromZero() {
        VoltSlopes x = with("N1;R0");
        x.hum(1000, 1);
        due("the first tick's number", x.about(9), 0);
        x.convert(0);
        due("ticks 0 to 9 are the upper half of the square", trueOf(x), 10000);
        // 204810000 is run down by 9, 16, 1 and 15 ticks
        due("ticks of running down are counted, too", x.about(9), 10 + 41);
        x.convert(0);
        due("ticks 51 to 60 are nine of the lower half, one of the upper", trueOf(x), -8000);
    }

    /** "of a SINE for p from 0 to 9: 0, 309, ..", "of a SQUARE 1000 for p below 10, else -1000", "of a RAMP 100 * p - 950" */
    private static void wavesTickByTick() {
        int[] half = {0, 309, 588, 809, 951, 1000, 951, 809, 588, 309};
        VoltSlopes x = new VoltSlopes();
        for (int p = 0; p < 20; p++) {
            x.hum(1000, 0);
            due("sine at " + p, x.input(p), p < 10 ? half[p] : -half[p - 10]);
            x.hum(1000, 1);
            due("square at " + p, x.input(p), p < 10 ? 1000 : -1000);
            x.hum(1000, 2);
            due("ramp at " + p, x.input(p), 100 * p - 950);
        }
    }

    /** "p being t % 20", "for p from 0 to 9", "for p from 10 on", "p below 10", "100 * p - 950" */
    private static void wavesWrapAtTwenty() {
        VoltSlopes x = new VoltSlopes();
        int[] ticks = {0, 1, 9, 10, 11, 19, 20, 21, 29, 30, 39, 40, 2147483639, 2147483640, 2147483647};
        int[] sine = {0, 309, 309, 0, -309, -309, 0, 309, 309, 0, -309, 0, -309, 0, 809};
        int[] square = {1000, 1000, 1000, -1000, -1000, -1000, 1000, 1000, 1000, -1000, -1000, 1000, -1000, 1000, 1000};
        int[] ramp = {-950, -850, -50, 50, 150, 950, -950, -850, -50, 50, 950, -950, 950, -950, -250};
        int[][] waves = {sine, square, ramp};
        for (int wave = 0; wave < 3; wave++) {
            x.hum(1000, wave);
            for (int i = 0; i < ticks.length; i++) {
                due("wave " + wave + " at tick " + ticks[i], x.input(ticks[i]), waves[wave][i]);
            }
        }
    }

    /** "DC + HUM * W / 1000", "quotients as in Java" */
    private static void humIsCutTowardsZero() {
        VoltSlopes x = new VoltSlopes();
        x.hum(1, 0);
        int[] ofOne = {0, 0, 0, 0, 0, 1, 0, 0, 0, 0, 0, 0, 0, 0, 0, -1, 0, 0, 0, 0};
        for (int t = 0; t < 20; t++) {
            due("a sine of 1 at " + t, x.input(t), ofOne[t]);
        }
        x.hum(2, 2);
        int[] ofTwo = {-1, -1, -1, -1, -1, 0, 0, 0, 0, 0, 0, 0, 0, 0, 0, 1, 1, 1, 1, 1};
        for (int t = 0; t < 20; t++) {
            due("a ramp of 2 at " + t, x.input(t), ofTwo[t]);
        }
        x.hum(2000000, 1);
        x.dc(-25000000);
        due("the least input", x.input(10), -27000000);
        x.dc(25000000);
        due("the greatest input", x.input(9), 27000000);
    }

    private static BigInteger nextSeed(BigInteger seed) {
        return seed.multiply(BigInteger.valueOf(1103515245)).add(BigInteger.valueOf(12345)).mod(BigInteger.ONE.shiftLeft(31));
    }

    /** "if NOISE is above 0, a DRAW of 2 * NOISE + 1, less NOISE" */
    private static void noiseBounds() {
        for (int noise : new int[] {0, 1, 2, 9999, 10000}) {
            for (int seed : new int[] {0, 1, 12345, 2147483646, 2147483647}) {
                VoltSlopes x = with("N1;R0");
                x.noise(noise);
                x.seed(seed);
                x.convert(0);
                BigInteger next = BigInteger.valueOf(seed);
                long flowed = 0;
                for (int i = 0; i < 10 && noise > 0; i++) {
                    next = nextSeed(next);
                    flowed += next.longValue() / 65536 % (2 * noise + 1) - noise;
                }
                due("what flows by noise " + noise + " of seed " + seed, trueOf(x), flowed);
                due("the seed behind noise " + noise + " of seed " + seed, x.about(8), next.longValue());
            }
        }
    }

    /** "SEED (1 at first) is, each time, 1103515245 times it and 12345, its rest by 2 to the 31" */
    private static void seedWraps() {
        VoltSlopes x = with("N1;R0");
        x.noise(1);
        x.convert(0);
        due("ten draws from 1", x.about(8), 267834847);
        x.seed(0);
        x.convert(0);
        BigInteger seed = BigInteger.ZERO;
        for (int i = 0; i < 10; i++) {
            seed = nextSeed(seed);
        }
        due("ten draws from 0", x.about(8), seed.longValue());
    }

    /** "but 22000000 at most, -22000000 at least", "It is OVER, if OUT was cut in any TICK." */
    private static void outIsCut() {
        int[][] cases = {
            // RANGE, DC, OFFSET, whether it is OVER, OUT
            {0, 21999999, 0, 0, 21999999}, {0, 22000000, 0, 0, 22000000}, {0, 22000001, 0, 1, 22000000}, {0, 25000000, 0, 1, 22000000},
            {0, 21999999, 1, 0, 22000000}, {0, 21999999, 2, 1, 22000000}, {0, 22000001, -1, 0, 22000000}, {0, 22002000, -2000, 0, 22000000},
            {1, 2199999, 0, 0, 21999990}, {1, 2200000, 0, 0, 22000000}, {1, 2200001, 0, 1, 22000000}, {1, 2200001, -1, 0, 22000000},
            {2, 219999, 0, 0, 21999900}, {2, 220000, 0, 0, 22000000}, {2, 220001, 0, 1, 22000000}, {2, 219999, 2, 1, 22000000},
        };
        for (int[] c : cases) {
            for (int side = -1; side <= 1; side += 2) {
                VoltSlopes x = with("N1;R" + c[0] + ";D" + side * c[1]);
                x.amplifier(side * c[2], 0);
                String what = "range " + c[0] + ", dc " + side * c[1] + ", offset " + side * c[2];
                due(what + ": over", x.convert(0), c[3]);
                due(what + ": over as latest tells", x.latest(8), c[3]);
                due(what + ": what flowed", trueOf(x), side * 10L * c[4]);
            }
        }
    }

    private static void outIsCutInOneTick() {
        // a sine of 1000 is at 1000 in one tick of twenty, at 951 in the two beside it
        int[][] cases = {{21999000, 0, 0}, {21999001, 1, 1}, {21999049, 1, 49}, {21999050, 1, 52}};
        for (int[] c : cases) {
            for (int side = -1; side <= 1; side += 2) {
                VoltSlopes x = with("N2;R0;D" + side * c[0]);
                x.hum(1000, 0);
                due("a peak upon " + side * c[0] + ": over", x.convert(0), c[1]);
                due("a peak upon " + side * c[0] + ": what flowed", trueOf(x), side * (20L * c[0] - c[2]));
            }
        }
    }

    /** "SHORTED: GAIN * OFFSET (INPUT is not asked for, nothing is drawn)" */
    private static void shortedIsNotAsked() {
        int[][] cases = {{0, 2000, 20000}, {0, -2000, -20000}, {1, 2000, 200000}, {2, 2000, 2000000}, {2, -2000, -2000000}, {2, 0, 0}, {2, 1, 1000}};
        for (int[] c : cases) {
            VoltSlopes x = with("N1;R" + c[0] + ";D25000000");
            x.hum(2000000, 1);
            x.noise(10000);
            x.amplifier(c[1], 0);
            due("shorted is not over", x.convert(1), 0);
            due("shorted at range " + c[0] + " by offset " + c[1], trueOf(x), c[2]);
            due("nothing is drawn", x.about(8), 1);
        }
    }

    // ---- 2 a conversion

    /** "LEAN of it is -1, if CHARGE is above 0 as it begins, else 1." */
    private static void leanAtZero() {
        // by -20480000 the charge is just 0 behind the first cycle; a sine of 1 makes it 1 or -1, as its ticks fall
        VoltSlopes at = with("N2;R0;D-20480000");
        at.convert(0);
        due("charge 0 leans to 1", at.latest(0), 18);
        VoltSlopes above = with("N2;R0;D-20480000");
        above.hum(1, 0);
        above.convert(0);
        due("charge 1 leans to -1", above.latest(0), 10);
        due("charge 1: minus", above.latest(1), 10);
        VoltSlopes below = with("N1;R0;D-20480000");
        for (int i = 0; i < 3; i++) {
            below.convert(1);
        }
        due("ten ticks and eight of running down, thrice", below.about(9), 54);
        set(below, "N2");
        below.hum(1, 0);
        below.convert(0);
        due("charge -1 leans to 1", below.latest(0), 18);
        due("charge -1: minus", below.latest(1), 2);
        VoltSlopes first = with("N1;R0;D22000000");
        first.convert(0);
        due("the first cycle leans to 1 whatever comes", first.latest(0), 9);
    }

    /** "SWITCHED: how often it was another one than in the TICK ahead (within the CONVERSION)", "N 1 to 50" */
    private static void switchedWithinOneConversion() {
        int[] cycles = {1, 2, 49, 50};
        for (int n : cycles) {
            VoltSlopes x = with("N" + n + ";R0;D3000000");
            for (int i = 0; i < 3; i++) {
                x.convert(0);
                due("switched in " + n + " cycles", x.latest(2), 2 * n - 1);
                due("ticks of " + n + " cycles", x.latest(0) + x.latest(1), 10 * n);
            }
        }
    }

    /** "if CHARGE is above 0, it is made less .. till it is 0 or below; if it is below 0, greater, till it is 0 or above" */
    private static void runDownToZero() {
        int[][] cases = {
            // charge behind one cycle, COUNTS, LEFT
            {0, 0, 0, 0, 0, 0}, {10, -1, 16, -1, 16, 10}, {-10, 1, -16, 1, -16, -10},
            {6240, -1, 16, -1, 16, 6240}, {6250, -1, 16, -1, 15, 0}, {6260, -1, 16, -1, 15, 10},
            {-6240, 1, -16, 1, -16, -6240}, {-6250, 1, -16, 1, -15, 0}, {-6260, 1, -16, 1, -15, -10},
            {100000, -1, 16, -1, 0, 0}, {-100000, 1, -16, 1, 0, 0}, {1600000, -1, 15, 0, 0, 0}, {-1600000, 1, -15, 0, 0, 0},
            {25599990, -1, 1, -16, 1, 6240}, {25600000, -1, 0, 0, 0, 0}, {25600010, -2, 16, -1, 16, 10},
            {-15200000, 1, -7, 8, 0, 0}, {424800000, -17, 7, -8, 0, 0},
        };
        for (int[] c : cases) {
            int dc = (c[0] - 204800000) / 10;
            VoltSlopes x = with("N1;R0;D" + dc);
            x.convert(0);
            int ticks = 10;
            for (int slope = 0; slope < 4; slope++) {
                due("charge " + c[0] + ": count of slope " + slope, x.latest(3 + slope), c[1 + slope]);
                ticks += Math.abs(c[1 + slope]);
            }
            due("charge " + c[0] + ": left", x.latest(7), c[5]);
            due("charge " + c[0] + ": ticks", x.about(9), ticks);
            due("charge " + c[0] + ": true", trueOf(x), 10L * dc);
            due("charge " + c[0] + ": sum is off by what is left", sumOf(x), 10L * dc - c[5]);
        }
    }

    private static void runDownOfOne() {
        // a sine of 1 adds 1 in tick 5 of its twenty, and takes 1 in tick 15
        VoltSlopes above = with("N1;R0;D-20480000");
        above.hum(1, 0);
        above.convert(0);
        int[] ofOne = {-1, 16, -1, 16, 1};
        VoltSlopes below = with("N1;R0;D-20480000");
        for (int i = 0; i < 3; i++) {
            below.convert(1);
        }
        below.hum(1, 0);
        below.convert(0);
        for (int i = 0; i < 5; i++) {
            due("charge 1: latest(" + (3 + i) + ")", above.latest(3 + i), ofOne[i]);
            due("charge -1: latest(" + (3 + i) + ")", below.latest(3 + i), -ofOne[i]);
        }
    }

    /** "At the end of each CONVERSION OFFSET grows by CREEP (2000 at most, -2000 at least)." */
    private static void creepStops() {
        int[][] cases = {
            {1949, 50, 1999}, {1950, 50, 2000}, {1951, 50, 2000}, {2000, 50, 2000}, {1999, 1, 2000}, {2000, 1, 2000}, {2000, 0, 2000},
            {2000, -1, 1999}, {-25, 50, 25}, {0, 0, 0},
        };
        for (int[] c : cases) {
            for (int side = -1; side <= 1; side += 2) {
                for (int shorted = 0; shorted < 2; shorted++) {
                    VoltSlopes x = with("N1;R0");
                    x.amplifier(side * c[0], side * c[1]);
                    x.convert(shorted);
                    due("the offset ahead is that which flowed", trueOf(x), side * 10L * c[0]);
                    due("offset " + side * c[0] + " creeps by " + side * c[1], x.about(7), side * c[2]);
                }
            }
        }
    }

    private static void creepOfEachConversion() {
        VoltSlopes x = with("N1;R0;Z1");
        x.amplifier(-10, 3);
        x.go(1);
        due("a reading of two conversions", x.about(7), -4);
        x.sweep(0, 0, 8);
        due("a sweep of eight", x.about(7), 20);
        set(x, "Z0;G1");
        due("a reading of one", x.about(7), 23);
        x.go(9);
        due("a refused call", x.about(7), 23);
    }

    // ---- 3 a reading

    private static void dueRange(String text, int want) {
        VoltSlopes x = with(text);
        int before = x.about(0);
        x.go(1);
        due("range found by " + text, x.about(0), want);
        due("range of the reading by " + text, x.reading(0, 3), want);
        due("times that it was made more by " + text, x.count(5), Math.max(0, want - before));
        due("times that it was made less by " + text, x.count(6), Math.max(0, before - want));
        due("conversions by " + text, x.reading(0, 5), 1 + Math.abs(want - before));
    }

    /** "if RANGE > 0 && (.. SUM > 210000000 * N || -SUM > 210000000 * N), RANGE is 1 less" */
    private static void rangeDownBounds() {
        for (String sign : new String[] {"", "-"}) {
            dueRange("N1;Z0;R1;A;D" + sign + "2099937", 1);
            dueRange("N1;Z0;R1;A;D" + sign + "2100000", 1);
            dueRange("N1;Z0;R1;A;D" + sign + "2100063", 0);
            dueRange("N50;Z0;R1;A;D" + sign + "2099998", 1);
            dueRange("N50;Z0;R1;A;D" + sign + "2100000", 1);
            dueRange("N50;Z0;R1;A;D" + sign + "2100002", 0);
            dueRange("N1;Z0;R2;A;D" + sign + "210000", 2);
            dueRange("N1;Z0;R2;A;D" + sign + "210007", 1);
            dueRange("N4;Z0;R2;A;D" + sign + "2100000", 1);
            dueRange("N4;Z0;R2;A;D" + sign + "2200000", 0);
            dueRange("N4;Z0;R0;A;D" + sign + "21000001", 0);
            dueRange("N4;Z0;R0;A;D" + sign + "25000000", 0);
        }
    }

    /** "if RANGE > 0 && (it is OVER || ..": a sum that would do, but cut in some ticks */
    private static void rangeDownWhenOver() {
        int[][] cases = {{200000, 1}, {200001, 0}, {-200000, 1}, {-200001, 0}};
        for (int[] c : cases) {
            VoltSlopes x = with("N2;Z0;R1;A;D" + c[0]);
            x.hum(2000000, 1);
            x.go(1);
            due("range by a square of 2000000 upon " + c[0], x.about(0), c[1]);
            due("not over in the end, upon " + c[0], x.reading(0, 4), 0);
        }
    }

    /** "if RANGE is below 2, .., and SUM and its negative are below 15000000 * N, RANGE is 1 more" */
    private static void rangeUpBounds() {
        for (String sign : new String[] {"", "-"}) {
            dueRange("N1;Z0;R0;A;D" + sign + "1500625", 0);
            dueRange("N1;Z0;R0;A;D" + sign + "1500000", 0);
            dueRange("N1;Z0;R0;A;D" + sign + "1499375", 1);
            dueRange("N50;Z0;R0;A;D" + sign + "1500000", 0);
            dueRange("N50;Z0;R0;A;D" + sign + "1499975", 1);
            dueRange("N1;Z0;R1;A;D" + sign + "150000", 1);
            dueRange("N1;Z0;R1;A;D" + sign + "149937", 2);
            dueRange("N1;Z0;R0;A;D" + sign + "150000", 1);
            dueRange("N1;Z0;R0;A;D" + sign + "149937", 2);
            dueRange("N1;Z0;R2;A;D" + sign + "1", 2);
        }
        dueRange("N1;Z0;R2;A;D0", 2);
        dueRange("N50;Z0;R0;A;D0", 2);
    }

    /** "was not made less in this READING" */
    private static void rangeNotUpBehindDown() {
        VoltSlopes x = with("N2;Z0;R1;A;D500000");
        x.hum(2000000, 1);
        x.go(1);
        due("down, and not up again", x.about(0), 0);
        due("by two conversions", x.reading(0, 5), 2);
        due("its sum is small enough to go up", Math.abs(sumOf(x)) < 30000000 ? 1 : 0, 1);
        x.go(1);
        // the next reading may go up, and must go down again
        due("up and down in the next reading", x.reading(0, 5), 3);
        due("range of the next reading", x.reading(0, 3), 0);
        due("made more once", x.count(5), 1);
        due("made less twice", x.count(6), 2);
    }

    private static void rangeTwoWays() {
        VoltSlopes x = with("N2;Z1;R0;A;D100000");
        x.hum(200000, 1);
        x.go(1);
        due("up twice, down once, and a zero", x.reading(0, 5), 5);
        due("range behind that", x.reading(0, 3), 1);
        due("made more twice", x.count(5), 2);
        due("made less once", x.count(6), 1);
        due("the zero is of the range found", x.zero(1, 3), 1);
        due("none of the one left", x.zero(2, 3), STATE);
        due("value", valueOf(x, 0), 100000000);
        x.dc(25000000);
        set(x, "R2;A;G1");
        due("down twice, and a zero", x.reading(0, 5), 4);
        due("range 0 is the least", x.reading(0, 3), 0);
    }

    /** "If AUTO is on (it is at first)", "R .. AUTO is off", "A .. RANGE stays" */
    private static void autoOff() {
        VoltSlopes x = new VoltSlopes();
        due("on at first", x.about(1), 1);
        set(x, "R0");
        due("off by R", x.about(1), 0);
        x.go(1);
        due("range stays at nothing", x.about(0), 0);
        set(x, "R2;D25000000;G1");
        due("range stays when over", x.about(0), 2);
        due("that is over", x.reading(0, 4), 1);
        set(x, "A");
        due("on by A", x.about(1), 1);
        due("range stays by A", x.about(0), 2);
        due("no range counted by settings", x.count(5) + x.count(6), 0);
    }

    /** "ZEROING 0: 0. ZEROING 1 (at first): a CONVERSION that is SHORTED", "(ZEROING 1 KEEPS its own, too)" */
    private static void zeroing() {
        VoltSlopes x = with("N1;R0;D625");
        x.amplifier(1250, 0);
        x.go(2);
        due("1 at first: a zero each time", x.count(4), 2);
        due("1: taken off", valueOf(x, 0), 625000);
        due("1: kept", x.zero(0, 3), 2);
        set(x, "Z0;G1");
        due("0: none taken", x.count(4), 2);
        due("0: none taken off", valueOf(x, 0), 1875000);
        due("0: the kept one stays as it was", x.zero(0, 3), 2);
        set(x, "Z2");
        x.amplifier(1875, 0);
        x.go(1);
        due("2: that which zeroing 1 kept", x.count(4), 2);
        due("2: its sum is taken off", valueOf(x, 0), 1250000);
        set(x, "Z1;G1");
        due("1: takes one though one is kept", x.count(4), 3);
        due("1: a new one is taken off", valueOf(x, 0), 625000);
    }

    /** "in one of the four READINGS ahead of this one" */
    private static void zeroAge() {
        int[] taken = {1, 1, 1, 1, 2, 1, 1, 1, 1, 2};
        VoltSlopes x = with("N1;R0;Z2;G1");
        due("the first is taken", x.reading(0, 5), 2);
        for (int i = 0; i < taken.length; i++) {
            x.go(1);
            due("conversions of reading " + (i + 2), x.reading(0, 5), taken[i]);
        }
        VoltSlopes four = with("N1;R0;Z2;G1;Z0;G3;Z2;G1");
        due("kept in the fourth ahead", four.reading(0, 5), 1);
        due("by its number", four.zero(0, 3), 1);
        VoltSlopes five = with("N1;R0;Z2;G1;Z0;G4;Z2;G1");
        due("kept in the fifth ahead", five.reading(0, 5), 2);
        due("by its new number", five.zero(0, 3), 6);
        VoltSlopes over = with("N1;R0;Z2;G1;D25000000;G4;D0;G1");
        due("readings that are over count, too", over.reading(0, 5), 2);
        VoltSlopes alone = with("N1;R0;Z2;G1");
        for (int i = 0; i < 9; i++) {
            alone.convert(1);
        }
        alone.go(1);
        due("conversions alone do not make it older", alone.reading(0, 5), 1);
    }

    /** "the KEPT one of the RANGE, if it was taken by as many CYCLES" */
    private static void zeroCyclesAndRange() {
        VoltSlopes x = with("N10;R0;Z2;G1;N9;G1");
        due("one cycle less", x.reading(0, 5), 2);
        due("kept by so many", x.zero(0, 2), 9);
        set(x, "N10;G1");
        due("the former is no more", x.reading(0, 5), 2);
        set(x, "N11;G1");
        due("one cycle more", x.reading(0, 5), 2);
        set(x, "G1");
        due("as many", x.reading(0, 5), 1);
        set(x, "R1;G1;R2;G1");
        due("another range", x.reading(1, 5) + x.reading(0, 5), 4);
        set(x, "R0;G1");
        due("the range ahead has its own still", x.reading(0, 5), 1);
        due("range 0", x.zero(0, 3), 4);
        due("range 1", x.zero(1, 3), 6);
        due("range 2", x.zero(2, 3), 7);
    }

    /** "PLAIN = (SUM less ZERO) * 100 / (N * GAIN)", "quotients as in Java" */
    private static void plainIsCutTowardsZero() {
        int[][] cases = {
            // N, RANGE, DC, SUM, VALUE
            {3, 0, 625, 18750, 625000}, {1, 0, 625, 6250, 625000}, {6, 0, 3125, 187500, 3125000}, {50, 2, 1, 50000, 1000},
            {1, 2, 25, 25000, 25000}, {3, 2, 25, 75000, 25000}, {1, 1, 625, 62500, 625000},
        };
        for (int[] c : cases) {
            for (int side = -1; side <= 1; side += 2) {
                VoltSlopes x = with("Z0;N" + c[0] + ";R" + c[1] + ";D" + side * c[2] + ";G1");
                due("sum of N " + c[0] + ", range " + c[1] + ", dc " + side * c[2], sumOf(x), side * c[3]);
                due("value of N " + c[0] + ", range " + c[1] + ", dc " + side * c[2], valueOf(x, 0), side * c[4]);
            }
        }
        // sums are of 6250, which by these numbers of cycles is no whole number
        for (int n : new int[] {3, 6, 7, 9, 11, 13}) {
            for (int dc : new int[] {-7, -3, -2, -1, 1, 2, 3, 7}) {
                VoltSlopes x = with("Z0;N" + n + ";R2;D" + dc + ";G1");
                BigInteger due = BigInteger.valueOf(sumOf(x)).multiply(BigInteger.valueOf(100)).divide(BigInteger.valueOf(n * 100L));
                due("value of N " + n + ", dc " + dc, valueOf(x, 0), due.longValue());
                due("its rest has its sign", (long) x.reading(0, 2) * dc >= 0 ? 1 : 0, 1);
            }
        }
    }

    /** "PLAIN / 1000000 * FACTOR + SHIFT * 1000 (FACTOR -1000 to 1000, SHIFT -1000000 to 1000000" */
    private static void factorOfWholeMillions() {
        int[][] cases = {
            // DC, FACTOR, SHIFT, VALUE / 1000, VALUE % 1000; five cycles, so that sums are of 125000 nanovolts
            {875, 1000, 0, 875, 0}, {1000, 1000, 0, 1001, 0}, {1125, 1000, 0, 1126, 0}, {1875, 1000, 0, 1876, 0}, {2000, 1000, 0, 2002, 0},
            {1000, -1000, 0, 999, 0}, {1000, 1, 0, 1000, 1}, {1000, -1, 0, 999, 999}, {1000, 0, 0, 1000, 0}, {1000, 999, 0, 1000, 999},
            {-875, 1000, 0, -875, 0}, {-1000, 1000, 0, -1001, 0}, {-1000, -1, 0, -999, -999},
            {0, 1000, 1000000, 1000000, 0}, {0, 0, -1000000, -1000000, 0}, {0, 0, 1, 1, 0}, {0, 0, -1, -1, 0}, {-1000, 0, 1000, 0, 0},
            {22000000, 1000, 1000000, 23022000, 0}, {-22000000, 1000, -1000000, -23022000, 0},
        };
        for (int[] c : cases) {
            VoltSlopes x = with("N5;R0;Z0;D" + c[0]);
            x.correct(c[1], c[2]);
            x.go(1);
            String what = c[0] + " put right by " + c[1] + ", " + c[2];
            due(what, x.reading(0, 1), c[3]);
            due(what + ": rest", x.reading(0, 2), c[4]);
            due(what + ": in the filter", x.held(0, 0), c[3]);
            due(what + ": rest in the filter", x.held(0, 1), c[4]);
        }
    }

    /** "The READING is OVER, if its last CONVERSION of INPUT was." */
    private static void overOfTheLastConversion() {
        VoltSlopes x = with("N1;R1;A;Z1;D22000000");
        due("over at range 1 alone", x.go(1), 0);
        due("is not over", x.reading(0, 4), 0);
        due("the one of zero is the latest", x.latest(13), 1);
        x.dc(22000001);
        due("over at range 0", x.go(1), 1);
        due("is over", x.reading(0, 4), 1);
        due("the zero behind it is not", x.latest(8), 0);
        due("how many were over", x.count(2), 1);
    }

    /** "(4) If it is not OVER" */
    private static void overStaysOutOfTheFilter() {
        VoltSlopes x = with("N1;R0;Z0;W1;D22000000;G1;D22000001;G2");
        due("the one at the bound is in, those beyond are not", x.filter(2), 1);
        due("no jump of those", x.count(7), 0);
        due("shown is as it was", x.filter(0), 22000000);
        due("their value is told", x.reading(0, 1), 22000000);
    }

    /** "VALUE is more than WINDOW * 1000 from SHOWN", "WINDOW (0 to 99999 microvolts" */
    private static void jumpAtTheWindow() {
        // at range 2 with 25 cycles each microvolt is met exactly
        int[][] cases = {
            {1, 1, 0}, {1, 2, 1}, {2, 2, 0}, {2, 3, 1}, {99998, 99998, 0}, {99998, 99999, 1}, {99999, 99999, 0}, {99999, 100000, 1}, {5, 0, 0}, {5, 4, 0},
        };
        for (int[] c : cases) {
            for (int side = -1; side <= 1; side += 2) {
                VoltSlopes x = with("R2;N25;Z0;W" + c[0] + ";D0;G2;D" + side * c[1] + ";G1");
                String what = side * c[1] + " by a window of " + c[0];
                due(what + ": value", valueOf(x, 0), side * c[1] * 1000L);
                due(what + ": a jump", x.reading(0, 6), c[2]);
                due(what + ": jumps", x.count(7), c[2]);
                due(what + ": values", x.filter(2), c[2] == 1 ? 1 : 3);
                due(what + ": the one ahead was none", x.reading(1, 6), 0);
            }
        }
    }

    private static void jumpFromShown() {
        VoltSlopes x = with("N1;R0;Z0;W1000;D0;G1;D625;G1;D1250;G1");
        due("937.5 from shown, though 1250 from the oldest", x.count(7), 0);
        set(x, "D1875;G1");
        due("1250 from shown, though 625 from the one ahead", x.reading(0, 6), 1);
        due("it alone is in", x.filter(2), 1);
        due("shown is it", x.filter(0), 1875);
    }

    /** "if there are VALUES in THE FILTER, WINDOW .. is above 0" */
    private static void jumpNeedsValuesAndWindow() {
        VoltSlopes x = with("N1;R0;Z0;W1;D5000000;G1");
        due("none into an empty filter", x.count(7), 0);
        x.clear();
        set(x, "D-5000000;G1");
        due("none into a cleared one", x.count(7), 0);
        set(x, "W0;D5000000;G1");
        due("none by window 0", x.count(7), 0);
        due("two are in", x.filter(2), 2);
        set(x, "F1;W1;D0;G1");
        due("one by window 1", x.count(7), 1);
        due("one is in", x.filter(2), 1);
        due("settled, for K is 1", x.filter(3), 1);
    }

    /** "if there are more than K (1 to 16; 4 at first) then, the oldest ones go" */
    private static void filterFills() {
        VoltSlopes first = with("N1;R0;Z0");
        for (int i = 1; i <= 6; i++) {
            set(first, "D" + 625 * i + ";G1");
            due("values behind " + i + " readings, K as at first", first.filter(2), Math.min(i, 4));
            due("the oldest behind " + i + " readings", first.held(0, 0), 625 * Math.max(1, i - 3));
            due("the latest behind " + i + " readings", first.held(Math.min(i, 4) - 1, 0), 625 * i);
        }
        for (int k : new int[] {1, 2, 15, 16}) {
            VoltSlopes x = with("N1;R0;Z0;F" + k);
            for (int i = 1; i <= k + 2; i++) {
                set(x, "D" + 625 * i + ";G1");
                due("values behind " + i + " readings, K " + k, x.filter(2), Math.min(i, k));
                due("least, K " + k, x.filter(4), 625 * Math.max(1, i - k + 1));
                due("greatest, K " + k, x.filter(5), 625 * i);
            }
        }
    }

    /** "(Another K: the oldest ones go, if there are more.)" */
    private static void filterShrinks() {
        String four = "N1;R0;Z0;D625;G1;D1250;G1;D1875;G1";
        int[][] cases = {{1, 1, 2500}, {2, 2, 1875}, {3, 3, 1250}, {4, 4, 625}, {5, 4, 625}, {16, 4, 625}};
        for (int[] c : cases) {
            VoltSlopes x = with(four);
            set(x, "D2500;G1;F" + c[0]);
            due("values left by K " + c[0], x.filter(2), c[1]);
            due("the oldest left by K " + c[0], x.held(0, 0), c[2]);
            due("the latest left by K " + c[0], x.held(c[1] - 1, 0), 2500);
            due("settled by K " + c[0], x.filter(3), c[0] == c[1] ? 1 : 0);
            due("readings are as they were", x.reading(3, 1), 625);
        }
        VoltSlopes back = with(four);
        set(back, "F1;F4");
        due("what went is gone", back.filter(2), 1);
    }

    /** "It is SETTLED, if there are K." */
    private static void settled() {
        for (int k : new int[] {1, 4, 16}) {
            VoltSlopes x = with("N1;R0;Z0;F" + k);
            due("empty, K " + k, x.filter(3), 0);
            for (int i = 1; i <= k + 1; i++) {
                x.go(1);
                due("settled behind " + i + ", K " + k, x.filter(3), i >= k ? 1 : 0);
            }
            x.clear();
            due("cleared, K " + k, x.filter(3), 0);
        }
    }
}

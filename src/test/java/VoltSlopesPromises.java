/** Each promise of the document by itself, with answers reckoned by hand. */
public final class VoltSlopesPromises {
    private static final int UNKNOWN = -1000000001, OUTSIDE = -1000000002, STATE = -1000000003, FULL = -1000000004;
    private static final int LOW = Integer.MIN_VALUE, HIGH = Integer.MAX_VALUE;
    private static int wrong = 0;

    public static void main(String[] args) {
        newObject();
        letter();
        blank();
        fault();
        faultOfNumbers();
        set();
        setRefused();
        dc();
        hum();
        noise();
        seed();
        amplifier();
        correct();
        go();
        rangesFound();
        rangesKeptAtBounds();
        convert();
        cycles();
        sweep();
        clear();
        latest();
        reading();
        filter();
        jumps();
        held();
        about();
        zero();
        zerosKept();
        input();
        count();
        digest();
        exampleOfReadme();
        System.out.println(wrong == 0 ? "all promises are kept" : wrong + " answers are not as promised");
        if (wrong != 0) {
            System.exit(1);
        }
    }

    private static void due(String what, long got, long want) {
        if (got != want) {
            wrong++;
            System.out.println(what + " answered " + got + ", due is " + want);
        }
    }

    private static void write(VoltSlopes x, String text) {
        for (int i = 0; i < text.length(); i++) {
            x.letter(text.charAt(i));
        }
    }

    private static int set(VoltSlopes x, String text) {
        write(x, text);
        return x.set();
    }

    /** A new object on which the settings were read. */
    private static VoltSlopes with(String text) {
        VoltSlopes x = new VoltSlopes();
        set(x, text);
        return x;
    }

    private static void dueLatest(String what, VoltSlopes x, int... wanted) {
        for (int i = 0; i < wanted.length; i++) {
            due(what + ": latest(" + i + ")", x.latest(i), wanted[i]);
        }
    }

    private static void dueReading(String what, VoltSlopes x, int... wanted) {
        for (int i = 0; i < wanted.length; i++) {
            due(what + ": reading(0, " + i + ")", x.reading(0, i), wanted[i]);
        }
    }

    private static void dueFilter(String what, VoltSlopes x, int... wanted) {
        for (int i = 0; i < wanted.length; i++) {
            due(what + ": filter(" + i + ")", x.filter(i), wanted[i]);
        }
    }

    // ---- promise 1

    private static void newObject() {
        VoltSlopes x = new VoltSlopes();
        int[] abouts = {0, 1, 10, 1, 4, 0, 0, 0, 1, 0};
        long h = 1601;
        for (int i = 0; i < abouts.length; i++) {
            due("1: about(" + i + ")", x.about(i), abouts[i]);
            h = 31 * h + abouts[i];
        }
        for (int i = 0; i < 9; i++) {
            due("1: count(" + i + ")", x.count(i), 0);
        }
        for (int i = 0; i < 35; i++) {
            h = 31 * h;
        }
        dueFilter("1", x, 0, 0, 0, 0, 0, 0);
        due("1: latest", x.latest(0), STATE);
        due("1: reading", x.reading(0, 0), UNKNOWN);
        due("1: held", x.held(0, 0), UNKNOWN);
        due("1: zero", x.zero(0, 0), STATE);
        due("1: digest", x.digest(), h);
        due("1: hum was", x.hum(1, 1), 0);
        due("1: noise was", x.noise(1), 0);
        due("1: factor was", x.correct(1, 1), 0);
        VoltSlopes y = new VoltSlopes();
        due("1: another object has its own state", y.digest(), h);
    }

    // ---- promises 2 to 5

    private static void letter() {
        VoltSlopes x = new VoltSlopes();
        for (int code : new int[] {31, 127, -1, 0, LOW, HIGH}) {
            due("2: letter(" + code + ")", x.letter(code), OUTSIDE);
        }
        due("2: the least code", x.letter(32), 1);
        due("2: the greatest code", x.letter(126), 2);
        for (int i = 3; i <= 40; i++) {
            due("2: letter " + i, x.letter('A'), i);
        }
        due("2: one above 40", x.letter('A'), FULL);
        due("2: a wrong code is told first", x.letter(127), OUTSIDE);
        due("2: refusals change nothing", x.count(0), 40);
    }

    private static void blank() {
        VoltSlopes x = new VoltSlopes();
        due("3: of an empty page", x.blank(), 0);
        write(x, "N1;");
        due("3: of three", x.blank(), 3);
        due("3: empty then", x.count(0), 0);
        due("3: letters come anew", x.letter('G'), 1);
        due("3: no reading", x.count(8), 0);
    }

    private static void dueFault(String text, int want) {
        VoltSlopes x = new VoltSlopes();
        write(x, text);
        long before = x.digest();
        due("4: fault of \"" + text + "\"", x.fault(), want);
        due("4: \"" + text + "\" changes nothing", x.digest(), before);
    }

    private static void fault() {
        dueFault("", 0);
        dueFault("A", 1);
        dueFault("A;", 2);
        dueFault("A;A;A", 5);
        dueFault("A;;", 2);
        dueFault(";", 0);
        dueFault("AA", 1);
        dueFault("A0", 1);
        dueFault("A-", 1);
        dueFault("a", 0);
        dueFault(" A", 0);
        dueFault("A ", 1);
        dueFault("X1", 0);
        dueFault("5", 0);
        dueFault("N", 1);
        dueFault("N;", 1);
        dueFault("NA", 1);
        dueFault("N5A", 2);
        dueFault("N5;", 3);
        dueFault("N5;R1;A;Z2;F16;W99999;D-25000000;G9", 35);
        dueFault("N5;R1;A;Z2;F16;W99999;D-25000000;G9x", 35);
        dueFault("N50;N50;N50;N50;N50;N50;N50;N50;N50;N50;", 40);
    }

    private static void faultOfNumbers() {
        dueFault("N50", 3);
        dueFault("N51", 2);
        dueFault("N60", 2);
        dueFault("N100", 3);
        dueFault("N0", 2);
        dueFault("N0;", 2);
        dueFault("N05", 2);
        dueFault("F0;", 2);
        dueFault("G0;", 2);
        dueFault("F16", 3);
        dueFault("F17", 2);
        dueFault("G9", 2);
        dueFault("G10", 2);
        dueFault("R2", 2);
        dueFault("R3", 1);
        dueFault("R00", 2);
        dueFault("R10", 2);
        dueFault("Z0;", 3);
        dueFault("Z3", 1);
        dueFault("W0;", 3);
        dueFault("W00", 2);
        dueFault("W99999", 6);
        dueFault("W100000", 6);
        dueFault("D0;", 3);
        dueFault("D00", 2);
        dueFault("D-", 2);
        dueFault("D-;", 2);
        dueFault("D--1", 2);
        dueFault("D-0", 2);
        dueFault("D-01", 2);
        dueFault("D1-", 2);
        dueFault("D+1", 1);
        dueFault("D25000000", 9);
        dueFault("D25000001", 8);
        dueFault("D250000000", 9);
        dueFault("D-25000000", 10);
        dueFault("D-25000001", 9);
        dueFault("D-99999999", 9);
        dueFault("D99999999999999999999999", 8);
        for (char c : "NRZFWG".toCharArray()) {
            dueFault(c + "-1", 1);
        }
    }

    private static void set() {
        VoltSlopes x = new VoltSlopes();
        due("5: all settings", set(x, "N1;R2;Z0;F2;W7;D-25000000"), 0);
        int[] abouts = {2, 0, 1, 0, 2, 7, -25000000, 0, 1, 0};
        for (int i = 0; i < abouts.length; i++) {
            due("5: about(" + i + ")", x.about(i), abouts[i]);
        }
        due("5: the page is empty", x.count(0), 0);
        due("5: read once", x.count(8), 1);
        due("5: auto on", set(x, "A"), 0);
        due("5: auto is on", x.about(1), 1);
        due("5: range stays", x.about(0), 2);
        VoltSlopes y = with("N1;R0;Z0");
        due("5: readings of all commands", set(y, "D625;G2;D1250;G3"), 5);
        due("5: the later ones", y.reading(0, 1), 1250);
        due("5: the first of the later ones", y.reading(2, 1), 1250);
        due("5: the earlier ones", y.reading(3, 1), 625);
        due("5: as many as a page can take", set(y, "G9;G9;G9;G9;G9;G9;G9;G9;G9;G9;G9;G9;G9;A"), 117);
        due("5: readings", y.count(1), 122);
        VoltSlopes z = with("N50;F16;W99999;Z2;D25000000");
        due("5: greatest N", z.about(2), 50);
        due("5: greatest K", z.about(4), 16);
        due("5: greatest window", z.about(5), 99999);
        due("5: another zeroing", z.about(3), 2);
        due("5: greatest DC", z.about(6), 25000000);
    }

    private static void setRefused() {
        for (String text : new String[] {"", "N", "N0", "N5;", ";", "D-", "N51", "F0", "G0", "G10", "N5;G2;G0", "A1", "a", "D-0"}) {
            VoltSlopes x = new VoltSlopes();
            write(x, text);
            long before = x.digest();
            due("5: set of \"" + text + "\"", x.set(), STATE);
            due("5: \"" + text + "\" changes nothing", x.digest(), before);
            due("5: \"" + text + "\" stays", x.blank(), text.length());
        }
    }

    // ---- promises 6 to 11

    private static void dc() {
        VoltSlopes x = new VoltSlopes();
        due("6: first", x.dc(25000000), 0);
        due("6: least", x.dc(-25000000), 25000000);
        for (int v : new int[] {25000001, -25000001, LOW, HIGH}) {
            due("6: dc(" + v + ")", x.dc(v), OUTSIDE);
        }
        due("6: refusals change nothing", x.about(6), -25000000);
        due("6: as it was", x.dc(7), -25000000);
        due("6: the input", x.input(3), 7);
    }

    private static void hum() {
        VoltSlopes x = new VoltSlopes();
        due("7: first", x.hum(2000000, 2), 0);
        int[][] outside = {{-1, 0}, {2000001, 0}, {0, -1}, {0, 3}, {LOW, LOW}, {HIGH, HIGH}};
        for (int[] a : outside) {
            due("7: hum(" + a[0] + ", " + a[1] + ")", x.hum(a[0], a[1]), OUTSIDE);
        }
        due("7: refusals change nothing", x.input(0), -1900000);
        due("7: which there was", x.hum(1000, 0), 2000000);
        due("7: none", x.hum(0, 1), 1000);
        due("7: none any more", x.input(5), 0);
        VoltSlopes y = with("N1;R0");
        y.hum(1000, 0);
        y.convert(0);
        due("7: ten ticks of a sine", y.latest(12), 6314);
    }

    private static void noise() {
        VoltSlopes x = with("N1;R0");
        due("8: first", x.noise(10000), 0);
        due("8: too small", x.noise(-1), OUTSIDE);
        due("8: too great", x.noise(10001), OUTSIDE);
        x.convert(0);
        // 16838, 5758, 10113, 17515, 31051, 5627, 23010, 7419, 16212, 4086 are drawn, their rests by 20001 less 10000 flow
        due("8: what the draws make", x.latest(12), -2373);
        long seed = 1;
        for (int i = 0; i < 10; i++) {
            seed = (seed * 1103515245L + 12345L) % (1L << 31);
        }
        due("8: a draw each tick, none as it is run down", x.about(8), seed);
        x.convert(1);
        due("8: none when shorted", x.about(8), seed);
        due("8: which it was", x.noise(0), 10000);
        x.convert(0);
        due("8: none without noise", x.about(8), seed);
        due("8: nothing flows without noise", x.latest(12), 0);
    }

    private static void seed() {
        VoltSlopes x = with("N1;R0");
        due("9: first", x.seed(HIGH), 1);
        due("9: greatest", x.seed(0), HIGH);
        due("9: below 0", x.seed(-1), OUTSIDE);
        due("9: far below 0", x.seed(LOW), OUTSIDE);
        due("9: refusals change nothing", x.about(8), 0);
        x.noise(1);
        x.convert(0);
        long seed = 0;
        long sum = 0;
        for (int i = 0; i < 10; i++) {
            seed = (seed * 1103515245L + 12345L) % (1L << 31);
            sum += seed / 65536 % 3 - 1;
        }
        due("9: drawn on", x.about(8), seed);
        due("9: what flowed", x.latest(12), sum);
    }

    private static void amplifier() {
        VoltSlopes x = with("N1;R2");
        due("10: first", x.amplifier(2000, 50), 0);
        int[][] outside = {{2001, 0}, {-2001, 0}, {0, 51}, {0, -51}, {LOW, 0}, {0, HIGH}};
        for (int[] a : outside) {
            due("10: amplifier(" + a[0] + ", " + a[1] + ")", x.amplifier(a[0], a[1]), OUTSIDE);
        }
        due("10: refusals change nothing", x.about(7), 2000);
        x.convert(1);
        due("10: 2000 at most", x.about(7), 2000);
        due("10: gain 100", x.latest(11), 2);
        due("10: which there was", x.amplifier(-1960, -50), 2000);
        x.convert(0);
        due("10: -2000 at least", x.about(7), -2000);
        due("10: gain 100 of what it was", x.latest(12), -960000);
        x.amplifier(3, -5);
        x.convert(1);
        due("10: creeps behind the conversion", x.latest(12), 3000);
        due("10: by as much", x.about(7), -2);
    }

    private static void correct() {
        VoltSlopes x = with("N1;R0;Z0;D1000000");
        due("11: first", x.correct(1000, -5), 0);
        x.go(1);
        due("11: put right", x.reading(0, 1), 1000995);
        int[][] outside = {{1001, 0}, {-1001, 0}, {0, 1000001}, {0, -1000001}, {HIGH, 0}, {0, LOW}};
        for (int[] a : outside) {
            due("11: correct(" + a[0] + ", " + a[1] + ")", x.correct(a[0], a[1]), OUTSIDE);
        }
        x.go(1);
        due("11: refusals change nothing", x.reading(0, 1), 1000995);
        due("11: which there was", x.correct(-1000, 1000000), 1000);
        x.go(1);
        due("11: the other way", x.reading(0, 1), 1999000);
        due("11: least factor", x.correct(0, -1000000), -1000);
        x.go(1);
        due("11: least shift", x.reading(0, 1), 0);
        // 625 microvolts are 625000 nanovolts: no whole million, so that the factor does nothing
        VoltSlopes y = with("N1;R0;Z0;D625");
        y.correct(1000, 0);
        y.go(1);
        due("11: whole millions alone", y.reading(0, 1), 625);
    }

    // ---- promises 12 to 15

    private static void go() {
        VoltSlopes x = with("N1;R0;Z0;D22000001");
        for (int n : new int[] {0, 9, -1, LOW, HIGH}) {
            due("12: go(" + n + ")", x.go(n), OUTSIDE);
        }
        due("12: refusals change nothing", x.count(1), 0);
        due("12: all over", x.go(8), 8);
        due("12: how many", x.count(1), 8);
        due("12: over", x.count(2), 8);
        due("12: no value of theirs is filtered", x.filter(2), 0);
        x.dc(22000000);
        due("12: just not over", x.go(1), 0);
        due("12: filtered", x.filter(2), 1);
        VoltSlopes y = with("N1;D625");
        y.go(1);
        dueReading("12: up two ranges, and a zero", y, 1, 625, 0, 2, 0, 4, 0, y.about(9));
    }

    private static void rangesFound() {
        VoltSlopes x = with("N1;R2;A;Z0;D25000000");
        due("12: over at the least range", x.go(1), 1);
        due("12: down two", x.reading(0, 5), 3);
        due("12: to the least one", x.about(0), 0);
        due("12: made less twice", x.count(6), 2);
        due("12: cut", x.reading(0, 1), 22000000);
        VoltSlopes z = with("N2;R0;Z0;A");
        z.hum(2000000, 1);
        z.dc(500000);
        z.go(1);
        // 500000 on the mean is too small for range 0 and right for range 1, but there 2500000 microvolts are cut
        due("12: not up again behind down", z.about(0), 0);
        due("12: up once", z.count(5), 1);
        due("12: down once", z.count(6), 1);
        due("12: three conversions", z.reading(0, 5), 3);
        VoltSlopes w = with("N1;R1;Z0;D625");
        w.go(2);
        due("12: no range found with auto off", w.about(0), 1);
        due("12: one conversion", w.reading(0, 5), 1);
    }

    private static void rangesKeptAtBounds() {
        int[][] cases = {
            // DC, range at first, range at the end: N 1, so that SUM is ten times DC and gain
            {1500000, 0, 0}, {-1500000, 0, 0}, {1499375, 0, 1}, {-1499375, 0, 1},
            {2100000, 1, 1}, {-2100000, 1, 1}, {2100063, 1, 0}, {-2100063, 1, 0},
            {210000, 2, 2}, {-210000, 2, 2}, {210007, 2, 1}, {-210007, 2, 1},
            {150000, 1, 1}, {-150000, 1, 1}, {149937, 1, 2}, {-149937, 1, 2},
            {25000000, 0, 0}, {-25000000, 0, 0},
        };
        for (int[] c : cases) {
            VoltSlopes x = with("N1;R" + c[1] + ";A;Z0;D" + c[0]);
            x.go(1);
            due("12: range for " + c[0] + " from " + c[1], x.about(0), c[2]);
        }
    }

    private static void convert() {
        VoltSlopes x = with("N1;R0;D1000000");
        for (int shorted : new int[] {-1, 2, LOW, HIGH}) {
            due("13: convert(" + shorted + ")", x.convert(shorted), OUTSIDE);
        }
        due("13: refusals change nothing", x.latest(0), STATE);
        due("13: of input", x.convert(0), 0);
        dueLatest("13: of input", x, 9, 1, 1, -9, 10, -4, 0, 0, 0, 10, 0, 10, 0, 0, 0);
        due("13: ticks", x.about(9), 33);
        due("13: no reading", x.count(1), 0);
        due("13: no reading kept", x.reading(0, 0), UNKNOWN);
        due("13: nothing filtered", x.filter(2), 0);
        due("13: shorted", x.convert(1), 0);
        dueLatest("13: shorted", x, 9, 1, 1, -8, 0, 0, 0, 0, 0, 0, 0, 0, 0, 1, 0);
        due("13: no zero kept", x.zero(0, 0), STATE);
        x.dc(22000000);
        due("13: just not over", x.convert(0), 0);
        x.dc(22000001);
        due("13: over", x.convert(0), 1);
        due("13: cut", x.latest(11), 220);
        x.dc(-22000001);
        due("13: over below", x.convert(0), 1);
        due("13: cut below", x.latest(11), -220);
        due("13: shorted is not over", x.convert(1), 0);
        VoltSlopes y = with("N1;R1;A;D2200001");
        due("13: over at range 1", y.convert(0), 1);
        due("13: range is not looked for", y.about(0), 1);
    }

    private static void cycles() {
        // The first cycle leaves 214800000: the next leans the other way, and takes 194800000 of it; then again
        VoltSlopes x = with("N3;R0;D1000000");
        x.convert(0);
        due("13: plus", x.latest(0), 9 + 1 + 1);
        due("13: minus", x.latest(1), 1 + 9 + 9);
        due("13: switched as often", x.latest(2), 5);
        due("13: sum", x.latest(9), 30);
        for (int volts : new int[] {0, 7000000, -7000000, 22000000, -25000000}) {
            VoltSlopes y = with("N50;R0;D" + volts);
            y.convert(0);
            due("13: switched as often by " + volts, y.latest(2), 99);
            due("13: ticks of all by " + volts, y.latest(0) + y.latest(1), 500);
        }
        // Behind the first cycle the charge is just 0, and with that hum, which adds 1 in ten ticks, just above it
        VoltSlopes even = with("N2;R0;D-20480000");
        even.convert(0);
        due("13: it leans up from 0", even.latest(0), 18);
        VoltSlopes above = with("N2;R0;D-20480000");
        above.hum(1, 0);
        above.convert(0);
        due("13: it leans down from 1", above.latest(0), 10);
        VoltSlopes z = with("N1;R0;D-1");
        z.convert(0);
        dueLatest("13: what is left", z, 9, 1, 1, -8, 1, -16, 1, 6240, 0, 0, -6250, 0, -10, 0, 0);
    }

    private static void sweep() {
        VoltSlopes x = with("N1;R0;D77");
        int[][] outside = {
            {25000001, 0, 1}, {-25000001, 0, 1}, {0, 0, 0}, {0, 0, 9}, {0, 0, -1}, {25000000, 1, 2}, {-25000000, -1, 2},
            {0, 25000001, 2}, {0, HIGH, 8}, {0, LOW, 8}, {LOW, 0, 1}, {0, 3571429, 8}, {0, 0, HIGH},
        };
        long before = x.digest();
        for (int[] a : outside) {
            due("14: sweep(" + a[0] + ", " + a[1] + ", " + a[2] + ")", x.sweep(a[0], a[1], a[2]), OUTSIDE);
        }
        due("14: refusals change nothing", x.digest(), before);
        due("14: -1 and 1", x.sweep(-1, 2, 2), 6240);
        due("14: dc is what it was", x.about(6), 77);
        due("14: conversions", x.count(3), 2);
        due("14: no readings", x.count(1), 0);
        due("14: the latest is of the last", x.latest(12), 10);
        due("14: 1 and 0", x.sweep(1, -1, 2), 10);
        due("14: none away", x.sweep(0, 625, 3), 0);
        due("14: what flowed last", x.latest(12), 12500);
        due("14: any step does for one", x.sweep(25000000, HIGH, 1), 0);
        due("14: up to the bounds", x.sweep(-25000000, 6250000, 8) >= 0 ? 1 : 0, 1);
        due("14: just to the bound", x.sweep(0, 25000000, 2), 0);
        due("14: cut at the bound", x.latest(8), 1);
    }

    private static void clear() {
        VoltSlopes x = with("N1;R0;Z1;D625;F3");
        due("15: of none", x.clear(), 0);
        x.go(2);
        due("15: kept", x.zero(0, 3), 2);
        due("15: of two", x.clear(), 2);
        due("15: emptied", x.filter(2), 0);
        due("15: no mean", x.filter(0), 0);
        due("15: zeros gone", x.zero(0, 0), STATE);
        due("15: readings stay", x.reading(0, 0), 2);
        x.go(5);
        due("15: of as many as there may be", x.clear(), 3);
        set(x, "Z2;G2");
        due("15: kept anew", x.zero(0, 3), 8);
        x.clear();
        set(x, "G1");
        due("15: a cleared zero is taken again", x.reading(0, 5), 2);
    }

    // ---- promises 16 to 24

    private static void latest() {
        VoltSlopes x = with("N1;R1;D-100000;Z0");
        for (int what : new int[] {-1, 15, LOW, HIGH}) {
            due("16: latest(" + what + ")", x.latest(what), OUTSIDE);
        }
        for (int what = 0; what < 15; what++) {
            due("16: none yet", x.latest(what), STATE);
        }
        x.go(1);
        // -1000000 out in each tick: 204800000 less 10000000 of charge, run down from 194800000
        dueLatest("16", x, 9, 1, 1, -8, 7, -12, 0, 0, 0, -10, 0, -10, 0, 0, 1);
        x.convert(1);
        due("16: shorted", x.latest(13), 1);
        set(x, "R2");
        due("16: range at which it was", x.latest(14), 1);
        due("16: wrong numbers are told still", x.latest(15), OUTSIDE);
    }

    private static void reading() {
        VoltSlopes x = with("N1;R0;Z0;D625");
        due("17: none", x.reading(0, 0), UNKNOWN);
        due("17: place is told first", x.reading(0, 8), UNKNOWN);
        x.go(1);
        due("17: none at 1", x.reading(1, 0), UNKNOWN);
        due("17: below 0", x.reading(-1, 0), UNKNOWN);
        for (int what : new int[] {-1, 8, LOW, HIGH}) {
            due("17: reading(0, " + what + ")", x.reading(0, what), OUTSIDE);
        }
        dueReading("17", x, 1, 625, 0, 0, 0, 1, 0, x.about(9));
        x.go(8);
        x.go(5);
        due("17: the latest", x.reading(0, 0), 14);
        due("17: the oldest of twelve", x.reading(11, 0), 3);
        due("17: twelve are kept", x.reading(12, 0), UNKNOWN);
        due("17: far beyond", x.reading(HIGH, HIGH), UNKNOWN);
        due("17: far below", x.reading(LOW, 0), UNKNOWN);
        due("17: they end one behind the other", x.reading(0, 7) - x.reading(1, 7), x.reading(10, 7) - x.reading(11, 7));
        // -1 microvolt is read as -6250 microvolts in ten ticks: -625000 nanovolts; 8 cycles make it finer
        VoltSlopes y = with("N8;R0;Z0;D-100");
        y.go(1);
        due("17: rests bear the sign", y.reading(0, 1) * 1000L + y.reading(0, 2), (y.latest(9) * 1000000L + y.latest(10)) * 100 / 8);
        due("17: and are below 1000", y.reading(0, 2) <= 0 && y.reading(0, 2) > -1000 ? 1 : 0, 1);
        VoltSlopes z = with("N1;R0;Z1;D25000000");
        z.go(1);
        dueReading("17: over", z, 1, 22000000, 0, 0, 1, 2, 0, z.about(9));
    }

    private static void filter() {
        VoltSlopes x = with("N1;R0;Z0;F3");
        for (int what : new int[] {-1, 6, LOW, HIGH}) {
            due("18: filter(" + what + ")", x.filter(what), OUTSIDE);
        }
        dueFilter("18: empty", x, 0, 0, 0, 0, 0, 0);
        set(x, "D625;G1;D-1250;G1");
        dueFilter("18: two", x, -312, -500, 2, 0, -1250, 625);
        set(x, "D1875;G1");
        dueFilter("18: settled", x, 416, 666, 3, 1, -1250, 1875);
        set(x, "D625;G1");
        dueFilter("18: the oldest goes", x, 416, 666, 3, 1, -1250, 1875);
        set(x, "D2500;G1");
        dueFilter("18: the least goes", x, 1666, 666, 3, 1, 625, 2500);
        set(x, "F2");
        dueFilter("18: another K", x, 1562, 500, 2, 1, 625, 2500);
        set(x, "F16");
        dueFilter("18: a greater K", x, 1562, 500, 2, 0, 625, 2500);
        set(x, "F1");
        dueFilter("18: the latest alone", x, 2500, 0, 1, 1, 2500, 2500);
        set(x, "F16;G9;G9");
        due("18: sixteen at most", x.filter(2), 16);
    }

    private static void jumps() {
        VoltSlopes x = with("N1;R0;Z0;W625;D1000000;G2;D1000625;G1");
        due("18: as far as the window is none", x.reading(0, 6), 0);
        due("18: three", x.filter(2), 3);
        VoltSlopes y = with("N1;R0;Z0;W624;D1000000;G2;D1000625;G1");
        due("18: beyond the window", y.reading(0, 6), 1);
        dueFilter("18: begins anew", y, 1000625, 0, 1, 0, 1000625, 1000625);
        due("18: a jump", y.count(7), 1);
        set(y, "D1000000;G1");
        due("18: down, too", y.reading(0, 6), 1);
        due("18: the one ahead is told still", y.reading(1, 6), 1);
        set(y, "D25000000;G1");
        due("18: over is no jump", y.reading(0, 6), 0);
        due("18: over leaves it", y.filter(0), 1000000);
        set(y, "W0;D2000000;G1");
        due("18: no window, no jump", y.reading(0, 6), 0);
        due("18: both are held", y.filter(2), 2);
        y.clear();
        set(y, "W1;D5000000;G1");
        due("18: none behind an empty one", y.reading(0, 6), 0);
        due("18: jumps", y.count(7), 2);
    }

    private static void held() {
        VoltSlopes x = with("N8;R0;Z0;F2;D625;G1;D-100;G1");
        due("19: the oldest", x.held(0, 0), 625);
        due("19: its rest", x.held(0, 1), 0);
        due("19: the latest", x.held(1, 0), x.reading(0, 1));
        due("19: its rest", x.held(1, 1), x.reading(0, 2));
        due("19: beyond", x.held(2, 0), UNKNOWN);
        due("19: below", x.held(-1, 0), UNKNOWN);
        due("19: far", x.held(HIGH, HIGH), UNKNOWN);
        due("19: part 2", x.held(0, 2), OUTSIDE);
        due("19: part -1", x.held(1, -1), OUTSIDE);
        due("19: place is told first", x.held(2, 2), UNKNOWN);
        set(x, "D1250;G1");
        due("19: the oldest went", x.held(1, 0), 1250);
        due("19: beyond still", x.held(2, 0), UNKNOWN);
    }

    private static void about() {
        VoltSlopes x = with("N2;R1;Z2;F5;W6;D7");
        x.amplifier(-8, 1);
        x.seed(9);
        int[] abouts = {1, 0, 2, 2, 5, 6, 7, -8, 9, 0};
        for (int i = 0; i < abouts.length; i++) {
            due("20: about(" + i + ")", x.about(i), abouts[i]);
        }
        for (int what : new int[] {-1, 10, LOW, HIGH}) {
            due("20: about(" + what + ")", x.about(what), OUTSIDE);
        }
        VoltSlopes y = with("N1;R0;D1000000");
        y.convert(0);
        due("20: ticks of the cycle and of running down", y.about(9), 10 + 9 + 10 + 4);
    }

    private static void zero() {
        VoltSlopes x = with("N1;R0;Z1");
        x.amplifier(-626, 0);
        for (int[] a : new int[][] {{-1, 0}, {3, 0}, {0, -1}, {0, 4}, {LOW, LOW}, {HIGH, HIGH}}) {
            due("21: zero(" + a[0] + ", " + a[1] + ")", x.zero(a[0], a[1]), OUTSIDE);
        }
        due("21: none", x.zero(0, 0), STATE);
        x.go(2);
        // -6260 flow; 204793740 is run down by 8, 1, 16 and 2 slopes: -6250 less
        due("21: its sum", x.zero(0, 0), -12);
        due("21: its rest", x.zero(0, 1), -500);
        due("21: its cycles", x.zero(0, 2), 1);
        due("21: its reading", x.zero(0, 3), 2);
        due("21: none of another", x.zero(1, 0), STATE);
        set(x, "R2;N3;G1");
        due("21: its own of each", x.zero(0, 3), 2);
        due("21: of range 2", x.zero(2, 3), 3);
        due("21: cycles of range 2", x.zero(2, 2), 3);
        due("21: sum as latest tells", x.zero(2, 0) * 1000L + x.zero(2, 1), x.latest(9) * 1000000L + x.latest(10));
        VoltSlopes y = with("N1;R0;Z0;G3");
        due("21: no zeroing keeps none", y.zero(0, 0), STATE);
        due("21: and takes none", y.count(4), 0);
    }

    private static void zerosKept() {
        VoltSlopes x = with("N1;R0;Z2");
        int[] conversions = {2, 1, 1, 1, 1, 2, 1};
        for (int i = 0; i < conversions.length; i++) {
            x.go(1);
            due("21: conversions of reading " + (i + 1), x.reading(0, 5), conversions[i]);
        }
        due("21: kept anew", x.zero(0, 3), 6);
        set(x, "N2;G1");
        due("21: as many cycles", x.reading(0, 5), 2);
        set(x, "R1;G1");
        due("21: of its range", x.reading(0, 5), 2);
        set(x, "R0;G1");
        due("21: of the other range still", x.reading(0, 5), 1);
        VoltSlopes y = with("N1;R0;Z1;G1;Z2;G1");
        due("21: zeroing 1 keeps, too", y.reading(0, 5), 1);
        VoltSlopes z = with("N1;R0;Z1;D625");
        z.amplifier(1250, 0);
        z.go(1);
        due("21: taken off", z.reading(0, 1), 625);
        set(z, "Z0;G1");
        due("21: not taken off", z.reading(0, 1), 1875);
    }

    private static void input() {
        VoltSlopes x = new VoltSlopes();
        x.dc(5);
        x.hum(3, 0);
        int[] sine = {0, 0, 1, 2, 2, 3, 2, 2, 1, 0, 0, 0, -1, -2, -2, -3, -2, -2, -1, 0};
        for (int i = 0; i < 20; i++) {
            due("22: sine at " + i, x.input(i), 5 + sine[i]);
            due("22: sine at " + (i + 2000), x.input(i + 2000), 5 + sine[i]);
        }
        x.hum(2000, 1);
        due("22: square", x.input(0), 2005);
        due("22: square at 9", x.input(9), 2005);
        due("22: square at 10", x.input(10), -1995);
        due("22: square at 19", x.input(19), -1995);
        x.hum(1000, 2);
        for (int i = 0; i < 20; i++) {
            due("22: ramp at " + i, x.input(i), 100 * i - 945);
        }
        due("22: the last tick", x.input(HIGH), 100 * (HIGH % 20) - 945);
        due("22: below 0", x.input(-1), OUTSIDE);
        due("22: far below 0", x.input(LOW), OUTSIDE);
        x.noise(10000);
        due("22: without noise", x.input(0), -945);
        due("22: nothing is drawn", x.about(8), 1);
    }

    private static void count() {
        VoltSlopes x = with("N1;A;Z1;W1");
        x.go(1);
        x.dc(25000000);
        x.go(2);
        x.dc(5000000);
        x.go(1);
        x.convert(1);
        write(x, "N1");
        // up twice and a zero: 4; down twice and a zero: 4; a zero: 2; a zero: 2, a jump; alone: 1
        int[] counts = {2, 4, 2, 13, 5, 2, 2, 1, 1};
        for (int i = 0; i < counts.length; i++) {
            due("23: count(" + i + ")", x.count(i), counts[i]);
        }
        for (int what : new int[] {-1, 9, LOW, HIGH}) {
            due("23: count(" + what + ")", x.count(what), OUTSIDE);
        }
        x.set();
        due("23: read twice", x.count(8), 2);
        x.set();
        due("23: a refusal is not counted", x.count(8), 2);
    }

    private static void digest() {
        VoltSlopes x = with("N2;A;Z2;F3;D625");
        x.hum(1000, 2);
        x.amplifier(100, 3);
        x.go(8);
        x.go(7);
        set(x, "R0;G2");
        write(x, "D-5");
        long h = 1601;
        for (int i = 0; i < 10; i++) {
            h = 31 * h + x.about(i);
        }
        for (int i = 0; i < 15; i++) {
            h = 31 * h + x.latest(i);
        }
        for (int i = 0; i < 12 * 8; i++) {
            h = 31 * h + x.reading(i / 8, i % 8);
        }
        for (int i = 0; i < 6; i++) {
            h = 31 * h + x.filter(i);
        }
        for (int i = 0; i < 3 * 2; i++) {
            h = 31 * h + x.held(i / 2, i % 2);
        }
        due("24: range 1 has no zero", x.zero(1, 0), STATE);
        for (int i = 0; i < 4; i++) {
            h = 31 * h + x.zero(0, i);
        }
        for (int i = 0; i < 4; i++) {
            h = 31 * h + x.zero(2, i);
        }
        for (int i = 0; i < 20; i++) {
            h = 31 * h + x.input(i);
        }
        for (int code : new int[] {'D', '-', '5'}) {
            h = 31 * h + code;
        }
        for (int i = 0; i < 9; i++) {
            h = 31 * h + x.count(i);
        }
        due("24: digest", x.digest(), h);
        due("24: again", x.digest(), h);
        x.blank();
        due("24: another one", x.digest() == h ? 1 : 0, 0);
    }

    // ---- README.md

    private static void exampleOfReadme() {
        VoltSlopes x = new VoltSlopes();
        x.dc(1234567);
        x.hum(1000000, 0);
        due("README: settings", set(x, "N20;Z2;F8;W100"), 0);
        due("README: over", x.go(8), 0);
        due("README: the mean", x.filter(0), 1234593);
        due("README: what is left", x.latest(7), -5350);
        due("README: the range", x.about(0), 0);
    }
}

import java.util.function.Consumer;
import java.util.function.ToLongFunction;

/**
 * The boundary cases of promises 1 to 24, call by call: each number at its bound, one short of it and one beyond it,
 * empty and full, each refusal in the order that the call tells, and that a refusal changed nothing.
 */
public final class VoltSlopesCallBounds {
    private static final int UNKNOWN = -1000000001, OUTSIDE = -1000000002, STATE = -1000000003, FULL = -1000000004;
    private static final int LOW = Integer.MIN_VALUE, HIGH = Integer.MAX_VALUE;
    private static final int[] FAR = {LOW, LOW + 1, FULL, UNKNOWN, HIGH - 1, HIGH};
    private static int wrong = 0;

    public static void main(String[] args) {
        newObjects();
        letterCodes();
        letterFull();
        blank();
        faultPlaces();
        faultOfMinus();
        faultAtBounds();
        setAtBounds();
        setRefused();
        setInOrder();
        dc();
        hum();
        noise();
        seed();
        amplifier();
        correct();
        go();
        convert();
        sweepNumbers();
        sweepBounds();
        sweepAnswers();
        clear();
        latest();
        reading();
        filter();
        held();
        about();
        zero();
        input();
        count();
        digestOfParts();
        digestSeesEach();
        asksChangeNothing();
        nothingThrows();
        System.out.println(wrong == 0 ? "all bounds of the calls hold" : wrong + " answers at the calls' bounds are wrong");
        if (wrong != 0) {
            System.exit(1);
        }
    }

    private static void due(String what, long got, long want) {
        if (got != want) {
            wrong++;
            System.out.println(what + " answered " + got + ", due is " + want);
        }
    }

    private static void write(VoltSlopes x, String text) {
        for (char c : text.toCharArray()) {
            x.letter(c);
        }
    }

    private static int set(VoltSlopes x, String text) {
        write(x, text);
        return x.set();
    }

    private static VoltSlopes with(String text) {
        VoltSlopes x = new VoltSlopes();
        due("settings \"" + text + "\" are read", text.length() > 40 || set(x, text) == STATE ? 0 : 1, 1);
        return x;
    }

    // ---- refusals

    /** All that an object tells, and all that it hides and shows only by what it does later. */
    private static long traceOf(VoltSlopes x) {
        long h = x.digest();
        h = 31 * h + x.convert(0);
        h = 31 * h + x.digest();
        h = 31 * h + x.go(3);
        h = 31 * h + x.digest();
        h = 31 * h + x.amplifier(0, 0);
        h = 31 * h + x.correct(0, 0);
        h = 31 * h + x.noise(0);
        h = 31 * h + x.hum(0, 0);
        h = 31 * h + x.seed(0);
        h = 31 * h + x.fault();
        h = 31 * h + x.set();
        h = 31 * h + x.blank();
        return 31 * h + x.digest();
    }

    private static VoltSlopes fresh() {
        return new VoltSlopes();
    }

    /** Every setting is another one than at first, every row has something in it. */
    private static VoltSlopes busy() {
        VoltSlopes x = new VoltSlopes();
        x.dc(123456);
        x.hum(3000, 2);
        x.noise(77);
        x.seed(4321);
        x.amplifier(-150, 7);
        x.correct(-321, 654);
        set(x, "N3;Z2;F3;W40;G4");
        set(x, "R0;G2;A;G2");
        write(x, "N7;G1");
        return x;
    }

    private static VoltSlopes full() {
        VoltSlopes x = busy();
        x.blank();
        set(x, "N1;F16;W0;G9;G9");
        write(x, "G1;G1;G1;G1;G1;G1;G1;G1;G1;G1;G1;G1;G1;G");
        return x;
    }

    /** The call answers so on each of the objects, and leaves it as one is that was not called. */
    private static void refused(String call, ToLongFunction<VoltSlopes> asked, long want) {
        VoltSlopes[] called = {fresh(), busy(), full()};
        VoltSlopes[] uncalled = {fresh(), busy(), full()};
        for (int i = 0; i < called.length; i++) {
            due(call + " on object " + i, asked.applyAsLong(called[i]), want);
            due(call + " changes nothing of object " + i, traceOf(called[i]), traceOf(uncalled[i]));
        }
    }

    // ---- promise 1

    /** "All as at first." */
    private static void newObjects() {
        VoltSlopes busy = busy();
        due("a busy object is another one", busy.digest() == fresh().digest() ? 1 : 0, 0);
        due("new objects are alike", traceOf(fresh()), traceOf(fresh()));
        int[] abouts = {0, 1, 10, 1, 4, 0, 0, 0, 1, 0};
        VoltSlopes x = fresh();
        for (int i = 0; i < abouts.length; i++) {
            due("first about(" + i + ")", x.about(i), abouts[i]);
        }
        due("first factor", x.correct(0, 0), 0);
        due("first offset", x.amplifier(0, 0), 0);
        due("first noise", x.noise(0), 0);
        due("first hum", x.hum(0, 0), 0);
        due("first seed", x.seed(1), 1);
        due("first dc", x.dc(0), 0);
        due("those are what it had", traceOf(x), traceOf(fresh()));
    }

    // ---- promises 2 to 5

    /** "OUTSIDE: code (32 to 126)" */
    private static void letterCodes() {
        VoltSlopes x = fresh();
        int[] codes = {32, 33, 125, 126};
        for (int i = 0; i < codes.length; i++) {
            due("letter(" + codes[i] + ")", x.letter(codes[i]), i + 1);
        }
        for (int code : new int[] {31, 127, 0, -1, 128, 256 + 65, 65536 + 65, LOW, HIGH}) {
            refused("letter(" + code + ")", y -> y.letter(code), OUTSIDE);
        }
    }

    /** "FULL: above 40" */
    private static void letterFull() {
        VoltSlopes x = fresh();
        for (int i = 1; i <= 40; i++) {
            due("letter " + i, x.letter('A' + i % 26), i);
        }
        long before = x.digest();
        due("letter 41", x.letter('A'), FULL);
        due("letter 41 again", x.letter(';'), FULL);
        due("a wrong code is told ahead of full", x.letter(31), OUTSIDE);
        due("a wrong code is told ahead of full", x.letter(127), OUTSIDE);
        due("it changed nothing", x.digest(), before);
        due("there are forty", x.count(0), 40);
        due("blank makes room", x.blank(), 40);
        due("the first again", x.letter('A'), 1);
        VoltSlopes y = full();
        VoltSlopes z = full();
        due("full", y.letter('A'), FULL);
        due("full changes nothing", traceOf(y), traceOf(z));
    }

    /** "THE PAGE is empty: how many letters it had." */
    private static void blank() {
        VoltSlopes x = fresh();
        due("blank of none", x.blank(), 0);
        for (int length : new int[] {1, 2, 39, 40}) {
            for (int i = 0; i < length; i++) {
                x.letter('N');
            }
            due("blank of " + length, x.blank(), length);
            due("none behind " + length, x.count(0), 0);
            due("blank again", x.blank(), 0);
            due("fault of none", x.fault(), 0);
        }
        due("blank leaves all else", traceOf(x), traceOf(fresh()));
    }

    private static void dueFault(String text, int want) {
        VoltSlopes x = fresh();
        write(x, text);
        long before = x.digest();
        due("fault of \"" + text + "\"", x.fault(), want);
        due("fault of \"" + text + "\" changes nothing", x.digest(), before);
    }

    /** Behind whole commands the same letter is wrong, as much further on. */
    private static void dueFaultBoth(String text, int want) {
        dueFault(text, want);
        dueFault("A;" + text, want + 2);
        dueFault("D-7;" + text, want + 4);
    }

    /** "The place (from 0) of the first letter of THE PAGE that no text of SETTINGS has there, behind those ahead of it" */
    private static void faultPlaces() {
        dueFault("", 0);
        dueFault("ANRZFWDG", 1);
        for (int code = 32; code <= 126; code++) {
            boolean begins = "NRAZFWDG".indexOf(code) >= 0;
            dueFaultBoth("" + (char) code, begins ? 1 : 0);
            dueFaultBoth("A" + (char) code, code == ';' ? 2 : 1);
            dueFaultBoth("N" + (char) code, code >= '0' && code <= '9' ? 2 : 1);
            dueFaultBoth("D" + (char) code, code == '-' || code >= '0' && code <= '9' ? 2 : 1);
            dueFaultBoth("D-" + (char) code, code >= '1' && code <= '9' ? 3 : 2);
            dueFaultBoth("N4" + (char) code, code == ';' || code >= '0' && code <= '9' ? 3 : 2);
            dueFaultBoth("W0" + (char) code, code == ';' ? 3 : 2);
            dueFaultBoth("G3" + (char) code, code == ';' ? 3 : 2);
        }
        dueFault("A;A;A;A;A;A;A;A;A;A;A;A;A;A;A;A;A;A;A;A;", 40);
        dueFault("A;A;A;A;A;A;A;A;A;A;A;A;A;A;A;A;A;A;A;;A", 38);
        dueFault("A;A;A;A;A;A;A;A;A;A;A;A;A;A;A;A;A;A;A;AA", 39);
    }

    private static void faultOfMinus() {
        for (char command : "NRZFWG".toCharArray()) {
            dueFaultBoth(command + "-", 1);
            dueFaultBoth(command + "-0", 1);
            dueFaultBoth(command + "-1", 1);
            dueFaultBoth(command + "1-", 2);
        }
        dueFaultBoth("A-", 1);
        dueFaultBoth("-", 0);
        dueFaultBoth("D-", 2);
        dueFaultBoth("D-0", 2);
        dueFaultBoth("D-0;", 2);
        dueFaultBoth("D-00", 2);
        dueFaultBoth("D-01", 2);
        dueFaultBoth("D--", 2);
        dueFaultBoth("D-;", 2);
        dueFaultBoth("D-1", 3);
        dueFaultBoth("D-1-", 3);
        dueFaultBoth("D1-", 2);
        dueFaultBoth("D0-", 2);
    }

    /** "(A number that is too great, or too far below 0, is wrong at the figure by which it becomes that; one that is too small otherwise at the letter behind it.)" */
    private static void faultAtBounds() {
        String[] whole = {"N1", "N49", "N50", "R0", "R1", "R2", "Z0", "Z1", "Z2", "F1", "F15", "F16", "W0", "W1", "W99998", "W99999",
            "D0", "D1", "D24999999", "D25000000", "D-1", "D-24999999", "D-25000000", "G1", "G8", "G9", "A"};
        for (String text : whole) {
            dueFaultBoth(text, text.length());
            dueFaultBoth(text + ";", text.length() + 1);
            dueFaultBoth(text + ";;", text.length() + 1);
            dueFaultBoth(text + "A", text.length());
        }
        String[] great = {"N51", "N52", "N59", "N60", "N99", "N100", "N500", "N509", "R3", "R9", "R10", "R20", "Z3", "Z9", "Z10", "F17", "F19", "F20",
            "F160", "W100000", "W999990", "D25000001", "D25000009", "D250000000", "D-25000001", "D-25000009", "D-250000000", "G10", "G90"};
        int[] places = {2, 2, 2, 2, 2, 3, 3, 3, 1, 1, 2, 2, 1, 1, 2, 2, 2, 2,
            3, 6, 6, 8, 8, 9, 9, 9, 10, 2, 2};
        for (int i = 0; i < great.length; i++) {
            dueFaultBoth(great[i], places[i]);
            dueFaultBoth(great[i] + ";A", places[i]);
        }
        dueFaultBoth("D25000010", 8);
        dueFaultBoth("D25000100", 8);
        dueFaultBoth("D2501", 5);
        dueFaultBoth("D30000000", 8);
        dueFaultBoth("D-30000000", 9);
        dueFault("D9999999999999999999999999999999999999", 8);
        dueFault("D-999999999999999999999999999999999999", 9);
        dueFault("W9223372036854775808", 6);
        for (char small : "NFG".toCharArray()) {
            dueFaultBoth(small + "0", 2);
            for (String behind : new String[] {";", "0", "1", "9", "A", "-", " "}) {
                dueFaultBoth(small + "0" + behind, 2);
            }
        }
    }

    private static void dueSet(String text, int what, int want) {
        VoltSlopes x = fresh();
        due("set of \"" + text + "\"", set(x, text), text.charAt(0) == 'G' ? want : 0);
        due("\"" + text + "\" is done", text.charAt(0) == 'G' ? x.count(1) : x.about(what), want);
        due("\"" + text + "\" leaves an empty page", x.count(0), 0);
        due("\"" + text + "\" is counted", x.count(8), 1);
        due("auto behind \"" + text + "\"", x.about(1), text.charAt(0) == 'R' ? 0 : 1);
    }

    /** The numbers of each COMMAND at their bounds and one short of them. */
    private static void setAtBounds() {
        int[] ns = {1, 2, 49, 50};
        for (int n : ns) {
            dueSet("N" + n, 2, n);
        }
        for (int n = 0; n <= 2; n++) {
            dueSet("R" + n, 0, n);
            dueSet("Z" + n, 3, n);
        }
        for (int n : new int[] {1, 2, 15, 16}) {
            dueSet("F" + n, 4, n);
        }
        for (int n : new int[] {0, 1, 9, 10, 99998, 99999}) {
            dueSet("W" + n, 5, n);
        }
        for (int n : new int[] {0, 1, -1, 9, -9, 10, -10, 24999999, -24999999, 25000000, -25000000}) {
            dueSet("D" + n, 6, n);
        }
        for (int n : new int[] {1, 2, 8, 9}) {
            dueSet("G" + n, 0, n);
        }
        dueSet("A", 1, 1);
        VoltSlopes x = with("N1;R0;Z0");
        due("a page of forty letters", set(x, "G9;G9;G9;G9;G9;G9;G9;G9;G9;G9;G9;G9;G9;A"), 117);
        due("readings of it", x.count(1), 117);
    }

    /** "STATE: it is none (one of no letters is none)." */
    private static void setRefused() {
        String[] none = {"", ";", "N", "N0", "N51", "N-1", "N5;", ";N5", "N5;;N5", "N05", "R3", "R-1", "R", "A0", "A;", "AA", "Z3", "Z", "F0", "F17", "F",
            "W100000", "W00", "W-1", "W", "D", "D-", "D-0", "D00", "D25000001", "D-25000001", "G0", "G10", "G", "g1", " G1", "G1 ", "G1,G1", "+", "D+1",
            "N5;R1;Z2;F2;W5;D5;G2;X", "N5;R1;Z2;F2;W5;D5;G2;G0", "D1;N2;G1;", "R1;A;N0", "G1;G1;G1;G1;G1;G1;G1;G1;G1;G1;G1;G1;G1;G"};
        for (String text : none) {
            VoltSlopes[] x = {fresh(), busy(), full()};
            VoltSlopes[] y = {fresh(), busy(), full()};
            for (int i = 0; i < x.length; i++) {
                x[i].blank();
                y[i].blank();
                write(x[i], text);
                write(y[i], text);
                due("set of \"" + text + "\" on object " + i, x[i].set(), STATE);
                due("\"" + text + "\" is on the page still", x[i].count(0), text.length());
                due("set of \"" + text + "\" changes nothing of object " + i, traceOf(x[i]), traceOf(y[i]));
            }
        }
    }

    /** "done COMMAND by COMMAND" */
    private static void setInOrder() {
        VoltSlopes x = with("N1;R2;R1;Z0;Z2;F3;F5;W3;W0;D5;D-5;A;R0");
        int[] abouts = {0, 0, 1, 2, 5, 0, -5};
        for (int i = 0; i < abouts.length; i++) {
            due("the latter counts: about(" + i + ")", x.about(i), abouts[i]);
        }
        VoltSlopes y = with("N1;R0;Z0;D625;G1;D1250;G1;N2;G1");
        due("the first by what was set ahead of it", y.reading(2, 1), 625);
        due("the second", y.reading(1, 1), 1250);
        due("cycles of the third", y.latest(0) + y.latest(1), 20);
        VoltSlopes z = with("N1;R1;A;D0;Z0;G1");
        due("auto begins at the range that stays", z.reading(0, 5), 2);
        VoltSlopes w = with("N1;Z0;R2;A;R0;G1");
        due("auto is off again", w.reading(0, 5), 1);
    }

    // ---- promises 6 to 11

    private static void dc() {
        VoltSlopes x = fresh();
        int was = 0;
        for (int v : new int[] {25000000, 24999999, -24999999, -25000000, 1, -1, 0}) {
            due("dc(" + v + ")", x.dc(v), was);
            due("dc is " + v, x.about(6), v);
            due("input by dc " + v, x.input(0), v);
            was = v;
        }
        for (int v : new int[] {25000001, -25000001, LOW, HIGH}) {
            refused("dc(" + v + ")", y -> y.dc(v), OUTSIDE);
        }
    }

    private static void hum() {
        VoltSlopes x = fresh();
        int was = 0;
        for (int h : new int[] {2000000, 1999999, 1, 0}) {
            for (int wave = 0; wave <= 2; wave++) {
                due("hum(" + h + ", " + wave + ")", x.hum(h, wave), was);
                due("its wave at 5", x.input(5), wave == 0 || wave == 1 ? h : h * -450L / 1000);
                due("its wave at 1", x.input(1), wave == 0 ? h * 309L / 1000 : wave == 1 ? h : h * -850L / 1000);
                was = h;
            }
        }
        for (int[] a : new int[][] {{-1, 0}, {2000001, 0}, {0, -1}, {0, 3}, {5, -1}, {5, 3}, {-1, 3}, {LOW, 0}, {HIGH, 0}, {0, LOW}, {0, HIGH}}) {
            refused("hum(" + a[0] + ", " + a[1] + ")", y -> y.hum(a[0], a[1]), OUTSIDE);
        }
    }

    private static void noise() {
        VoltSlopes x = fresh();
        int was = 0;
        for (int v : new int[] {10000, 9999, 1, 0, 5}) {
            due("noise(" + v + ")", x.noise(v), was);
            was = v;
        }
        for (int v : new int[] {-1, 10001, LOW, HIGH}) {
            refused("noise(" + v + ")", y -> y.noise(v), OUTSIDE);
        }
    }

    private static void seed() {
        VoltSlopes x = fresh();
        int was = 1;
        for (int v : new int[] {0, 1, HIGH - 1, HIGH, 2}) {
            due("seed(" + v + ")", x.seed(v), was);
            due("seed is " + v, x.about(8), v);
            was = v;
        }
        for (int v : new int[] {-1, -2, LOW, LOW + 1}) {
            refused("seed(" + v + ")", y -> y.seed(v), OUTSIDE);
        }
    }

    private static void amplifier() {
        VoltSlopes x = fresh();
        int was = 0;
        for (int offset : new int[] {2000, 1999, 0, -1999, -2000}) {
            for (int creep : new int[] {50, 49, 0, -49, -50}) {
                due("amplifier(" + offset + ", " + creep + ")", x.amplifier(offset, creep), was);
                due("offset is " + offset, x.about(7), offset);
                was = offset;
            }
        }
        for (int[] a : new int[][] {{2001, 0}, {-2001, 0}, {0, 51}, {0, -51}, {2001, 51}, {LOW, 0}, {HIGH, 0}, {0, LOW}, {0, HIGH}}) {
            refused("amplifier(" + a[0] + ", " + a[1] + ")", y -> y.amplifier(a[0], a[1]), OUTSIDE);
        }
    }

    private static void correct() {
        VoltSlopes x = fresh();
        int was = 0;
        for (int factor : new int[] {1000, 999, 0, -999, -1000}) {
            for (int shift : new int[] {1000000, 999999, 0, -999999, -1000000}) {
                due("correct(" + factor + ", " + shift + ")", x.correct(factor, shift), was);
                was = factor;
            }
        }
        for (int[] a : new int[][] {{1001, 0}, {-1001, 0}, {0, 1000001}, {0, -1000001}, {LOW, 0}, {HIGH, 0}, {0, LOW}, {0, HIGH}}) {
            refused("correct(" + a[0] + ", " + a[1] + ")", y -> y.correct(a[0], a[1]), OUTSIDE);
        }
    }

    // ---- promises 12 to 15

    /** "So many READINGS: how many of them were OVER. OUTSIDE: n (1 to 8)." */
    private static void go() {
        for (int n : new int[] {1, 2, 7, 8}) {
            VoltSlopes x = with("N1;R0;Z0;D22000000");
            due("none over of " + n, x.go(n), 0);
            due("readings", x.count(1), n);
            x.dc(22000001);
            due("all over of " + n, x.go(n), n);
            due("readings then", x.count(1), 2 * n);
            due("over then", x.count(2), n);
        }
        // with an offset that creeps by 1 from -1 the third reading is the first that is cut
        VoltSlopes some = with("N1;R0;Z0;D22000000");
        some.amplifier(-1, 1);
        due("some over", some.go(8), 6);
        for (int n : new int[] {0, -1, 9, 10, LOW, HIGH}) {
            refused("go(" + n + ")", y -> y.go(n), OUTSIDE);
        }
    }

    /** "A CONVERSION alone, of INPUT (shorted 0) or SHORTED (1) .. it is the latest one, and no READING" */
    private static void convert() {
        VoltSlopes x = with("N1;R2;A;D25000000;W1");
        due("over", x.convert(0), 1);
        due("of input", x.latest(13), 0);
        due("the range stays though auto is on", x.about(0), 2);
        due("shorted", x.convert(1), 0);
        due("it is shorted", x.latest(13), 1);
        due("two conversions", x.count(3), 2);
        due("one of them shorted", x.count(4), 1);
        due("no readings", x.count(1) + x.count(2), 0);
        due("none kept", x.reading(0, 0), UNKNOWN);
        due("no zero", x.zero(2, 0), STATE);
        due("no value", x.filter(2), 0);
        for (int shorted : new int[] {-1, 2, 3, LOW, HIGH}) {
            refused("convert(" + shorted + ")", y -> y.convert(shorted), OUTSIDE);
        }
    }

    /** "OUTSIDE: from, count (1 to 8), or DC would be beyond its bounds in any." */
    private static void sweepNumbers() {
        int[][] outside = {
            {25000001, 0, 1}, {-25000001, 0, 1}, {25000001, -1, 2}, {-25000001, 1, 2}, {0, 0, 0}, {0, 0, 9}, {0, 0, -1}, {0, 0, LOW}, {0, 0, HIGH},
            {LOW, 0, 1}, {HIGH, 0, 1}, {25000000, 1, 2}, {-25000000, -1, 2}, {24999993, 1, 9}, {24999994, 1, 8}, {-24999994, -1, 8}, {0, 3571429, 8},
            {0, -3571429, 8}, {0, 25000001, 2}, {0, -25000001, 2}, {0, HIGH, 2}, {0, LOW, 2}, {-25000000, 50000001, 2}, {25000000, -50000001, 2},
            {-25000000, 7142858, 8}, {0, 613566757, 8}, {0, 1431655766, 4}, {0, LOW, 3}, {0, 1 << 30, 5}, {0, HIGH, 8}, {0, LOW, 8},
        };
        for (int[] a : outside) {
            refused("sweep(" + a[0] + ", " + a[1] + ", " + a[2] + ")", y -> y.sweep(a[0], a[1], a[2]), OUTSIDE);
        }
    }

    private static void sweepBounds() {
        int[][] inside = {
            // from, step, count, DC of the last one
            {25000000, 0, 1, 25000000}, {-25000000, 0, 1, -25000000}, {25000000, HIGH, 1, 25000000}, {-25000000, LOW, 1, -25000000},
            {0, 0, 8, 0}, {24999993, 1, 8, 25000000}, {-24999993, -1, 8, -25000000}, {24999999, 1, 2, 25000000}, {0, 3571428, 8, 24999996},
            {-25000000, 50000000, 2, 25000000}, {25000000, -50000000, 2, -25000000}, {25000000, -1, 8, 24999993}, {0, 25000000, 2, 25000000},
        };
        for (int[] a : inside) {
            VoltSlopes x = with("N1;R0;D77");
            String call = "sweep(" + a[0] + ", " + a[1] + ", " + a[2] + ")";
            due(call + " is done", x.sweep(a[0], a[1], a[2]) >= 0 ? 1 : 0, 1);
            due(call + ": conversions", x.count(3), a[2]);
            due(call + ": shorted ones", x.count(4), 0);
            due(call + ": no readings", x.count(1), 0);
            due(call + ": dc is what it was", x.about(6), 77);
            long out = Math.max(-22000000, Math.min(22000000, a[3]));
            due(call + ": the latest is that of the last", x.latest(11) * 1000000L + x.latest(12), 10 * out);
            due(call + ": over", x.latest(8), out == a[3] ? 0 : 1);
        }
    }

    /** "the greatest amount by which SUM was from TRUE in any of them (above 0 ..)" */
    private static void sweepAnswers() {
        // what is left of 10 times dc: 10 of 1, 6240 of -1, 0 of 625
        int[][] cases = {{0, 625, 8, 0}, {1, 624, 2, 10}, {625, -624, 2, 10}, {-1, 1, 2, 6240}, {-1, 2, 2, 6240}, {1, -2, 2, 6240}, {1, -1, 2, 10}};
        for (int[] c : cases) {
            VoltSlopes x = with("N1;R0");
            due("sweep(" + c[0] + ", " + c[1] + ", " + c[2] + ")", x.sweep(c[0], c[1], c[2]), c[3]);
        }
        // a charge of -10 leaves -10: the sum is above what flowed
        VoltSlopes below = with("N1;R0");
        due("off the other way", below.sweep(-20480001, 0, 1), 10);
        due("left of it", below.latest(7), -10);
        VoltSlopes auto = with("N1;R2;A");
        auto.sweep(-25000000, 7142857, 8);
        due("ranges are not looked for", auto.about(0), 2);
        due("no range counted", auto.count(5) + auto.count(6), 0);
        VoltSlopes more = with("N50;R1");
        more.sweep(1000, 10, 8);
        due("of N cycles", more.latest(0) + more.latest(1), 500);
        due("at the range that there is", more.latest(14), 1);
    }

    /** "THE FILTER is emptied, KEPT ZEROS are gone: how many VALUES there were." */
    private static void clear() {
        VoltSlopes none = fresh();
        due("clear of none", none.clear(), 0);
        due("it changes nothing of a new object", traceOf(none), traceOf(fresh()));
        for (int values : new int[] {1, 15, 16, 17}) {
            VoltSlopes x = with("N1;R0;Z0;F16");
            for (int i = 0; i < values; i++) {
                x.go(1);
            }
            due("clear of " + values, x.clear(), Math.min(values, 16));
            for (int i = 0; i < 6; i++) {
                due("filter(" + i + ") then", x.filter(i), 0);
            }
            due("none held", x.held(0, 0), UNKNOWN);
            due("again", x.clear(), 0);
            due("readings are as they were", x.count(1), values);
        }
        VoltSlopes z = with("N1;Z2;R0;G1;R1;G1;R2;G1");
        int number = z.reading(0, 0);
        z.clear();
        for (int range = 0; range < 3; range++) {
            due("no zero of range " + range, z.zero(range, 0), STATE);
        }
        set(z, "R0;G1;R1;G1;R2;G1");
        due("zeros are taken anew", z.reading(0, 5) + z.reading(1, 5) + z.reading(2, 5), 6);
        due("numbers go on", z.reading(0, 0), number + 3);
    }

    // ---- promises 16 to 24

    /** "OUTSIDE; STATE: there was none." */
    private static void latest() {
        for (int what : new int[] {-1, 15, 16, LOW, HIGH}) {
            refused("latest(" + what + ")", y -> y.latest(what), OUTSIDE);
        }
        for (int what = 0; what <= 14; what++) {
            VoltSlopes x = fresh();
            due("latest(" + what + ") of none", x.latest(what), STATE);
            due("it changes nothing", traceOf(x), traceOf(fresh()));
            x = with("N1;R1;D-100001;Z0");
            x.convert(0);
            // -10000100 flows upon 204800000; 8, 7, 12 and 1 slopes run it down, 6150 is left
            int[] parts = {9, 1, 1, -8, 7, -12, 1, 6150, 0, -10, -6250, -10, -100, 0, 1};
            due("latest(" + what + ")", x.latest(what), parts[what]);
        }
        VoltSlopes y = with("N1;R0");
        due("settings are no conversion", y.latest(0), STATE);
        due("a refused sweep is none", y.sweep(0, 0, 0), OUTSIDE);
        due("none still", y.latest(14), STATE);
        y.sweep(0, 0, 1);
        due("a sweep is one", y.latest(14), 0);
    }

    /** "Of READINGS, the latest at place 0, twelve are kept .. UNKNOWN: place; OUTSIDE: what." */
    private static void reading() {
        VoltSlopes x = with("N1;R0;Z0");
        for (int n = 0; n <= 26; n++) {
            int kept = Math.min(n, 12);
            due(n + " readings: the latest", x.reading(0, 0), n == 0 ? UNKNOWN : n);
            due(n + " readings: the last kept", x.reading(kept - 1, 0), n == 0 ? UNKNOWN : n - kept + 1);
            due(n + " readings: one behind", x.reading(kept, 0), UNKNOWN);
            due(n + " readings: value of the last kept", x.reading(kept - 1, 1), n == 0 ? UNKNOWN : 625 * (n - kept + 1));
            x.dc(625 * (n + 1));
            x.go(1);
        }
        for (int place : new int[] {-1, 12, 13, LOW, HIGH}) {
            for (int what : new int[] {-1, 0, 7, 8, LOW, HIGH}) {
                refused("reading(" + place + ", " + what + ")", y -> y.reading(place, what), UNKNOWN);
            }
        }
        for (int what : new int[] {-1, 8, LOW, HIGH}) {
            for (int place = 0; place < 12; place++) {
                due("reading(" + place + ", " + what + ")", x.reading(place, what), OUTSIDE);
            }
        }
        VoltSlopes parts = with("N1;R1;Z1;D-625;W1;G1;D-1250;G1");
        set(parts, "D-25000000;G1");
        int[][] rows = {{3, -2200000, 0, 1, 1, 2, 0}, {2, -1250, 0, 1, 0, 2, 1}, {1, -625, 0, 1, 0, 2, 0}};
        for (int place = 0; place < 3; place++) {
            for (int what = 0; what < 7; what++) {
                due("part " + what + " of reading at " + place, parts.reading(place, what), rows[place][what]);
            }
        }
        due("it ended at the tick that is next", parts.reading(0, 7), parts.about(9));
        parts.convert(1);
        due("and not later", parts.reading(0, 7) < parts.about(9) ? 1 : 0, 1);
    }

    private static void filter() {
        for (int what : new int[] {-1, 6, 7, LOW, HIGH}) {
            refused("filter(" + what + ")", y -> y.filter(what), OUTSIDE);
        }
        VoltSlopes x = with("N1;R0;Z0;F2");
        for (int what = 0; what <= 5; what++) {
            due("filter(" + what + ") of none", x.filter(what), 0);
        }
        set(x, "D-625;G1");
        int[] one = {-625, 0, 1, 0, -625, -625};
        set(x, "D-1250;G1;F3");
        int[] two = {-937, -500, 2, 0, -1250, -625};
        for (int what = 0; what <= 5; what++) {
            due("filter(" + what + ") of two", x.filter(what), two[what]);
        }
        set(x, "F1;D-625;G1;F2");
        for (int what = 0; what <= 5; what++) {
            due("filter(" + what + ") of one", x.filter(what), one[what]);
        }
        // at range 0 with 16 cycles values are of 39062.5 nanovolts: least and greatest are told by / 1000 too
        VoltSlopes y = with("N16;R0;Z0;D-40;G1");
        due("least cut towards 0", y.filter(4), (y.reading(0, 1) * 1000L + y.reading(0, 2)) / 1000);
        due("shown's rest has its sign", y.filter(1), y.reading(0, 2));
    }

    /** "the oldest at place 0 .. UNKNOWN: place; OUTSIDE: part." */
    private static void held() {
        VoltSlopes x = with("N1;R0;Z0;F16");
        for (int n = 0; n <= 18; n++) {
            int size = Math.min(n, 16);
            due(n + " values: one behind", x.held(size, 0), UNKNOWN);
            due(n + " values: one ahead", x.held(-1, 0), UNKNOWN);
            due(n + " values: the oldest", x.held(0, 0), n == 0 ? UNKNOWN : 625 * (n - size + 1));
            due(n + " values: the latest", x.held(size - 1, 0), n == 0 ? UNKNOWN : 625 * n);
            x.dc(625 * (n + 1));
            x.go(1);
        }
        for (int place : new int[] {-1, 16, 17, LOW, HIGH}) {
            for (int part : new int[] {-1, 0, 1, 2, LOW, HIGH}) {
                refused("held(" + place + ", " + part + ")", y -> y.held(place, part), UNKNOWN);
            }
        }
        for (int part : new int[] {-1, 2, LOW, HIGH}) {
            due("held(0, " + part + ")", x.held(0, part), OUTSIDE);
            due("held(15, " + part + ")", x.held(15, part), OUTSIDE);
        }
        x.clear();
        due("cleared", x.held(0, 2), UNKNOWN);
    }

    private static void about() {
        for (int what : new int[] {-1, 10, 11, LOW, HIGH}) {
            refused("about(" + what + ")", y -> y.about(what), OUTSIDE);
        }
        VoltSlopes x = busy();
        int[] abouts = {x.reading(0, 3), 1, 3, 2, 3, 40, 123456};
        for (int i = 0; i < abouts.length; i++) {
            due("about(" + i + ")", x.about(i), abouts[i]);
        }
        due("the next tick", x.about(9), x.reading(0, 7));
    }

    /** "OUTSIDE: range, what; STATE: there is none." */
    private static void zero() {
        int[][] outside = {{-1, 0}, {3, 0}, {0, -1}, {0, 4}, {1, 4}, {2, 4}, {2, -1}, {-1, 4}, {LOW, 0}, {HIGH, 0}, {0, LOW}, {0, HIGH}};
        for (int[] a : outside) {
            refused("zero(" + a[0] + ", " + a[1] + ")", y -> y.zero(a[0], a[1]), OUTSIDE);
        }
        for (int range = 0; range < 3; range++) {
            VoltSlopes x = with("N2;Z1;R" + range);
            x.amplifier(-2000, 0);
            for (int what = 0; what < 4; what++) {
                due("none yet", x.zero(range, what), STATE);
            }
            x.go(1);
            // 20 ticks of -2000 and the gain: at range 0 -40000 in steps of 6250, else exactly
            long sum = x.latest(9) * 1000000L + x.latest(10);
            due("sum of range " + range, Math.abs(sum + 40000L * new int[] {1, 10, 100}[range]) < 6250 ? 1 : 0, 1);
            due("by 1000", x.zero(range, 0), sum / 1000);
            due("its rest", x.zero(range, 1), sum % 1000);
            due("its cycles", x.zero(range, 2), 2);
            due("its reading", x.zero(range, 3), 1);
            for (int other = 0; other < 3; other++) {
                due("range " + other + " has one", x.zero(other, 3) == STATE ? 0 : 1, other == range ? 1 : 0);
            }
        }
    }

    /** "INPUT at a TICK .. if NOISE was 0. OUTSIDE: tick (0 at least)." */
    private static void input() {
        for (int tick : new int[] {-1, -20, LOW, LOW + 1}) {
            refused("input(" + tick + ")", y -> y.input(tick), OUTSIDE);
        }
        VoltSlopes x = fresh();
        x.hum(1000, 2);
        x.noise(10000);
        x.amplifier(2000, 50);
        set(x, "R2");
        due("tick 0", x.input(0), -950);
        due("tick 1", x.input(1), -850);
        due("the last tick of a wave", x.input(19), 950);
        due("the first of the next", x.input(20), -950);
        due("the greatest tick", x.input(HIGH), -250);
        due("no draw", x.about(8), 1);
        due("no tick", x.about(9), 0);
    }

    private static void count() {
        for (int what : new int[] {-1, 9, 10, LOW, HIGH}) {
            refused("count(" + what + ")", y -> y.count(what), OUTSIDE);
        }
        VoltSlopes x = fresh();
        for (int what = 0; what <= 8; what++) {
            due("count(" + what + ") at first", x.count(what), 0);
        }
        write(x, "N1;D25000000;G1;D0;G2;D-5;W3;G1");
        due("letters", x.count(0), 31);
        due("not read yet", x.count(8), 0);
        x.set();
        // over at range 0; up twice; as it is; then -5 is read as -6.25, which is a jump by window 3; a zero each time
        int[] counts = {0, 4, 1, 10, 4, 2, 0, 1, 1};
        for (int what = 0; what <= 8; what++) {
            due("count(" + what + ")", x.count(what), counts[what]);
        }
    }

    private static long folded(long h, long... numbers) {
        for (long number : numbers) {
            h = 31 * h + number;
        }
        return h;
    }

    /** "h is 1601, then for each of these numbers, in order, 31 times h, and it (as longs, wrapping)" */
    private static void digestOfParts() {
        VoltSlopes[] objects = {fresh(), with("N1;R1;Z0"), with("N1;R1;Z1;G1"), busy(), full()};
        objects[1].convert(1);
        for (int object = 0; object < objects.length; object++) {
            VoltSlopes x = objects[object];
            long h = 1601;
            for (int i = 0; i < 10; i++) {
                h = folded(h, x.about(i));
            }
            for (int i = 0; i < 15 && x.latest(0) != STATE; i++) {
                h = folded(h, x.latest(i));
            }
            for (int place = 0; x.reading(place, 0) != UNKNOWN; place++) {
                for (int i = 0; i < 8; i++) {
                    h = folded(h, x.reading(place, i));
                }
            }
            for (int i = 0; i < 6; i++) {
                h = folded(h, x.filter(i));
            }
            for (int place = 0; x.held(place, 0) != UNKNOWN; place++) {
                h = folded(h, x.held(place, 0), x.held(place, 1));
            }
            for (int range = 0; range < 3; range++) {
                for (int i = 0; i < 4 && x.zero(range, 0) != STATE; i++) {
                    h = folded(h, x.zero(range, i));
                }
            }
            for (int i = 0; i < 20; i++) {
                h = folded(h, x.input(i));
            }
            String[] pages = {"", "", "", "N7;G1", "G1;G1;G1;G1;G1;G1;G1;G1;G1;G1;G1;G1;G1;G"};
            for (char c : pages[object].toCharArray()) {
                h = folded(h, c);
            }
            for (int i = 0; i < 9; i++) {
                h = folded(h, x.count(i));
            }
            due("digest of object " + object, x.digest(), h);
        }
        due("the full one has all", objects[4].count(0) + objects[4].filter(2), 56);
        due("its twelfth reading", objects[4].reading(11, 0) > 1 ? 1 : 0, 1);
    }

    private static void dueAnother(String what, Consumer<VoltSlopes> change) {
        VoltSlopes x = busy();
        long before = x.digest();
        change.accept(x);
        due("digest behind " + what + " is another one", x.digest() == before ? 1 : 0, 0);
    }

    private static void digestSeesEach() {
        dueAnother("letter", x -> x.letter('A'));
        dueAnother("blank", x -> x.blank());
        dueAnother("set", x -> x.set());
        dueAnother("dc", x -> x.dc(123457));
        dueAnother("hum", x -> x.hum(3001, 1));
        dueAnother("seed", x -> x.seed(5));
        dueAnother("amplifier", x -> x.amplifier(0, 7));
        dueAnother("go", x -> x.go(1));
        dueAnother("convert", x -> x.convert(1));
        dueAnother("sweep", x -> x.sweep(1, 1, 1));
        dueAnother("clear", x -> x.clear());
    }

    /** What is only told changes nothing, whatever is asked for. */
    private static void asksChangeNothing() {
        VoltSlopes x = busy();
        for (int what = -2; what < 25; what++) {
            x.latest(what);
            x.filter(what);
            x.about(what);
            x.count(what);
            x.input(what);
            x.fault();
            x.digest();
            for (int place = -2; place < 20; place++) {
                x.reading(place, what);
                x.held(place, what);
                x.zero(place, what);
            }
        }
        due("asking changes nothing", traceOf(x), traceOf(busy()));
    }

    private static void nothingThrows() {
        int[] numbers = {LOW, LOW + 1, FULL, STATE, OUTSIDE, UNKNOWN, -25000001, -25000000, -2001, -21, -1, 0, 1, 2, 3, 8, 12, 16, 20, 40, 50, 65, 127,
            2000000, 25000000, 25000001, HIGH - 1, HIGH};
        VoltSlopes[] objects = {fresh(), busy(), full()};
        try {
            for (VoltSlopes x : objects) {
                for (int a : numbers) {
                    x.letter(a);
                    x.dc(a);
                    x.noise(a);
                    x.seed(a);
                    x.go(a);
                    x.convert(a);
                    x.latest(a);
                    x.filter(a);
                    x.about(a);
                    x.input(a);
                    x.count(a);
                    for (int b : numbers) {
                        x.hum(a, b);
                        x.amplifier(a, b);
                        x.correct(a, b);
                        x.reading(a, b);
                        x.held(a, b);
                        x.zero(a, b);
                        for (int c : FAR) {
                            x.sweep(a, b, c);
                            x.sweep(a, c, b);
                        }
                    }
                    x.digest();
                }
            }
        } catch (RuntimeException thrown) {
            due("a call threw " + thrown, 1, 0);
        }
    }
}

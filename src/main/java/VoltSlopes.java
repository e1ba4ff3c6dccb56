/**
 * A voltmeter of many slopes: a source, an amplifier of three ranges, conversions by charge run up and
 * run down, readings put right by zeros and a correction, their running mean, and settings as texts.
 */
public final class VoltSlopes {
    public static final int NONE = -1, UNKNOWN = -1000000001, OUTSIDE = -1000000002, STATE = -1000000003, FULL = -1000000004;

    private static final int DC_MOST = 25000000;
    private static final int HUM_MOST = 2000000;
    private static final int NOISE_MOST = 10000;
    private static final int OFFSET_MOST = 2000;
    private static final int CREEP_MOST = 50;
    private static final int FACTOR_MOST = 1000;
    private static final int SHIFT_MOST = 1000000;
    private static final int WINDOW_MOST = 99999;
    private static final int CYCLES_MOST = 50;
    private static final int VALUES_MOST = 16;
    private static final int RANGES = 3;
    private static final int WAVES = 3;
    private static final int SINE_WAVE = 0;
    private static final int SQUARE_WAVE = 1;
    private static final int WAVE_TICKS = 20;
    private static final int HALF_WAVE = 10;
    private static final int CYCLE_TICKS = 10;
    private static final int BATCH_MOST = 8;
    private static final int ZERO_LASTS = 4;
    // Two steps up, two down and the last conversion make five: a reading can never need more turns than this.
    private static final int TURNS_MOST = 8;
    private static final long OUT_MOST = 22000000L;
    private static final long REFERENCE = 25600000L;
    private static final long SUM_HIGH = 210000000L;
    private static final long SUM_LOW = 15000000L;
    private static final long MILLION = 1000000L;
    private static final long THOUSAND = 1000L;
    private static final long DIGEST_START = 1601L;

    private static final int ABOUTS = 10;
    private static final int LATESTS = 15;
    private static final int READING_PARTS = 8;
    private static final int FILTER_PARTS = 6;
    private static final int HELD_PARTS = 2;
    private static final int ZERO_PARTS = 4;
    private static final int COUNTS = 9;

    private static final int[] SINE = {0, 309, 588, 809, 951, 1000, 951, 809, 588, 309};
    private static final long[] SLOPES = {25600000L, 1600000L, 100000L, 6250L};

    private final Bench bench = new Bench();
    private final Zeros zeros = new Zeros();
    private final Means means = new Means();
    private final Log log = new Log();
    private final Page page = new Page();
    private final Parser parser = new Parser();
    private boolean auto = true;
    private int zeroing = 1;
    private int factor = 0;
    private int shift = 0;
    private int rangeUps = 0;
    private int rangeDowns = 0;
    private int settingsRead = 0;

    public VoltSlopes() {
    }

    // ---- texts

    public int letter(int code) {
        if (code < 32 || code > 126) {
            return OUTSIDE;
        }
        if (!page.write(code)) {
            return FULL;
        }
        return page.length;
    }

    public int blank() {
        int had = page.length;
        page.length = 0;
        return had;
    }

    public int fault() {
        parser.begin();
        for (int place = 0; place < page.length; place++) {
            if (!parser.takes(page.codeAt(place))) {
                return place;
            }
        }
        return page.length;
    }

    public int set() {
        if (fault() != page.length || !parser.mayEnd()) {
            return STATE;
        }
        int taken = 0;
        parser.begin();
        for (int place = 0; place <= page.length; place++) {
            int code = place < page.length ? page.codeAt(place) : ';';
            if (code == ';' && parser.command == 'G') {
                takeReadings(parser.value());
                taken += parser.value();
            } else if (code == ';') {
                adjust(parser.command, parser.value());
            }
            parser.takes(code);
        }
        page.length = 0;
        settingsRead++;
        return taken;
    }

    private void adjust(int command, int number) {
        switch (command) {
            case 'N':
                bench.cycles = number;
                break;
            case 'R':
                bench.amplifier.range = number;
                auto = false;
                break;
            case 'A':
                auto = true;
                break;
            case 'Z':
                zeroing = number;
                break;
            case 'F':
                means.resize(number);
                break;
            case 'W':
                means.window = number;
                break;
            case 'D':
                bench.source.dc = number;
                break;
            default:
                break;
        }
    }

    // ---- the source, the amplifier

    public int dc(int v) {
        if (!within(v, DC_MOST)) {
            return OUTSIDE;
        }
        int was = bench.source.dc;
        bench.source.dc = v;
        return was;
    }

    public int hum(int hum, int wave) {
        if (hum < 0 || hum > HUM_MOST || wave < 0 || wave >= WAVES) {
            return OUTSIDE;
        }
        int was = bench.source.hum;
        bench.source.hum = hum;
        bench.source.wave = wave;
        return was;
    }

    public int noise(int v) {
        if (v < 0 || v > NOISE_MOST) {
            return OUTSIDE;
        }
        int was = bench.source.noise;
        bench.source.noise = v;
        return was;
    }

    public int seed(int v) {
        if (v < 0) {
            return OUTSIDE;
        }
        int was = (int) bench.source.seed;
        bench.source.seed = v;
        return was;
    }

    public int amplifier(int offset, int creep) {
        if (!within(offset, OFFSET_MOST) || !within(creep, CREEP_MOST)) {
            return OUTSIDE;
        }
        int was = bench.amplifier.offset;
        bench.amplifier.offset = offset;
        bench.amplifier.creep = creep;
        return was;
    }

    public int correct(int factor, int shift) {
        if (!within(factor, FACTOR_MOST) || !within(shift, SHIFT_MOST)) {
            return OUTSIDE;
        }
        int was = this.factor;
        this.factor = factor;
        this.shift = shift;
        return was;
    }

    // ---- readings

    public int go(int n) {
        if (n < 1 || n > BATCH_MOST) {
            return OUTSIDE;
        }
        return takeReadings(n);
    }

    public int convert(int shorted) {
        if (shorted != 0 && shorted != 1) {
            return OUTSIDE;
        }
        bench.converse(shorted == 1);
        return flag(bench.conversion.over);
    }

    public int sweep(int from, int step, int count) {
        if (!within(from, DC_MOST) || count < 1 || count > BATCH_MOST) {
            return OUTSIDE;
        }
        // Steps all go one way, so the first and the last are the outermost.
        long last = from + (long) step * (count - 1);
        if (!within(last, DC_MOST)) {
            return OUTSIDE;
        }
        int was = bench.source.dc;
        long greatest = 0;
        for (int turn = 0; turn < count; turn++) {
            bench.source.dc = (int) (from + (long) step * turn);
            bench.converse(false);
            greatest = Math.max(greatest, bench.conversion.error());
        }
        bench.source.dc = was;
        return (int) greatest;
    }

    public int clear() {
        int had = means.size;
        means.size = 0;
        zeros.forget();
        return had;
    }

    /** Takes so many readings, and tells how many of them were over. */
    private int takeReadings(int n) {
        int over = 0;
        for (int turn = 0; turn < n; turn++) {
            if (takeReading()) {
                over++;
            }
        }
        return over;
    }

    private boolean takeReading() {
        int before = bench.conversions;
        findRange();
        boolean over = bench.conversion.over;
        long sum = bench.conversion.sum;
        long zeroSum = findZero();
        long value = corrected(plain(sum - zeroSum));
        boolean jump = !over && means.takeIn(value);
        log.note(value, bench.amplifier.range, over, bench.conversions - before, jump, (int) bench.tick);
        return over;
    }

    /** Converts the input, again at another range as long as auto wants one. */
    private void findRange() {
        boolean lowered = false;
        for (int turn = 0; turn < TURNS_MOST; turn++) {
            bench.converse(false);
            if (!auto) {
                return;
            }
            if (tooGreat()) {
                bench.amplifier.range--;
                rangeDowns++;
                lowered = true;
            } else if (!lowered && tooSmall()) {
                bench.amplifier.range++;
                rangeUps++;
            } else {
                return;
            }
        }
    }

    private boolean tooGreat() {
        long amount = Math.abs(bench.conversion.sum);
        return bench.amplifier.range > 0 && (bench.conversion.over || amount > SUM_HIGH * bench.cycles);
    }

    private boolean tooSmall() {
        long amount = Math.abs(bench.conversion.sum);
        return bench.amplifier.range < RANGES - 1 && !bench.conversion.over && amount < SUM_LOW * bench.cycles;
    }

    /** The sum to take off: none, a kept one, or that of a new shorted conversion. */
    private long findZero() {
        if (zeroing == 0) {
            return 0;
        }
        int range = bench.amplifier.range;
        int number = log.taken + 1;
        if (zeroing == 2 && zeros.serves(range, bench.cycles, number)) {
            return zeros.sumOf(range);
        }
        bench.converse(true);
        zeros.keep(range, bench.conversion.sum, bench.cycles, number);
        return bench.conversion.sum;
    }

    private long plain(long sum) {
        long divisor = bench.cycles * bench.amplifier.gain();
        if (divisor <= 0) {
            return 0;
        }
        return sum * 100 / divisor;
    }

    private long corrected(long plain) {
        return plain + plain / MILLION * factor + shift * THOUSAND;
    }

    // ---- what is told

    public int latest(int what) {
        if (what < 0 || what >= LATESTS) {
            return OUTSIDE;
        }
        if (bench.conversions == 0) {
            return STATE;
        }
        return bench.conversion.part(what);
    }

    public int reading(int place, int what) {
        if (place < 0 || place >= log.kept()) {
            return UNKNOWN;
        }
        if (what < 0 || what >= READING_PARTS) {
            return OUTSIDE;
        }
        return log.part(place, what);
    }

    public int filter(int what) {
        switch (what) {
            case 0:
                return (int) (means.shown() / THOUSAND);
            case 1:
                return (int) (means.shown() % THOUSAND);
            case 2:
                return means.size;
            case 3:
                return flag(means.size == means.most);
            case 4:
                return (int) (means.least() / THOUSAND);
            case 5:
                return (int) (means.greatest() / THOUSAND);
            default:
                return OUTSIDE;
        }
    }

    public int held(int place, int part) {
        if (place < 0 || place >= means.size) {
            return UNKNOWN;
        }
        if (part < 0 || part >= HELD_PARTS) {
            return OUTSIDE;
        }
        long value = means.valueAt(place);
        return (int) (part == 0 ? value / THOUSAND : value % THOUSAND);
    }

    public int about(int what) {
        switch (what) {
            case 0:
                return bench.amplifier.range;
            case 1:
                return flag(auto);
            case 2:
                return bench.cycles;
            case 3:
                return zeroing;
            case 4:
                return means.most;
            case 5:
                return means.window;
            case 6:
                return bench.source.dc;
            case 7:
                return bench.amplifier.offset;
            case 8:
                return (int) bench.source.seed;
            case 9:
                return (int) bench.tick;
            default:
                return OUTSIDE;
        }
    }

    public int zero(int range, int what) {
        if (range < 0 || range >= RANGES || what < 0 || what >= ZERO_PARTS) {
            return OUTSIDE;
        }
        if (!zeros.has(range)) {
            return STATE;
        }
        return zeros.part(range, what);
    }

    public int input(int tick) {
        if (tick < 0) {
            return OUTSIDE;
        }
        return (int) bench.source.calmAt(tick);
    }

    public int count(int what) {
        switch (what) {
            case 0:
                return page.length;
            case 1:
                return log.taken;
            case 2:
                return log.over;
            case 3:
                return bench.conversions;
            case 4:
                return bench.shorteds;
            case 5:
                return rangeUps;
            case 6:
                return rangeDowns;
            case 7:
                return means.jumps;
            case 8:
                return settingsRead;
            default:
                return OUTSIDE;
        }
    }

    public long digest() {
        long h = DIGEST_START;
        for (int what = 0; what < ABOUTS; what++) {
            h = folded(h, about(what));
        }
        h = foldLatest(h);
        h = foldReadings(h);
        h = foldFilter(h);
        h = foldZeros(h);
        for (int tick = 0; tick < WAVE_TICKS; tick++) {
            h = folded(h, input(tick));
        }
        for (int place = 0; place < page.length; place++) {
            h = folded(h, page.codeAt(place));
        }
        for (int what = 0; what < COUNTS; what++) {
            h = folded(h, count(what));
        }
        return h;
    }

    private long foldLatest(long h) {
        if (bench.conversions == 0) {
            return h;
        }
        for (int what = 0; what < LATESTS; what++) {
            h = folded(h, latest(what));
        }
        return h;
    }

    private long foldReadings(long h) {
        int kept = log.kept();
        for (int place = 0; place < kept; place++) {
            for (int what = 0; what < READING_PARTS; what++) {
                h = folded(h, reading(place, what));
            }
        }
        return h;
    }

    private long foldFilter(long h) {
        for (int what = 0; what < FILTER_PARTS; what++) {
            h = folded(h, filter(what));
        }
        for (int place = 0; place < means.size; place++) {
            for (int part = 0; part < HELD_PARTS; part++) {
                h = folded(h, held(place, part));
            }
        }
        return h;
    }

    private long foldZeros(long h) {
        for (int range = 0; range < RANGES; range++) {
            if (zeros.has(range)) {
                for (int what = 0; what < ZERO_PARTS; what++) {
                    h = folded(h, zero(range, what));
                }
            }
        }
        return h;
    }

    private static long folded(long h, long number) {
        return 31 * h + number;
    }

    private static int flag(boolean is) {
        return is ? 1 : 0;
    }

    private static boolean within(long v, long most) {
        return v >= -most && v <= most;
    }

    /** What is measured: a steady voltage with hum of the mains and noise upon it. */
    private static final class Source {
        int dc = 0;
        int hum = 0;
        int wave = SINE_WAVE;
        int noise = 0;
        long seed = 1;

        long calmAt(long tick) {
            int phase = (int) (tick % WAVE_TICKS);
            return dc + hum * swing(phase) / THOUSAND;
        }

        private long swing(int phase) {
            if (wave == SINE_WAVE) {
                int half = phase % HALF_WAVE;
                long height = half >= 0 && half < SINE.length ? SINE[half] : 0;
                return phase < HALF_WAVE ? height : -height;
            }
            if (wave == SQUARE_WAVE) {
                return phase < HALF_WAVE ? 1000 : -1000;
            }
            return 100L * phase - 950;
        }

        /** What noise adds to the calm input; with noise each asking draws. */
        long stir() {
            return noise > 0 ? draw(2L * noise + 1) - noise : 0;
        }

        private long draw(long ofHowMany) {
            seed = (1103515245L * seed + 12345L) % 2147483648L;
            return ofHowMany > 0 ? seed / 65536L % ofHowMany : 0;
        }
    }

    /** The amplifier of three ranges, with an offset that creeps. */
    private static final class Amplifier {
        int range = 0;
        int offset = 0;
        int creep = 0;

        long gain() {
            return range == 0 ? 1 : range == 1 ? 10 : 100;
        }

        /** What it would give out for this input if nothing cut it. */
        long amplified(long volts) {
            return gain() * (volts + offset);
        }

        void creepOn() {
            offset = Math.max(-OFFSET_MOST, Math.min(OFFSET_MOST, offset + creep));
        }
    }

    /** The latest conversion: first as it flows, then what came of it. */
    private static final class Conversion {
        boolean shorted = false;
        int range = 0;
        boolean over = false;
        int plus = 0;
        int minus = 0;
        int switched = 0;
        long charge = 0;
        long sum = 0;
        long flowed = 0;
        private int signAhead = 0;
        private final int[] slopeCounts = new int[4];

        void begin(boolean isShorted, int atRange) {
            shorted = isShorted;
            range = atRange;
            over = false;
            plus = 0;
            minus = 0;
            switched = 0;
            charge = 0;
            sum = 0;
            flowed = 0;
            signAhead = 0;
        }

        /** One tick of a cycle. */
        void flow(long amplified, int sign) {
            long out = Math.max(-OUT_MOST, Math.min(OUT_MOST, amplified));
            if (out != amplified) {
                over = true;
            }
            flowed += out;
            charge += out + REFERENCE * sign;
            if (sign > 0) {
                plus++;
            } else {
                minus++;
            }
            if (signAhead != 0 && signAhead != sign) {
                switched++;
            }
            signAhead = sign;
        }

        /** Runs the charge down by all slopes, and tells in how many ticks. */
        long runDown() {
            long ticks = 0;
            sum = -(plus - minus) * REFERENCE;
            for (int place = 0; place < SLOPES.length && place < slopeCounts.length; place++) {
                long slope = SLOPES[place];
                long steps = stepsOf(slope);
                long count = charge > 0 ? -steps : steps;
                slopeCounts[place] = (int) count;
                charge += count * slope;
                sum -= count * slope;
                ticks += steps;
            }
            return ticks;
        }

        // A started step is a whole tick: the charge may cross 0 in it.
        private long stepsOf(long slope) {
            return slope > 0 ? (Math.abs(charge) + slope - 1) / slope : 0;
        }

        long error() {
            return Math.abs(sum - flowed);
        }

        int part(int what) {
            switch (what) {
                case 0:
                    return plus;
                case 1:
                    return minus;
                case 2:
                    return switched;
                case 7:
                    return (int) charge;
                case 8:
                    return flag(over);
                case 9:
                    return (int) (sum / MILLION);
                case 10:
                    return (int) (sum % MILLION);
                case 11:
                    return (int) (flowed / MILLION);
                case 12:
                    return (int) (flowed % MILLION);
                case 13:
                    return flag(shorted);
                case 14:
                    return range;
                default:
                    return slopeCount(what - 3);
            }
        }

        private int slopeCount(int place) {
            return place >= 0 && place < slopeCounts.length ? slopeCounts[place] : OUTSIDE;
        }
    }

    /** Source, amplifier and converter, which live by the same ticks. */
    private static final class Bench {
        final Source source = new Source();
        final Amplifier amplifier = new Amplifier();
        final Conversion conversion = new Conversion();
        int cycles = 10;
        long tick = 0;
        int conversions = 0;
        int shorteds = 0;

        void converse(boolean shorted) {
            conversion.begin(shorted, amplifier.range);
            for (int cycle = 0; cycle < cycles; cycle++) {
                int lean = conversion.charge > 0 ? -1 : 1;
                for (int place = 0; place < CYCLE_TICKS; place++) {
                    long volts = shorted ? 0 : source.calmAt(tick) + source.stir();
                    conversion.flow(amplifier.amplified(volts), signAt(place, lean));
                    tick++;
                }
            }
            tick += conversion.runDown();
            amplifier.creepOn();
            conversions++;
            if (shorted) {
                shorteds++;
            }
        }

        // Both signs come in every cycle, so that it is switched as often whatever comes.
        private static int signAt(int place, int lean) {
            if (place == 0) {
                return 1;
            }
            return place == CYCLE_TICKS - 1 ? -1 : lean;
        }
    }

    /** The zero kept for each range. */
    private static final class Zeros {
        private final long[] sums = new long[RANGES];
        private final int[] cycles = new int[RANGES];
        // 0 stands for no zero, since readings are numbered from 1.
        private final int[] numbers = new int[RANGES];

        private static boolean isRange(int range) {
            return range >= 0 && range < RANGES;
        }

        boolean has(int range) {
            return isRange(range) && numbers[range] > 0;
        }

        boolean serves(int range, int byCycles, int number) {
            return has(range) && cycles[range] == byCycles && numbers[range] >= number - ZERO_LASTS;
        }

        long sumOf(int range) {
            return isRange(range) ? sums[range] : 0;
        }

        void keep(int range, long sum, int byCycles, int number) {
            if (isRange(range)) {
                sums[range] = sum;
                cycles[range] = byCycles;
                numbers[range] = number;
            }
        }

        void forget() {
            for (int range = 0; range < RANGES; range++) {
                numbers[range] = 0;
            }
        }

        int part(int range, int what) {
            if (!isRange(range)) {
                return OUTSIDE;
            }
            switch (what) {
                case 0:
                    return (int) (sums[range] / THOUSAND);
                case 1:
                    return (int) (sums[range] % THOUSAND);
                case 2:
                    return cycles[range];
                default:
                    return numbers[range];
            }
        }
    }

    /** The filter: the latest values, the oldest first, and their mean. */
    private static final class Means {
        private final long[] values = new long[VALUES_MOST];
        int size = 0;
        int most = 4;
        int window = 0;
        int jumps = 0;

        long valueAt(int place) {
            return place >= 0 && place < size && place < values.length ? values[place] : 0;
        }

        long shown() {
            if (size <= 0) {
                return 0;
            }
            long all = 0;
            for (int place = 0; place < size; place++) {
                all += valueAt(place);
            }
            return all / size;
        }

        long least() {
            long found = valueAt(0);
            for (int place = 1; place < size; place++) {
                found = Math.min(found, valueAt(place));
            }
            return found;
        }

        long greatest() {
            long found = valueAt(0);
            for (int place = 1; place < size; place++) {
                found = Math.max(found, valueAt(place));
            }
            return found;
        }

        /** Takes a value in, and tells whether it was a jump. */
        boolean takeIn(long value) {
            boolean jump = size > 0 && window > 0 && Math.abs(value - shown()) > window * THOUSAND;
            if (jump) {
                size = 0;
                jumps++;
            }
            keepNewest(most - 1);
            if (size >= 0 && size < values.length) {
                values[size] = value;
                size++;
            }
            return jump;
        }

        void resize(int howMany) {
            most = howMany;
            keepNewest(howMany);
        }

        private void keepNewest(int howMany) {
            int gone = size - howMany;
            if (gone <= 0) {
                return;
            }
            for (int place = 0; place < howMany && place < values.length; place++) {
                values[place] = valueAt(place + gone);
            }
            size = howMany;
        }
    }

    /** The latest twelve readings, a row each; a new one takes the row of the oldest. */
    private static final class Log {
        private static final int ROWS = 12;
        private final int[] cells = new int[ROWS * READING_PARTS];
        int taken = 0;
        int over = 0;

        void note(long value, int range, boolean wasOver, int conversions, boolean jump, int tick) {
            int row = taken % ROWS;
            taken++;
            if (wasOver) {
                over++;
            }
            put(row, 0, taken);
            put(row, 1, (int) (value / THOUSAND));
            put(row, 2, (int) (value % THOUSAND));
            put(row, 3, range);
            put(row, 4, flag(wasOver));
            put(row, 5, conversions);
            put(row, 6, flag(jump));
            put(row, 7, tick);
        }

        private void put(int row, int what, int number) {
            int cell = row * READING_PARTS + what;
            if (cell >= 0 && cell < cells.length) {
                cells[cell] = number;
            }
        }

        int kept() {
            return Math.min(taken, ROWS);
        }

        int part(int place, int what) {
            int cell = (taken - 1 - place) % ROWS * READING_PARTS + what;
            return cell >= 0 && cell < cells.length ? cells[cell] : UNKNOWN;
        }
    }

    /** The page that settings are written on. */
    private static final class Page {
        private final int[] codes = new int[40];
        int length = 0;

        boolean write(int code) {
            if (length < 0 || length >= codes.length) {
                return false;
            }
            codes[length] = code;
            length++;
            return true;
        }

        int codeAt(int place) {
            return place >= 0 && place < length && place < codes.length ? codes[place] : 0;
        }
    }

    /** Reads settings letter by letter, and knows of each letter whether it can stand there. */
    private static final class Parser {
        private static final int AT_COMMAND = 0;
        private static final int AT_NUMBER = 1;
        private static final int BEHIND_MINUS = 2;
        private static final int IN_NUMBER = 3;
        private static final int AT_END = 4;

        private int stage = AT_COMMAND;
        private boolean below = false;
        private long amount = 0;
        int command = 0;

        void begin() {
            stage = AT_COMMAND;
            command = 0;
            below = false;
            amount = 0;
        }

        int value() {
            return (int) (below ? -amount : amount);
        }

        /** Whether the text is whole if no letter comes any more. */
        boolean mayEnd() {
            return (stage == IN_NUMBER || stage == AT_END) && value() >= least(command);
        }

        /** Takes a letter; if it is wrong there, it tells so and stays as it was. */
        boolean takes(int code) {
            switch (stage) {
                case AT_COMMAND:
                    return takesCommand(code);
                case AT_NUMBER:
                    return code == '-' ? takesMinus() : takesFigure(code);
                case BEHIND_MINUS:
                    return code != '0' && takesFigure(code);
                case IN_NUMBER:
                    return code == ';' ? takesEnd() : takesFigure(code);
                default:
                    return code == ';' && takesEnd();
            }
        }

        private boolean takesCommand(int code) {
            if (most(code) < 0) {
                return false;
            }
            command = code;
            below = false;
            amount = 0;
            stage = code == 'A' ? AT_END : AT_NUMBER;
            return true;
        }

        private boolean takesMinus() {
            if (least(command) >= 0) {
                return false;
            }
            below = true;
            stage = BEHIND_MINUS;
            return true;
        }

        private boolean takesFigure(int code) {
            if (code < '0' || code > '9') {
                return false;
            }
            long grown = amount * 10 + (code - '0');
            if (below ? -grown < least(command) : grown > most(command)) {
                return false;
            }
            amount = grown;
            // Behind a 0 no figure may come, for it would be a 0 ahead.
            stage = grown == 0 ? AT_END : IN_NUMBER;
            return true;
        }

        private boolean takesEnd() {
            if (!mayEnd()) {
                return false;
            }
            stage = AT_COMMAND;
            return true;
        }

        private static int least(int command) {
            switch (command) {
                case 'N':
                case 'F':
                case 'G':
                    return 1;
                case 'D':
                    return -DC_MOST;
                default:
                    return 0;
            }
        }

        /** The greatest number of a command, 0 for that without one; -1: there is no such command. */
        private static int most(int command) {
            switch (command) {
                case 'N':
                    return CYCLES_MOST;
                case 'R':
                    return RANGES - 1;
                case 'A':
                    return 0;
                case 'Z':
                    return 2;
                case 'F':
                    return VALUES_MOST;
                case 'W':
                    return WINDOW_MOST;
                case 'D':
                    return DC_MOST;
                case 'G':
                    return 9;
                default:
                    return -1;
            }
        }
    }
}

import java.util.ArrayDeque;
import java.util.ArrayList;
import java.util.Arrays;
import java.util.Deque;
import java.util.HashMap;
import java.util.List;
import java.util.Map;
import java.util.Random;

/**
 * Long runs of drawn calls on the class and on a model, which does the document's words one by one (each tick of each
 * slope by itself, texts by patterns); every answer must be the same.
 */
public final class VoltSlopesModelRuns {
    private static final int RUNS = 1500;
    private static final int CALLS = 300;
    private static int wrong = 0;

    public static void main(String[] args) {
        for (int run = 1; run <= RUNS && wrong < 20; run++) {
            play(run);
        }
        System.out.println(wrong == 0 ? "class and model agree" : wrong + " answers differ from the model's");
        if (wrong != 0) {
            System.exit(1);
        }
    }

    private static void play(int run) {
        waiting.clear();
        Random dice = new Random(run);
        VoltSlopes x = new VoltSlopes();
        Model m = new Model();
        List<String> told = new ArrayList<>();
        for (int i = 0; i < CALLS; i++) {
            String call = drawCall(dice, m);
            told.add(call);
            long got = ask(x, call);
            long want = m.answer(call);
            if (got != want) {
                wrong++;
                System.out.println("run " + run + ", call " + i + ": " + call + " answered " + got + ", the model says " + want);
                System.out.println("  behind " + told);
                return;
            }
        }
        if (x.digest() != m.digest()) {
            wrong++;
            System.out.println("run " + run + ": another digest at its end, behind " + told);
        }
    }

    // ---- drawing

    private static final Deque<String> waiting = new ArrayDeque<>();

    private static String drawCall(Random dice, Model m) {
        if (!waiting.isEmpty()) {
            return waiting.poll();
        }
        switch (dice.nextInt(26)) {
            case 0: case 1: case 2: case 3: write(drawText(dice)); return dice.nextInt(3) > 0 ? "blank" : "fault";
            case 4: return "dc " + edge(dice, drawDc(dice), 25000000);
            case 5: return "hum " + edge(dice, dice.nextInt(2000001), 2000000) + " " + (dice.nextInt(20) == 0 ? dice.nextInt(6) - 2 : dice.nextInt(3));
            case 6: return "noise " + edge(dice, dice.nextInt(3) == 0 ? 0 : dice.nextInt(10001), 10000);
            case 7: return "seed " + (dice.nextInt(5) == 0 ? dice.nextInt() : dice.nextInt(Integer.MAX_VALUE));
            case 8: return "amplifier " + edge(dice, dice.nextInt(4001) - 2000, 2000) + " " + edge(dice, dice.nextInt(101) - 50, 50);
            case 9: return "correct " + edge(dice, dice.nextInt(2001) - 1000, 1000) + " " + edge(dice, dice.nextInt(2000001) - 1000000, 1000000);
            case 10: case 11: case 12: return "go " + (dice.nextInt(15) == 0 ? dice.nextInt(14) - 3 : 1 + dice.nextInt(8));
            case 13: return "convert " + (dice.nextInt(15) == 0 ? dice.nextInt() : dice.nextInt(2));
            case 14: return drawSweep(dice);
            case 15: return dice.nextInt(3) == 0 ? "clear" : "digest";
            case 16: case 17: return "latest " + (dice.nextInt(18) - 1);
            case 18: case 19: return "reading " + (dice.nextInt(15) - 1) + " " + (dice.nextInt(10) - 1);
            case 20: return "filter " + (dice.nextInt(8) - 1);
            case 21: return "held " + (dice.nextInt(19) - 1) + " " + (dice.nextInt(4) - 1);
            case 22: return "about " + (dice.nextInt(12) - 1);
            case 23: return "zero " + (dice.nextInt(5) - 1) + " " + (dice.nextInt(6) - 1);
            case 24: return "input " + (dice.nextInt(3) == 0 ? dice.nextInt() : dice.nextInt(50));
            default: return "count " + (dice.nextInt(11) - 1);
        }
    }

    private static int drawDc(Random dice) {
        int[] sizes = {10, 1000, 20000, 200000, 300000, 2000000, 25000000};
        int size = sizes[dice.nextInt(sizes.length)];
        return dice.nextInt(2 * size + 1) - size;
    }

    private static int edge(Random dice, int usual, int most) {
        switch (dice.nextInt(40)) {
            case 0: return most;
            case 1: return -most;
            case 2: return most + 1;
            case 3: return -most - 1;
            case 4: return Integer.MIN_VALUE;
            case 5: return Integer.MAX_VALUE;
            default: return usual;
        }
    }

    private static String drawSweep(Random dice) {
        int from = edge(dice, drawDc(dice), 25000000);
        int step = dice.nextInt(10) == 0 ? dice.nextInt() : drawDc(dice) / 8;
        int count = dice.nextInt(15) == 0 ? dice.nextInt(14) - 3 : 1 + dice.nextInt(8);
        return "sweep " + from + " " + step + " " + count;
    }

    private static void write(String text) {
        for (char c : text.toCharArray()) {
            waiting.add("letter " + (int) c);
        }
        waiting.add("fault");
        waiting.add("set");
        waiting.add("count 0");
        waiting.add("digest");
    }

    private static String drawText(Random dice) {
        StringBuilder text = new StringBuilder();
        int commands = dice.nextInt(6);
        for (int i = 0; i < commands; i++) {
            text.append(i > 0 ? ";" : "").append(drawCommand(dice));
        }
        int spoil = dice.nextInt(8);
        if (spoil == 0 && text.length() > 0) {
            text.setCharAt(dice.nextInt(text.length()), ";-0159ANDRx \u007f".charAt(dice.nextInt(13)));
        } else if (spoil == 1 && text.length() > 0) {
            text.deleteCharAt(dice.nextInt(text.length()));
        } else if (spoil == 2) {
            text.insert(dice.nextInt(text.length() + 1), ";-0159ANDRx ".charAt(dice.nextInt(12)));
        }
        return text.toString();
    }

    private static String drawCommand(Random dice) {
        switch (dice.nextInt(10)) {
            case 0: return "N" + dice.nextInt(dice.nextInt(4) == 0 ? 60 : 5);
            case 1: return "R" + dice.nextInt(dice.nextInt(9) == 0 ? 5 : 3);
            case 2: case 3: return "A";
            case 4: return "Z" + dice.nextInt(dice.nextInt(9) == 0 ? 5 : 3);
            case 5: return "F" + (dice.nextInt(9) == 0 ? dice.nextInt(20) : 1 + dice.nextInt(16));
            case 6: return "W" + dice.nextInt(dice.nextInt(9) == 0 ? 120000 : 5000);
            case 7: return "D" + (dice.nextInt(9) == 0 ? dice.nextInt(60000001) - 30000000 : drawDc(dice));
            default: return "G" + (dice.nextInt(9) == 0 ? dice.nextInt(12) : 1 + dice.nextInt(9));
        }
    }

    private static long ask(VoltSlopes x, String call) {
        String[] words = call.split(" ");
        int[] n = new int[4];
        for (int i = 1; i < words.length; i++) {
            n[i] = Integer.parseInt(words[i]);
        }
        switch (words[0]) {
            case "letter": return x.letter(n[1]);
            case "blank": return x.blank();
            case "fault": return x.fault();
            case "set": return x.set();
            case "dc": return x.dc(n[1]);
            case "hum": return x.hum(n[1], n[2]);
            case "noise": return x.noise(n[1]);
            case "seed": return x.seed(n[1]);
            case "amplifier": return x.amplifier(n[1], n[2]);
            case "correct": return x.correct(n[1], n[2]);
            case "go": return x.go(n[1]);
            case "convert": return x.convert(n[1]);
            case "sweep": return x.sweep(n[1], n[2], n[3]);
            case "clear": return x.clear();
            case "latest": return x.latest(n[1]);
            case "reading": return x.reading(n[1], n[2]);
            case "filter": return x.filter(n[1]);
            case "held": return x.held(n[1], n[2]);
            case "about": return x.about(n[1]);
            case "zero": return x.zero(n[1], n[2]);
            case "input": return x.input(n[1]);
            case "count": return x.count(n[1]);
            default: return x.digest();
        }
    }

    /** The document's words, done as plainly as they stand there. */
    private static final class Model {
        static final long UNKNOWN = -1000000001, OUTSIDE = -1000000002, STATE = -1000000003, FULL = -1000000004;
        static final long[] W = {0, 309, 588, 809, 951, 1000, 951, 809, 588, 309, 0, -309, -588, -809, -951, -1000, -951, -809, -588, -309};
        String page = "";
        long dc, hum, wave, noise, seed = 1, range, offset, creep, tick;
        long n = 10, zeroing = 1, k = 4, window, factor, shift;
        boolean auto = true;
        long[] last = null;
        long sum, truth;
        boolean over;
        final List<Long> values = new ArrayList<>();
        final List<long[]> readings = new ArrayList<>();
        final Map<Long, long[]> kept = new HashMap<>();
        final long[] counts = new long[9];

        long answer(String call) {
            String[] words = call.split(" ");
            long[] a = new long[4];
            for (int i = 1; i < words.length; i++) {
                a[i] = Long.parseLong(words[i]);
            }
            switch (words[0]) {
                case "letter": return letter(a[1]);
                case "blank": { int had = page.length(); page = ""; return had; }
                case "fault": return fault();
                case "set": return set();
                case "dc": { if (Math.abs(a[1]) > 25000000) return OUTSIDE; long was = dc; dc = a[1]; return was; }
                case "hum": { if (a[1] < 0 || a[1] > 2000000 || a[2] < 0 || a[2] > 2) return OUTSIDE; long was = hum; hum = a[1]; wave = a[2]; return was; }
                case "noise": { if (a[1] < 0 || a[1] > 10000) return OUTSIDE; long was = noise; noise = a[1]; return was; }
                case "seed": { if (a[1] < 0) return OUTSIDE; long was = seed; seed = a[1]; return was; }
                case "amplifier": { if (Math.abs(a[1]) > 2000 || Math.abs(a[2]) > 50) return OUTSIDE; long was = offset; offset = a[1]; creep = a[2]; return was; }
                case "correct": { if (Math.abs(a[1]) > 1000 || Math.abs(a[2]) > 1000000) return OUTSIDE; long was = factor; factor = a[1]; shift = a[2]; return was; }
                case "go": { if (a[1] < 1 || a[1] > 8) return OUTSIDE; long before = counts[2]; take(a[1]); return counts[2] - before; }
                case "convert": { if (a[1] < 0 || a[1] > 1) return OUTSIDE; conversion(a[1] == 1); return over ? 1 : 0; }
                case "sweep": return sweep(a[1], a[2], a[3]);
                case "clear": { int had = values.size(); values.clear(); kept.clear(); return had; }
                case "latest": return a[1] < 0 || a[1] > 14 ? OUTSIDE : last == null ? STATE : last[(int) a[1]];
                case "reading": return reading(a[1], a[2]);
                case "filter": return filter(a[1]);
                case "held": { if (a[1] < 0 || a[1] >= values.size()) return UNKNOWN; if (a[2] < 0 || a[2] > 1) return OUTSIDE; long v = values.get((int) a[1]); return a[2] == 0 ? v / 1000 : v % 1000; }
                case "about": { if (a[1] < 0 || a[1] > 9) return OUTSIDE; return new long[] {range, auto ? 1 : 0, n, zeroing, k, window, dc, offset, seed, tick}[(int) a[1]]; }
                case "zero": return zero(a[1], a[2]);
                case "input": return a[1] < 0 ? OUTSIDE : input(a[1]);
                case "count": { counts[0] = page.length(); return a[1] < 0 || a[1] > 8 ? OUTSIDE : counts[(int) a[1]]; }
                default: return digest();
            }
        }

        long letter(long code) {
            if (code < 32 || code > 126) return OUTSIDE;
            if (page.length() == 40) return FULL;
            page += (char) code;
            return page.length();
        }

        static long bound(char command, boolean most) {
            switch (command) {
                case 'N': return most ? 50 : 1;
                case 'R': case 'Z': return most ? 2 : 0;
                case 'F': return most ? 16 : 1;
                case 'W': return most ? 99999 : 0;
                case 'D': return most ? 25000000 : -25000000;
                default: return most ? 9 : 1;
            }
        }

        static boolean whole(String command) {
            if (command.equals("A")) return true;
            if (!command.matches("[NRZFWDG](0|-?[1-9][0-9]{0,9})")) return false;
            long number = Long.parseLong(command.substring(1));
            return number >= bound(command.charAt(0), false) && number <= bound(command.charAt(0), true);
        }

        static boolean begun(String command) {
            if (command.isEmpty() || command.equals("D-") || whole(command)) return true;
            return command.matches("[NRZFWDG]") || command.matches("[NFG]0");
        }

        static boolean couldGoOn(String text) {
            int end = text.lastIndexOf(';');
            if (end >= 0 && !Arrays.stream(text.substring(0, end).split(";", -1)).allMatch(Model::whole)) return false;
            return begun(text.substring(end + 1));
        }

        long fault() {
            for (int i = 0; i < page.length(); i++) {
                if (!couldGoOn(page.substring(0, i + 1))) return i;
            }
            return page.length();
        }

        long set() {
            String[] commands = page.split(";", -1);
            if (!Arrays.stream(commands).allMatch(Model::whole)) return STATE;
            long before = counts[1];
            for (String command : commands) {
                long number = command.length() > 1 ? Long.parseLong(command.substring(1)) : 0;
                switch (command.charAt(0)) {
                    case 'N': n = number; break;
                    case 'R': range = number; auto = false; break;
                    case 'A': auto = true; break;
                    case 'Z': zeroing = number; break;
                    case 'F': k = number; while (values.size() > k) values.remove(0); break;
                    case 'W': window = number; break;
                    case 'D': dc = number; break;
                    default: take(number); break;
                }
            }
            page = "";
            counts[8]++;
            return counts[1] - before;
        }

        long input(long t) {
            long p = t % 20;
            long w = wave == 0 ? W[(int) p] : wave == 1 ? (p < 10 ? 1000 : -1000) : 100 * p - 950;
            return dc + hum * w / 1000;
        }

        long gain() {
            return new long[] {1, 10, 100}[(int) range];
        }

        void conversion(boolean shorted) {
            long charge = 0, plus = 0, minus = 0, switched = 0, ahead = 0;
            truth = 0;
            over = false;
            for (long cycle = 0; cycle < n; cycle++) {
                long lean = charge > 0 ? -1 : 1;
                for (long sign : new long[] {1, lean, lean, lean, lean, lean, lean, lean, lean, -1}) {
                    long in = 0;
                    if (!shorted) {
                        in = input(tick);
                        if (noise > 0) {
                            seed = (1103515245L * seed + 12345) & 0x7fffffffL;
                            in += (seed >> 16) % (2 * noise + 1) - noise;
                        }
                    }
                    long out = gain() * (in + offset);
                    if (out > 22000000) { out = 22000000; over = true; }
                    if (out < -22000000) { out = -22000000; over = true; }
                    truth += out;
                    charge += out + 25600000 * sign;
                    if (sign == 1) plus++; else minus++;
                    if (ahead != 0 && ahead != sign) switched++;
                    ahead = sign;
                    tick++;
                }
            }
            sum = -(plus - minus) * 25600000;
            long[] slopes = {25600000, 1600000, 100000, 6250}, c = new long[4];
            for (int i = 0; i < 4; i++) {
                if (charge > 0) {
                    while (charge > 0) { charge -= slopes[i]; c[i]--; tick++; }
                } else {
                    while (charge < 0) { charge += slopes[i]; c[i]++; tick++; }
                }
                sum -= c[i] * slopes[i];
            }
            last = new long[] {plus, minus, switched, c[0], c[1], c[2], c[3], charge, over ? 1 : 0, sum / 1000000, sum % 1000000,
                truth / 1000000, truth % 1000000, shorted ? 1 : 0, range};
            offset = Math.max(-2000, Math.min(2000, offset + creep));
            counts[3]++;
            if (shorted) counts[4]++;
        }

        void take(long many) {
            for (long i = 0; i < many; i++) {
                takeOne();
            }
        }

        void takeOne() {
            long number = counts[1] + 1, before = counts[3];
            boolean less = false;
            while (true) {
                conversion(false);
                if (!auto) break;
                if (range > 0 && (over || sum > 210000000 * n || -sum > 210000000 * n)) {
                    range--;
                    less = true;
                    counts[6]++;
                } else if (range < 2 && !less && !over && sum < 15000000 * n && -sum < 15000000 * n) {
                    range++;
                    counts[5]++;
                } else {
                    break;
                }
            }
            long reached = sum;
            boolean wasOver = over;
            long zero = zeroOf(number);
            long plain = (reached - zero) * 100 / (n * gain());
            long value = plain + plain / 1000000 * factor + shift * 1000;
            boolean jump = !wasOver && filtered(value);
            counts[1] = number;
            if (wasOver) counts[2]++;
            if (jump) counts[7]++;
            readings.add(0, new long[] {number, value / 1000, value % 1000, range, wasOver ? 1 : 0, counts[3] - before, jump ? 1 : 0, tick});
            if (readings.size() > 12) readings.remove(12);
        }

        long zeroOf(long number) {
            if (zeroing == 0) return 0;
            long[] z = kept.get(range);
            if (zeroing == 2 && z != null && z[1] == n && number - z[2] <= 4) return z[0];
            conversion(true);
            kept.put(range, new long[] {sum, n, number});
            return sum;
        }

        long shown() {
            return values.isEmpty() ? 0 : values.stream().mapToLong(v -> v).sum() / values.size();
        }

        boolean filtered(long value) {
            boolean jump = !values.isEmpty() && window > 0 && Math.abs(value - shown()) > window * 1000;
            if (jump) values.clear();
            values.add(value);
            while (values.size() > k) values.remove(0);
            return jump;
        }

        long sweep(long from, long step, long count) {
            if (Math.abs(from) > 25000000 || count < 1 || count > 8) return OUTSIDE;
            for (long i = 0; i < count; i++) {
                if (Math.abs(from + i * step) > 25000000) return OUTSIDE;
            }
            long was = dc, greatest = 0;
            for (long i = 0; i < count; i++) {
                dc = from + i * step;
                conversion(false);
                greatest = Math.max(greatest, Math.abs(sum - truth));
            }
            dc = was;
            return greatest;
        }

        long reading(long place, long what) {
            if (place < 0 || place >= readings.size()) return UNKNOWN;
            return what < 0 || what > 7 ? OUTSIDE : readings.get((int) place)[(int) what];
        }

        long filter(long what) {
            if (what < 0 || what > 5) return OUTSIDE;
            long least = values.stream().mapToLong(v -> v).min().orElse(0), most = values.stream().mapToLong(v -> v).max().orElse(0);
            return new long[] {shown() / 1000, shown() % 1000, values.size(), values.size() == k ? 1 : 0, least / 1000, most / 1000}[(int) what];
        }

        long zero(long at, long what) {
            if (at < 0 || at > 2 || what < 0 || what > 3) return OUTSIDE;
            long[] z = kept.get(at);
            return z == null ? STATE : new long[] {z[0] / 1000, z[0] % 1000, z[1], z[2]}[(int) what];
        }

        long digest() {
            List<Long> all = new ArrayList<>();
            for (int i = 0; i < 10; i++) all.add(answer("about " + i));
            if (last != null) for (long v : last) all.add(v);
            for (long[] r : readings) for (long v : r) all.add(v);
            for (int i = 0; i < 6; i++) all.add(filter(i));
            for (long v : values) { all.add(v / 1000); all.add(v % 1000); }
            for (long r = 0; r < 3; r++) if (kept.containsKey(r)) for (int i = 0; i < 4; i++) all.add(zero(r, i));
            for (int i = 0; i < 20; i++) all.add(input(i));
            for (char c : page.toCharArray()) all.add((long) c);
            for (int i = 0; i < 9; i++) all.add(answer("count " + i));
            long h = 1601;
            for (long v : all) h = 31 * h + v;
            return h;
        }
    }
}

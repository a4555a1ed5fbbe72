import java.util.ArrayList;
import java.util.List;
import java.util.Objects;
import java.util.Random;
import java.util.regex.Matcher;
import java.util.regex.Pattern;
import java.util.stream.IntStream;

/**
 * Runs of calls, chosen by fixed seeds, on the class and on a second program that was written from the
 * document alone and as plainly as can be; the two must answer the same, and tell the same at the end.
 * An object gets at most 512 calls, as what later calls answer is free.
 */
public final class ModelTest {
    private static final int NONE = -6;
    private static final int[] RULE_LOW = {0, 1, 1, 0, 0, 1, 1, 1};
    private static final int[] RULE_HIGH = {1000, 2000, 100, 2000, 20, 200, 5000, 5};
    private static final int[] SET_LOW = {1, 1, 0, 1, 0, 0, 0, 0};
    private static final int[] SET_HIGH = {200, 200, 199, 20, 50, 50, 10, 500};

    public static void main(String[] arguments) {
        String wrong = IntStream.range(0, 2000).parallel().mapToObj(ModelTest::run).filter(Objects::nonNull)
                .findFirst().orElse(null);
        System.out.println(wrong == null ? "the class and the model agree" : wrong);
        if (wrong != null) {
            System.exit(1);
        }
    }

    // What was wrong in the run; null if nothing was.
    private static String run(int seed) {
        String wrong = new Run(seed).go();
        return wrong == null ? null : "seed " + seed + ": " + wrong;
    }

    // ---- the model

    private static final class Fault {
        int kind, start, amount;

        Fault(int kind, int start, int amount) {
            this.kind = kind;
            this.start = start;
            this.amount = amount;
        }
    }

    private static final class Job {
        int begin, left;
        boolean hangs;
    }

    private static final class Part {
        int[] settings = {0, 0, 0, 1, 1, 50, 1, 0};
        Fault[] faults = {new Fault(0, 0, 0), new Fault(0, 0, 0)};
        Job job;
        int alive, failures, bad, resets;
        boolean late, expired;
        Integer latched;

        Part copy() {
            Part copy = new Part();
            copy.settings = settings.clone();
            copy.faults = faults.clone();
            if (job != null) {
                copy.job = new Job();
                copy.job.begin = job.begin;
                copy.job.left = job.left;
                copy.job.hangs = job.hangs;
            }
            copy.alive = alive;
            copy.failures = failures;
            copy.bad = bad;
            copy.resets = resets;
            copy.late = late;
            copy.expired = expired;
            copy.latched = latched;
            return copy;
        }
    }

    /** Thrown by a reset inside a tick, which ends the tick. */
    private static final class Reset extends RuntimeException {
        private static final long serialVersionUID = 1;

        Reset() {
            super(null, null, false, false);
        }
    }

    private static final class Model {
        int[] rules = {20, 100, 10, 40, 2, 30, 500, 3};
        List<Part> parts = new ArrayList<>();
        List<int[]> records = new ArrayList<>();
        int time, mode, image, attempts, ticksLeft = 30, u, elapsed, runs, expiredRuns;

        Model copy() {
            Model copy = new Model();
            copy.rules = rules.clone();
            for (Part part : parts) {
                copy.parts.add(part.copy());
            }
            copy.records.addAll(records);
            copy.time = time;
            copy.mode = mode;
            copy.image = image;
            copy.attempts = attempts;
            copy.ticksLeft = ticksLeft;
            copy.u = u;
            copy.elapsed = elapsed;
            copy.runs = runs;
            copy.expiredRuns = expiredRuns;
            return copy;
        }

        boolean tick() {
            boolean reset = false;
            try {
                if (mode == 0 && --ticksLeft == 0) {
                    begin();
                } else if (mode == 1) {
                    u++;
                    elapsed++;
                    for (int i = 0; i < parts.size(); i++) {
                        stepTask(i);
                    }
                    stepWatchdog(stepSupervisor());
                    if (u == rules[6]) {
                        attempts = 0;
                    }
                }
            } catch (Reset r) {
                reset = true;
            }
            time++;
            return reset;
        }

        void begin() {
            mode = 1;
            u = elapsed = runs = expiredRuns = 0;
            for (Part part : parts) {
                part.job = null;
                part.alive = part.failures = 0;
                part.late = part.expired = false;
            }
        }

        void stepTask(int i) {
            Part p = parts.get(i);
            if (p.job != null && !p.job.hangs && --p.job.left == 0) {
                p.job = null;
            }
            if (p.job == null && u % p.settings[0] == p.settings[2] % p.settings[0]) {
                Fault fault = p.faults[image];
                int kind = u >= fault.start ? fault.kind : 0;
                p.job = new Job();
                p.job.begin = u;
                p.job.left = p.settings[1];
                p.alive++;
                switch (kind) {
                    case 1: p.job.hangs = true; break;
                    case 2: p.job.left += fault.amount; break;
                    case 3: p.alive--; break;
                    case 4: p.alive++; break;
                    case 5: fall(3, i); throw new Reset();
                    default: break;
                }
            }
            if (p.job != null && p.settings[7] != 0 && u - p.job.begin > p.settings[7]) {
                p.late = true;
            }
        }

        boolean stepSupervisor() {
            if (u % rules[2] != 0) {
                return false;
            }
            runs++;
            boolean some = false;
            for (Part p : parts) {
                if (!p.expired && runs % p.settings[3] == 0) {
                    if (p.alive >= p.settings[4] && p.alive <= p.settings[5] && !p.late) {
                        if (p.failures > 0) {
                            p.failures--;
                        }
                    } else {
                        p.failures++;
                        p.bad++;
                        if (p.latched == null) {
                            p.latched = time;
                        }
                        if (p.failures > p.settings[6]) {
                            p.expired = true;
                        }
                    }
                    p.alive = 0;
                    p.late = false;
                }
                some |= p.expired;
            }
            if (some) {
                expiredRuns++;
            }
            return expiredRuns <= rules[4] && elapsed >= rules[3];
        }

        void stepWatchdog(boolean kicked) {
            if (kicked) {
                if (elapsed < rules[0]) {
                    fall(1, lowest());
                    throw new Reset();
                }
                elapsed = 0;
            } else if (elapsed > rules[1]) {
                fall(2, lowest());
                throw new Reset();
            }
        }

        int lowest() {
            for (int i = 0; i < parts.size(); i++) {
                if (parts.get(i).expired) {
                    return i;
                }
            }
            return NONE;
        }

        void fall(int cause, int task) {
            records.add(new int[] {cause, time, task, image, u});
            if (task != NONE) {
                parts.get(task).resets++;
            }
            if (++attempts >= rules[7]) {
                if (image == 1) {
                    mode = 2;
                    return;
                }
                image = 1;
                attempts = 0;
            }
            mode = 0;
            ticksLeft = rules[5];
        }

        int cycle() {
            int previous = mode;
            mode = image = attempts = 0;
            ticksLeft = rules[5];
            return previous;
        }

        int ticksToReset(int most) {
            for (int i = 1; i <= most; i++) {
                if (tick()) {
                    return i;
                }
            }
            return NONE;
        }

        Model healthy() {
            Model copy = copy();
            for (Part part : copy.parts) {
                part.faults = new Fault[] {new Fault(0, 0, 0), new Fault(0, 0, 0)};
            }
            copy.cycle();
            return copy;
        }
    }

    private static final class World {
        Model model = new Model();
        Model[] slots = new Model[2];
        String pad = "";

        int rule(int setting, int value) {
            if (setting < 0 || setting > 7 || value < RULE_LOW[setting] || value > RULE_HIGH[setting]) {
                return -2;
            }
            int previous = model.rules[setting];
            model.rules[setting] = value;
            return previous;
        }

        int addTask(int every, int duration) {
            if (every < 1 || every > 200 || duration < 1 || duration > 200) {
                return -2;
            }
            if (model.parts.size() == 6) {
                return -4;
            }
            Part part = new Part();
            part.settings[0] = every;
            part.settings[1] = duration;
            model.parts.add(part);
            return model.parts.size() - 1;
        }

        boolean no(int task) {
            return task < 0 || task >= model.parts.size();
        }

        int set(int task, int setting, int value) {
            if (no(task)) {
                return -1;
            }
            if (setting < 0 || setting > 7 || value < SET_LOW[setting] || value > SET_HIGH[setting]) {
                return -2;
            }
            int previous = model.parts.get(task).settings[setting];
            model.parts.get(task).settings[setting] = value;
            return previous;
        }

        int putFault(int image, int task, int kind, int start, int amount) {
            if (image < 0 || image > 1 || no(task)) {
                return -1;
            }
            if (kind < 0 || kind > 5 || start < 0 || start > 5000 || amount < 0 || amount > 500) {
                return -2;
            }
            Fault[] faults = model.parts.get(task).faults;
            int previous = faults[image].kind;
            faults[image] = new Fault(kind, start, amount);
            return previous;
        }

        int put(long characters) {
            StringBuilder text = new StringBuilder();
            boolean ended = false;
            for (int i = 0; i < 8; i++) {
                int code = (int) ((characters >>> (8 * i)) % 256 + 256) % 256;
                if (code == 0) {
                    ended = true;
                } else if (ended || code < 33 || code > 126) {
                    return -2;
                } else {
                    text.insert(0, (char) code);
                }
            }
            if (text.length() == 0) {
                return -2;
            }
            if (pad.length() + text.length() > 60) {
                return -4;
            }
            pad += text;
            return pad.length();
        }

        static final String START = "(0|[1-9][0-9]{0,2}|[1-4][0-9]{3}|5000)";
        static final String AMOUNT = "(0|[1-9][0-9]?|[1-4][0-9]{2}|500)";
        static final String FAULT = "([nhsktc])([0-5])(?:@" + START + ")?(?:\\*" + AMOUNT + ")?(!)?";
        static final Pattern ONE = Pattern.compile(FAULT);
        static final Pattern ALL = Pattern.compile(FAULT + "(?:," + FAULT + ")*");

        // A character can stand at its place if the text up to it is the begin of some text.
        int position() {
            for (int i = 1; i <= pad.length(); i++) {
                Matcher matcher = ALL.matcher(pad.substring(0, i));
                if (!matcher.matches() && !matcher.hitEnd()) {
                    return i - 1;
                }
            }
            return ALL.matcher(pad).matches() ? NONE : pad.length();
        }

        int load() {
            if (position() != NONE) {
                return -3;
            }
            int found = 0;
            for (String text : pad.split(",")) {
                if (no(text.charAt(1) - '0')) {
                    return -1;
                }
            }
            for (String text : pad.split(",")) {
                Matcher m = ONE.matcher(text);
                m.matches();
                int start = m.group(3) == null ? 0 : Integer.parseInt(m.group(3));
                int amount = m.group(4) == null ? 0 : Integer.parseInt(m.group(4));
                putFault(m.group(5) == null ? 0 : 1, Integer.parseInt(m.group(2)), "nhsktc".indexOf(m.group(1)),
                        start, amount);
                found++;
            }
            pad = "";
            return found;
        }

        int run(int n) {
            if (n < 1 || n > 2000) {
                return -2;
            }
            if (model.time + n > 1000000) {
                return -5;
            }
            for (int i = 0; i < n; i++) {
                model.tick();
            }
            return model.time;
        }

        int runToReset(int n) {
            if (n < 1 || n > 2000) {
                return -2;
            }
            if (model.time + n > 1000000) {
                return -5;
            }
            int ticks = model.ticksToReset(n);
            return ticks == NONE ? n : ticks;
        }

        int kick() {
            if (model.mode != 1) {
                return -5;
            }
            int previous = model.elapsed;
            if (previous < model.rules[0]) {
                model.fall(1, model.lowest());
            }
            model.elapsed = 0;
            return previous;
        }

        int reset() {
            if (model.mode != 1) {
                return -5;
            }
            model.fall(4, model.lowest());
            return model.records.size() - 1;
        }

        int state(int what) {
            Model m = model;
            if (what < 0 || what > 20) {
                return -2;
            }
            int expired = 0;
            for (int i = 0; i < m.parts.size(); i++) {
                expired += m.parts.get(i).expired ? 1 << i : 0;
            }
            boolean on = m.mode == 1;
            int[] all = {m.time, m.mode, m.image, m.attempts, m.mode == 0 ? m.ticksLeft : 0, on ? m.u : 0,
                on ? m.elapsed : 0, on ? m.runs : 0, on ? m.expiredRuns : 0, m.records.size(), m.parts.size(),
                on ? expired : 0, pad.length()};
            return what < 13 ? all[what] : m.rules[what - 13];
        }

        int task(int task, int what) {
            if (no(task)) {
                return -1;
            }
            if (what < 0 || what > 18) {
                return -2;
            }
            Part p = model.parts.get(task);
            if (what < 8) {
                return p.settings[what];
            }
            if (what < 14 && model.mode != 1) {
                return 0;
            }
            int[] all = {p.job == null ? 0 : 1, p.job == null || p.job.hangs ? 0 : p.job.left, p.alive, p.failures,
                p.late ? 1 : 0, p.expired ? 1 : 0, p.faults[0].kind, p.faults[1].kind, p.bad,
                p.latched == null ? NONE : p.latched, p.resets};
            return all[what - 8];
        }

        int record(int record, int what) {
            if (what < 0 || what > 4) {
                return -2;
            }
            int count = model.records.size();
            return record < Math.max(0, count - 16) || record >= count ? NONE : model.records.get(record)[what];
        }

        int clear(int task) {
            if (no(task)) {
                return -1;
            }
            Part p = model.parts.get(task);
            int previous = p.bad;
            p.bad = p.resets = 0;
            p.latched = null;
            return previous;
        }

        int forecast(int most) {
            return most < 1 || most > 5000 ? -2 : model.copy().ticksToReset(most);
        }

        int worstHang(int task, int first, int count, int most) {
            if (no(task)) {
                return -1;
            }
            if (first < 1 || first > 4000 || count < 1 || count > 60 || most < 1 || most > 5000) {
                return -2;
            }
            List<Integer> delays = new ArrayList<>();
            for (int start = first; start < first + count; start++) {
                Model copy = model.healthy();
                copy.parts.get(task).faults[0] = new Fault(1, start, 0);
                if (copy.ticksToReset(most) == NONE) {
                    return NONE;
                }
                delays.add(copy.records.get(copy.records.size() - 1)[4] - start);
            }
            return delays.stream().mapToInt(Integer::intValue).max().getAsInt();
        }

        int greatestKick(int most) {
            if (most < 1 || most > 1000) {
                return -2;
            }
            for (int value = 2000; value >= 0; value--) {
                Model copy = model.healthy();
                copy.rules[3] = value;
                if (copy.ticksToReset(most) == NONE) {
                    return value;
                }
            }
            return NONE;
        }

        int save(int slot) {
            if (slot < 0 || slot > 1) {
                return -2;
            }
            slots[slot] = model.copy();
            return model.time;
        }

        int restore(int slot) {
            if (slot < 0 || slot > 1) {
                return -2;
            }
            if (slots[slot] == null) {
                return -5;
            }
            model = slots[slot].copy();
            return model.time;
        }
    }

    // ---- a run

    private static final class Run {
        final WatchdogBoard x = new WatchdogBoard();
        final World y = new World();
        final Random random;
        // Small values make the tasks fail, and the windows be missed, in other ways than great ones.
        final int size;
        String call = "";

        Run(int seed) {
            random = new Random(seed);
            size = 3 + random.nextInt(40);
        }

        String go() {
            StringBuilder calls = new StringBuilder();
            int tasks = random.nextInt(7);
            for (int i = 0; i < tasks; i++) {
                int every = 1 + random.nextInt(size);
                int duration = 1 + random.nextInt(size);
                x.addTask(every, duration);
                y.addTask(every, duration);
                calls.append("addTask(").append(every).append(", ").append(duration).append(") ");
            }
            // With the tasks before and the 332 questions at the end there are at most 508 calls.
            for (int i = between(1, 170); i > 0; i--) {
                long[] answers = call();
                calls.append(call).append(' ');
                if (answers[0] != answers[1]) {
                    return calls + "answered " + answers[0] + ", the model " + answers[1];
                }
            }
            String differs = difference();
            return differs == null ? null : calls + differs;
        }

        String difference() {
            for (int what = -1; what < 22; what++) {
                if (x.state(what) != y.state(what)) {
                    return "state(" + what + ") is " + x.state(what) + ", the model's " + y.state(what);
                }
            }
            for (int i = -1; i < 7; i++) {
                for (int what = -1; what < 20; what++) {
                    if (x.task(i, what) != y.task(i, what)) {
                        return "task(" + i + ", " + what + ") is " + x.task(i, what) + ", the model's " + y.task(i, what);
                    }
                }
            }
            int count = y.model.records.size();
            for (int i = count - 18; i < count + 2; i++) {
                for (int what = -1; what < 6; what++) {
                    if (x.record(i, what) != y.record(i, what)) {
                        return "record(" + i + ", " + what + ") is " + x.record(i, what);
                    }
                }
            }
            return x.position() == y.position() ? null : "position() is " + x.position();
        }

        int between(int low, int high) {
            return low + random.nextInt(high - low + 1);
        }

        // Mostly a value of the range, and of its lower end; sometimes one just outside of it.
        int value(int low, int high) {
            switch (random.nextInt(12)) {
                case 0: return between(low, high);
                case 1: return high;
                case 2: return random.nextInt(3) == 0 ? high + 1 : low;
                case 3: return random.nextInt(3) == 0 ? low - 1 : low;
                default: return between(low, Math.min(high, low + size));
            }
        }

        long text() {
            String signs = random.nextInt(6) == 0 ? "nhsktc0123456789@*!,x~" : null;
            StringBuilder text = new StringBuilder();
            if (signs != null) {
                for (int i = between(1, 8); i > 0; i--) {
                    text.append(signs.charAt(random.nextInt(signs.length())));
                }
            } else {
                text.append(y.pad.isEmpty() || random.nextInt(9) == 0 ? "" : ",");
                text.append("nhsktc".charAt(random.nextInt(6))).append(random.nextInt(5));
                if (random.nextInt(3) == 0) {
                    text.append('@').append(between(0, 60));
                }
                if (random.nextInt(3) == 0) {
                    text.append('*').append(between(0, 60));
                }
                if (random.nextInt(3) == 0) {
                    text.append('!');
                }
            }
            long number = 0;
            for (int i = 0; i < Math.min(8, text.length()); i++) {
                number = number * 256 + text.charAt(i);
            }
            return random.nextInt(30) == 0 ? random.nextLong() : number;
        }

        long[] call() {
            int kind = random.nextInt(52);
            int a = value(0, 5), b, c, d, e;
            switch (kind) {
                case 0: case 1: case 2: case 3: case 4: case 5:
                    a = value(0, 7);
                    b = a < 0 || a > 7 ? 0 : value(RULE_LOW[a], RULE_HIGH[a]);
                    call = "rule(" + a + ", " + b + ")";
                    return new long[] {x.rule(a, b), y.rule(a, b)};
                case 6:
                    a = value(1, 200);
                    b = value(1, 200);
                    call = "addTask(" + a + ", " + b + ")";
                    return new long[] {x.addTask(a, b), y.addTask(a, b)};
                case 7: case 8: case 9: case 10: case 11:
                    b = value(0, 7);
                    c = b < 0 || b > 7 ? 0 : value(SET_LOW[b], SET_HIGH[b]);
                    call = "set(" + a + ", " + b + ", " + c + ")";
                    return new long[] {x.set(a, b, c), y.set(a, b, c)};
                case 12: case 13: case 14:
                    b = value(0, 1);
                    c = value(0, 5);
                    d = value(0, 5000);
                    e = value(0, 500);
                    call = "putFault(" + b + ", " + a + ", " + c + ", " + d + ", " + e + ")";
                    return new long[] {x.putFault(b, a, c, d, e), y.putFault(b, a, c, d, e)};
                case 15: case 16: case 17: case 18: case 19:
                    long text = text();
                    call = "put(" + text + ")";
                    return new long[] {x.put(text), y.put(text)};
                case 20:
                    call = "wipe()";
                    int length = y.pad.length();
                    y.pad = "";
                    return new long[] {x.wipe(), length};
                case 21: case 22: case 23:
                    call = "load()";
                    return new long[] {x.load(), y.load()};
                case 24: case 25: case 26: case 27:
                    a = random.nextInt(5) == 0 ? value(1, 2000) : between(1, 80);
                    call = "run(" + a + ")";
                    return new long[] {x.run(a), y.run(a)};
                case 28: case 29:
                    a = value(1, 2000);
                    call = "runToReset(" + a + ")";
                    return new long[] {x.runToReset(a), y.runToReset(a)};
                case 30: case 31:
                    call = "kick()";
                    return new long[] {x.kick(), y.kick()};
                case 32:
                    call = "reset()";
                    return new long[] {x.reset(), y.reset()};
                case 33: case 34: case 35:
                    call = "powerCycle()";
                    return new long[] {x.powerCycle(), y.model.cycle()};
                case 36:
                    call = "clear(" + a + ")";
                    return new long[] {x.clear(a), y.clear(a)};
                case 37: case 38:
                    a = random.nextInt(3) == 0 ? value(1, 5000) : between(1, 3000);
                    call = "forecast(" + a + ")";
                    return new long[] {x.forecast(a), y.forecast(a)};
                case 39: case 40:
                    b = value(1, 4000);
                    c = value(1, 60);
                    d = random.nextInt(3) == 0 ? value(1, 5000) : between(500, 5000);
                    call = "worstHang(" + a + ", " + b + ", " + c + ", " + d + ")";
                    return new long[] {x.worstHang(a, b, c, d), y.worstHang(a, b, c, d)};
                case 41:
                    a = random.nextInt(3) == 0 ? value(1, 1000) : between(30, 1000);
                    call = "greatestKick(" + a + ")";
                    return new long[] {x.greatestKick(a), y.greatestKick(a)};
                case 42: case 43: case 44:
                    a = random.nextInt(21);
                    call = "state(" + a + ")";
                    return new long[] {x.state(a), y.state(a)};
                case 45: case 46: case 47:
                    b = random.nextInt(19);
                    call = "task(" + a + ", " + b + ")";
                    return new long[] {x.task(a, b), y.task(a, b)};
                case 48:
                    a = y.model.records.size() - random.nextInt(18);
                    b = random.nextInt(5);
                    call = "record(" + a + ", " + b + ")";
                    return new long[] {x.record(a, b), y.record(a, b)};
                case 49:
                    call = "position()";
                    return new long[] {x.position(), y.position()};
                case 50:
                    a = value(0, 1);
                    call = "save(" + a + ")";
                    return new long[] {x.save(a), y.save(a)};
                default:
                    a = value(0, 1);
                    call = "restore(" + a + ")";
                    return new long[] {x.restore(a), y.restore(a)};
            }
        }
    }
}

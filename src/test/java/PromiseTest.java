/** A test, or more, for each promise of the document, with answers that were worked out by hand. */
public final class PromiseTest {
    private static final int NO_SUCH = -1, BAD_VALUE = -2, BAD_TEXT = -3, TOO_MANY = -4, NOT_POSSIBLE = -5, NONE = -6;
    private static final int OPEN = 0, CLOSE = 1, PERIOD = 2, KICK = 3, GRACE = 4, BOOT = 5, STABLE = 6, ATTEMPTS = 7;
    private static final int EVERY = 0, DURATION = 1, OFFSET = 2, CYCLE = 3, LEAST = 4, MOST = 5, TOLERANCE = 6, DEADLINE = 7;
    private static final int NO_FAULT = 0, HANG = 1, SLOW = 2, SKIP = 3, TWICE = 4, CRASH = 5;
    private static final int BOOTING = 0, RUNNING = 1, SAFE = 2;
    private static final int EARLY = 1, TIMEOUT = 2, CRASHED = 3, COMMAND = 4;
    // Numbers for state(what):
    private static final int TIME = 0, MODE = 1, IMAGE = 2, TRIED = 3, BOOT_LEFT = 4, U = 5, ELAPSED = 6, RUNS = 7,
            EXPIRED_RUNS = 8, RESETS = 9, TASKS = 10, EXPIRED_SET = 11, PAD = 12, RULES = 13;
    // Numbers for task(task, what):
    private static final int JOB = 8, LEFT = 9, ALIVE = 10, FAILURES = 11, LATE = 12, EXPIRED = 13, FAULT_0 = 14,
            FAULT_1 = 15, BAD_CYCLES = 16, LATCHED = 17, TASK_RESETS = 18;

    private static final int[] RULE_LOWEST = {0, 1, 1, 0, 0, 1, 1, 1};
    private static final int[] RULE_GREATEST = {1000, 2000, 100, 2000, 20, 200, 5000, 5};
    private static final int[] RULE_FIRST = {20, 100, 10, 40, 2, 30, 500, 3};
    private static final int[] SETTING_LOWEST = {1, 1, 0, 1, 0, 0, 0, 0};
    private static final int[] SETTING_GREATEST = {200, 200, 199, 20, 50, 50, 10, 500};
    private static final int[] EXTREMES = {-1, 100, Integer.MIN_VALUE, Integer.MAX_VALUE};

    private static int wrong = 0;
    private static int promise = 0;

    private static void due(String what, long got, long want) {
        if (got != want) {
            wrong++;
            System.out.println("promise " + promise + ": " + what + " answered " + got + ", due is " + want);
        }
    }

    public static void main(String[] arguments) {
        promise = 1; newObject();
        promise = 2; rule(); ruleWhileBooting();
        promise = 3; addTask(); addTaskWhileRunning(); addTaskAfterRestore();
        promise = 4; set(); setKeepsJob(); setDeadlineOfJob();
        promise = 5; putFault(); putFaultKeepsJob(); putFaultStart();
        promise = 6; put();
        promise = 7; wipe();
        promise = 8; position(); positionOfNumbers();
        promise = 9; load(); loadErrors();
        promise = 10; run(); booting(); secondBoot(); schedule(); faults(); cycles(); tolerance(); expiry(); deadlines();
        watchdog(); stable(); imagesAndSafe(); timeLimit();
        promise = 11; runToReset();
        promise = 12; kick();
        promise = 13; reset();
        promise = 14; powerCycle();
        promise = 15; state();
        promise = 16; task(); diagnostics();
        promise = 17; record(); recordsKept();
        promise = 18; clear();
        promise = 19; forecast();
        promise = 20; worstHang(); worstHangOtherCauses();
        promise = 21; greatestKick(); greatestKickOfTheLowest();
        promise = 22; save();
        promise = 23; restore(); restoreJobs();
        System.out.println(wrong == 0 ? "all promises are kept" : wrong + " answers are wrong");
        if (wrong != 0) {
            System.exit(1);
        }
    }

    // ---- helpers

    // Puts a text into the pad, eight characters a call.
    private static int putText(WatchdogBoard x, String text) {
        int answer = 0;
        for (int i = 0; i < text.length(); i += 8) {
            answer = x.put(number(text.substring(i, Math.min(text.length(), i + 8))));
        }
        return answer;
    }

    private static long number(String text) {
        long number = 0;
        for (int i = 0; i < text.length(); i++) {
            number = number * 256 + text.charAt(i);
        }
        return number;
    }

    private static int positionOf(String text) {
        WatchdogBoard x = new WatchdogBoard();
        putText(x, text);
        return x.position();
    }

    // A board with one task that runs from the next tick on, as nearly nothing disturbs it.
    private static WatchdogBoard running(int every, int duration) {
        WatchdogBoard x = quick();
        x.addTask(every, duration);
        x.run(1);
        return x;
    }

    // A board that boots in one tick and has a wide window.
    private static WatchdogBoard quick() {
        WatchdogBoard x = new WatchdogBoard();
        x.rule(BOOT, 1);
        x.rule(OPEN, 0);
        x.rule(CLOSE, 2000);
        x.powerCycle();
        return x;
    }

    // ---- promise 1

    private static void newObject() {
        WatchdogBoard x = new WatchdogBoard();
        for (int what = 0; what < RULES; what++) {
            due("state " + what, x.state(what), what == BOOT_LEFT ? 30 : 0);
        }
        for (int i = 0; i < 8; i++) {
            due("rule " + i, x.state(RULES + i), RULE_FIRST[i]);
        }
        due("task", x.task(0, 0), NO_SUCH);
        due("record", x.record(0, 0), NONE);
        due("slot 0", x.restore(0), NOT_POSSIBLE);
        due("slot 1", x.restore(1), NOT_POSSIBLE);
        due("position", x.position(), 0);
        WatchdogBoard y = new WatchdogBoard();
        y.addTask(1, 1);
        y.rule(OPEN, 5);
        y.run(5);
        due("tasks of the other object", x.state(TASKS), 0);
        due("OPEN of the other object", x.state(RULES), 20);
        due("time of the other object", x.state(TIME), 0);
        due("first OPEN of a third object", new WatchdogBoard().state(RULES), 20);
    }

    // ---- promise 2

    private static void rule() {
        for (int i = 0; i < 8; i++) {
            WatchdogBoard x = new WatchdogBoard();
            due("too low " + i, x.rule(i, RULE_LOWEST[i] - 1), BAD_VALUE);
            due("too great " + i, x.rule(i, RULE_GREATEST[i] + 1), BAD_VALUE);
            due("least int " + i, x.rule(i, Integer.MIN_VALUE), BAD_VALUE);
            due("greatest int " + i, x.rule(i, Integer.MAX_VALUE), BAD_VALUE);
            due("unchanged " + i, x.state(RULES + i), RULE_FIRST[i]);
            due("lowest " + i, x.rule(i, RULE_LOWEST[i]), RULE_FIRST[i]);
            due("greatest " + i, x.rule(i, RULE_GREATEST[i]), RULE_LOWEST[i]);
            due("previous " + i, x.rule(i, RULE_FIRST[i]), RULE_GREATEST[i]);
            for (int j = 0; j < 8; j++) {
                due("other rule " + j, x.state(RULES + j), RULE_FIRST[j]);
            }
        }
        WatchdogBoard x = new WatchdogBoard();
        due("setting 8", x.rule(8, 1), BAD_VALUE);
        for (int setting : EXTREMES) {
            due("setting " + setting, x.rule(setting, 1), BAD_VALUE);
        }
    }

    private static void ruleWhileBooting() {
        WatchdogBoard x = new WatchdogBoard();
        x.run(5);
        due("BOOT", x.rule(BOOT, 3), 30);
        due("ticks left stay", x.state(BOOT_LEFT), 25);
        x.run(25);
        due("mode", x.state(MODE), RUNNING);
        x.reset();
        due("ticks left of the next boot", x.state(BOOT_LEFT), 3);
    }

    // ---- promise 3

    private static void addTask() {
        WatchdogBoard x = new WatchdogBoard();
        int[][] bad = {{0, 1}, {1, 0}, {201, 1}, {1, 201}, {-1, 1}, {1, Integer.MIN_VALUE}, {Integer.MAX_VALUE, 1}};
        for (int[] pair : bad) {
            due("bad " + pair[0] + " " + pair[1], x.addTask(pair[0], pair[1]), BAD_VALUE);
        }
        due("no task", x.state(TASKS), 0);
        due("first", x.addTask(1, 200), 0);
        due("second", x.addTask(200, 1), 1);
        for (int i = 2; i < 6; i++) {
            due("task " + i, x.addTask(10 + i, i), i);
        }
        due("seventh", x.addTask(1, 1), TOO_MANY);
        due("seventh with a bad value", x.addTask(0, 1), BAD_VALUE);
        due("tasks", x.state(TASKS), 6);
        int[] due = {15, 5, 0, 1, 1, 50, 1, 0, 0, 0, 0, 0, 0, 0, 0, 0, 0, NONE, 0};
        for (int what = 0; what < due.length; what++) {
            due("task 5 " + what, x.task(5, what), due[what]);
        }
        due("EVERY of 0", x.task(0, EVERY), 1);
        due("DURATION of 0", x.task(0, DURATION), 200);
    }

    private static void addTaskWhileRunning() {
        WatchdogBoard x = quick();
        x.run(8);
        due("added", x.addTask(4, 10), 0);
        due("u", x.state(U), 7);
        due("no job", x.task(0, JOB), 0);
        x.run(1);
        due("job", x.task(0, JOB), 1);
        due("alive", x.task(0, ALIVE), 1);
    }

    // A restored board has forgotten the task, and the next one of its number must be a new one.
    private static void addTaskAfterRestore() {
        WatchdogBoard x = quick();
        x.rule(PERIOD, 1);
        x.run(1);
        x.save(0);
        x.addTask(1, 50);
        x.set(0, TOLERANCE, 0);
        x.set(0, OFFSET, 3);
        x.set(0, DEADLINE, 1);
        x.putFault(0, 0, SKIP, 0, 9);
        x.putFault(1, 0, CRASH, 0, 9);
        x.run(5);
        x.reset();
        due("count of resets before", x.task(0, TASK_RESETS), 1);
        x.run(3);
        due("expired before", x.task(0, EXPIRED), 1);
        x.restore(0);
        due("forgotten", x.task(0, 0), NO_SUCH);
        x.addTask(7, 8);
        int[] due = {7, 8, 0, 1, 1, 50, 1, 0, 0, 0, 0, 0, 0, 0, 0, 0, 0, NONE, 0};
        for (int what = 0; what < due.length; what++) {
            due("new task " + what, x.task(0, what), due[what]);
        }
    }

    // ---- promise 4

    private static void set() {
        for (int i = 0; i < 8; i++) {
            WatchdogBoard x = new WatchdogBoard();
            x.addTask(11, 12);
            x.addTask(21, 22);
            int[] first = {21, 22, 0, 1, 1, 50, 1, 0};
            due("too low " + i, x.set(1, i, SETTING_LOWEST[i] - 1), BAD_VALUE);
            due("too great " + i, x.set(1, i, SETTING_GREATEST[i] + 1), BAD_VALUE);
            due("least int " + i, x.set(1, i, Integer.MIN_VALUE), BAD_VALUE);
            due("greatest int " + i, x.set(1, i, Integer.MAX_VALUE), BAD_VALUE);
            due("unchanged " + i, x.task(1, i), first[i]);
            due("lowest " + i, x.set(1, i, SETTING_LOWEST[i]), first[i]);
            due("greatest " + i, x.set(1, i, SETTING_GREATEST[i]), SETTING_LOWEST[i]);
            due("previous " + i, x.set(1, i, first[i]), SETTING_GREATEST[i]);
            int[] other = {11, 12, 0, 1, 1, 50, 1, 0};
            for (int j = 0; j < 8; j++) {
                due("task 1 has " + j, x.task(1, j), first[j]);
                due("task 0 has " + j, x.task(0, j), other[j]);
            }
        }
        WatchdogBoard x = new WatchdogBoard();
        due("no task yet", x.set(0, 0, 1), NO_SUCH);
        x.addTask(1, 1);
        due("task 1", x.set(1, 9, 0), NO_SUCH);
        due("setting 8", x.set(0, 8, 1), BAD_VALUE);
        for (int extreme : EXTREMES) {
            due("task " + extreme, x.set(extreme, 0, 1), NO_SUCH);
            due("setting " + extreme, x.set(0, extreme, 1), BAD_VALUE);
        }
    }

    private static void setKeepsJob() {
        WatchdogBoard x = running(10, 6);
        x.run(10);
        due("left at the begin", x.task(0, LEFT), 6);
        x.set(0, DURATION, 2);
        due("left stays", x.task(0, LEFT), 6);
        x.run(5);
        due("left", x.task(0, LEFT), 1);
        x.run(1);
        due("ended", x.task(0, JOB), 0);
        x.run(4);
        due("left of the next job", x.task(0, LEFT), 2);
    }

    private static void setDeadlineOfJob() {
        WatchdogBoard x = running(100, 50);
        x.rule(PERIOD, 100);
        x.run(100 + 7);
        x.set(0, DEADLINE, 8);
        due("not late yet", x.task(0, LATE), 0);
        x.run(1);
        due("at the deadline", x.task(0, LATE), 0);
        x.run(1);
        due("behind the deadline", x.task(0, LATE), 1);
    }

    // ---- promise 5

    private static void putFault() {
        WatchdogBoard x = new WatchdogBoard();
        due("no task yet", x.putFault(0, 0, HANG, 0, 0), NO_SUCH);
        x.addTask(10, 1);
        x.addTask(10, 1);
        for (int extreme : EXTREMES) {
            due("image " + extreme, x.putFault(extreme, 0, -1, -1, -1), NO_SUCH);
            due("task " + extreme, x.putFault(0, extreme, -1, -1, -1), NO_SUCH);
            due("kind " + extreme, x.putFault(0, 0, extreme, 0, 0), BAD_VALUE);
        }
        due("image 2", x.putFault(2, 0, HANG, 0, 0), NO_SUCH);
        due("task 2", x.putFault(0, 2, HANG, 0, 0), NO_SUCH);
        due("kind 6", x.putFault(0, 0, 6, 0, 0), BAD_VALUE);
        due("start -1", x.putFault(0, 0, HANG, -1, 0), BAD_VALUE);
        due("start 5001", x.putFault(0, 0, HANG, 5001, 0), BAD_VALUE);
        due("amount -1", x.putFault(0, 0, HANG, 0, -1), BAD_VALUE);
        due("amount 501", x.putFault(0, 0, NO_FAULT, 0, 501), BAD_VALUE);
        due("unchanged", x.task(0, FAULT_0), NO_FAULT);
        due("greatest", x.putFault(0, 0, CRASH, 5000, 500), NO_FAULT);
        due("instead", x.putFault(0, 0, SKIP, 0, 0), CRASH);
        due("image 1", x.putFault(1, 0, TWICE, 0, 0), NO_FAULT);
        due("image 1 again", x.putFault(1, 0, NO_FAULT, 0, 0), TWICE);
        due("image 0 again", x.putFault(0, 0, HANG, 0, 0), SKIP);
        due("image 0 has", x.task(0, FAULT_0), HANG);
        due("image 1 has", x.task(0, FAULT_1), NO_FAULT);
        due("task 1 has", x.task(1, FAULT_0), NO_FAULT);
    }

    private static void putFaultKeepsJob() {
        WatchdogBoard x = running(10, 4);
        x.run(10);
        x.putFault(0, 0, HANG, 0, 0);
        due("does not hang", x.task(0, LEFT), 4);
        x.run(4);
        due("ended", x.task(0, JOB), 0);
        x.run(6);
        due("the next one hangs", x.task(0, JOB) * 10 + x.task(0, LEFT), 10);
        x.putFault(0, 0, NO_FAULT, 0, 0);
        x.run(20);
        due("hangs on", x.task(0, JOB) * 10 + x.task(0, LEFT), 10);
    }

    private static void putFaultStart() {
        WatchdogBoard x = running(10, 1);
        x.putFault(0, 0, HANG, 20, 0);
        x.run(11);
        due("before the start", x.task(0, JOB), 0);
        x.run(10);
        due("at the start", x.task(0, JOB), 1);
        WatchdogBoard y = running(10, 1);
        y.putFault(0, 0, HANG, 21, 0);
        y.run(21);
        due("one before the start", y.task(0, JOB), 0);
        WatchdogBoard z = running(10, 1);
        z.putFault(1, 0, HANG, 0, 0);
        z.run(21);
        due("the other image", z.task(0, JOB), 0);
    }

    // ---- promise 6

    private static void put() {
        WatchdogBoard x = new WatchdogBoard();
        due("no character", x.put(0), BAD_VALUE);
        due("code 32", x.put(32), BAD_VALUE);
        due("code 127", x.put(127), BAD_VALUE);
        due("code 128", x.put(128), BAD_VALUE);
        due("code 255 first", x.put(0xFF21212121212121L), BAD_VALUE);
        due("minus one", x.put(-1), BAD_VALUE);
        due("least long", x.put(Long.MIN_VALUE), BAD_VALUE);
        due("a gap", x.put(number("h") * 65536 + number("0")), BAD_VALUE);
        due("a gap at the end", x.put(number("h") * 256), BAD_VALUE);
        due("a bit above a gap", x.put((1L << 63) + number("h")), BAD_VALUE);
        due("code 32 inside", x.put(number("h 0")), BAD_VALUE);
        due("still empty", x.state(PAD), 0);
        due("code 33", x.put(33), 1);
        due("code 126", x.put(126), 2);
        due("eight", x.put(number("~~~~!!!!")), 10);
        for (int i = 18; i <= 58; i += 8) {
            due("length " + i, x.put(number("abcdefgh")), i);
        }
        due("too long", x.put(number("abc")), TOO_MANY);
        due("wrong and too long", x.put(number("a c")), BAD_VALUE);
        due("length", x.state(PAD), 58);
        due("full", x.put(number("ab")), 60);
        due("one too many", x.put(number("a")), TOO_MANY);
        WatchdogBoard y = new WatchdogBoard();
        y.put(number("h5@40"));
        y.put(number("*7!"));
        due("in their order", y.position(), NONE);
    }

    // ---- promise 7

    private static void wipe() {
        WatchdogBoard x = new WatchdogBoard();
        due("empty", x.wipe(), 0);
        putText(x, "h0,h1");
        due("five", x.wipe(), 5);
        due("empty again", x.wipe(), 0);
        due("length", x.state(PAD), 0);
        due("starts anew", putText(x, "h0"), 2);
        due("nothing of the old one", x.position(), NONE);
    }

    // ---- promise 8

    private static void position() {
        String[] fine = {"n0", "h5", "s1@0", "k2*0", "t3!", "c4@5000*500!", "h0,h1", "h0!,s1*3,n2@7",
            "n0,n0,n0,n0,n0,n0,n0,n0,n0,n0,n0,n0,n0,n0,n0,n0,n0,n0,n0,n0", "s0@4999*499!,c1@10"};
        for (String text : fine) {
            due(text, positionOf(text), NONE);
        }
        String[] early = {"", "h", "h0,", "h0@", "h0*", "h0@5*", "h0!,", "h0,s",
            "n0,n0,n0,n0,n0,n0,n0,n0,n0,n0,n0,n0,n0,n0,n0,n0,n0,n0,n0,n0,"};
        for (String text : early) {
            due(text, positionOf(text), text.length());
        }
        String[] wrongs = {"x0", "0", ",", "H0", "@5"};
        for (String text : wrongs) {
            due(text, positionOf(text), 0);
        }
        due("h6", positionOf("h6"), 1);
        due("hh", positionOf("hh"), 1);
        due("h,", positionOf("h,"), 1);
        due("h00", positionOf("h00"), 2);
        due("h0x", positionOf("h0x"), 2);
        due("h0h1", positionOf("h0h1"), 2);
        due("h0!!", positionOf("h0!!"), 3);
        due("h0!@5", positionOf("h0!@5"), 3);
        due("h0!*5", positionOf("h0!*5"), 3);
        due("h0,,", positionOf("h0,,"), 3);
        due("h0,6", positionOf("h0,6"), 3);
        due("h0@!", positionOf("h0@!"), 3);
        due("h0*@5", positionOf("h0*@5"), 3);
        due("h0*5@6", positionOf("h0*5@6"), 4);
        due("h0@5@6", positionOf("h0@5@6"), 4);
        due("h0*5*6", positionOf("h0*5*6"), 4);
        due("h0@-1", positionOf("h0@-1"), 3);
        due("the first of two", positionOf("h0,hx,yy"), 4);
    }

    private static void positionOfNumbers() {
        due("5001", positionOf("s0@5001"), 6);
        due("5010", positionOf("s0@5010"), 6);
        due("6000", positionOf("s0@6000"), 6);
        due("999", positionOf("s0@999"), NONE);
        due("50000", positionOf("s0@50000"), 7);
        due("00", positionOf("s0@00"), 4);
        due("01", positionOf("s0@01"), 4);
        due("0*", positionOf("s0@0*1"), NONE);
        due("501", positionOf("s0*501"), 5);
        due("510", positionOf("s0*510"), 5);
        due("600", positionOf("s0*600"), 5);
        due("5000", positionOf("s0*5000"), 6);
        due("*00", positionOf("s0*00"), 4);
        due("5000*500", positionOf("s0@5000*500"), NONE);
    }

    // ---- promise 9

    private static void load() {
        WatchdogBoard x = new WatchdogBoard();
        for (int i = 0; i < 6; i++) {
            x.addTask(10, 1);
        }
        putText(x, "h0,s1@20*3!,k2,t3!,c4@5000,n5");
        due("six", x.load(), 6);
        due("emptied", x.state(PAD), 0);
        int[] image0 = {HANG, NO_FAULT, SKIP, NO_FAULT, CRASH, NO_FAULT};
        int[] image1 = {NO_FAULT, SLOW, NO_FAULT, TWICE, NO_FAULT, NO_FAULT};
        for (int i = 0; i < 6; i++) {
            due("image 0 task " + i, x.task(i, FAULT_0), image0[i]);
            due("image 1 task " + i, x.task(i, FAULT_1), image1[i]);
        }
        putText(x, "s0,k0,n2");
        due("one after the other", x.load(), 3);
        due("the last one stays", x.task(0, FAULT_0), SKIP);
        due("no fault any more", x.task(2, FAULT_0), NO_FAULT);
        WatchdogBoard y = running(10, 2);
        putText(y, "s0@11*5");
        due("one", y.load(), 1);
        y.run(10);
        due("before the start", y.task(0, LEFT), 2);
        y.run(10);
        due("from the start on", y.task(0, LEFT), 7);
        putText(y, "s0");
        y.load();
        y.run(10);
        due("without an amount and a start", y.task(0, LEFT), 2);
    }

    private static void loadErrors() {
        WatchdogBoard x = new WatchdogBoard();
        x.addTask(1, 1);
        due("empty", x.load(), BAD_TEXT);
        putText(x, "h0,h1");
        due("no task 1", x.load(), NO_SUCH);
        due("nothing put", x.task(0, FAULT_0), NO_FAULT);
        due("pad stays", x.state(PAD), 5);
        putText(x, ",");
        due("bad text first", x.load(), BAD_TEXT);
        due("pad stays with a bad text", x.state(PAD), 6);
        x.wipe();
        putText(x, "n1!");
        due("no task 1 for no fault", x.load(), NO_SUCH);
        x.addTask(1, 1);
        due("now it is there", x.load(), 1);
    }

    // ---- promise 10: time, modes and resets

    private static void run() {
        WatchdogBoard x = new WatchdogBoard();
        for (int extreme : new int[] {0, -1, 2001, Integer.MIN_VALUE, Integer.MAX_VALUE}) {
            due("n " + extreme, x.run(extreme), BAD_VALUE);
        }
        due("time stays", x.state(TIME), 0);
        due("one", x.run(1), 1);
        due("2000", x.run(2000), 2001);
    }

    private static void booting() {
        WatchdogBoard x = new WatchdogBoard();
        x.run(29);
        due("booting", x.state(MODE), BOOTING);
        due("left", x.state(BOOT_LEFT), 1);
        x.run(1);
        due("running", x.state(MODE), RUNNING);
        due("u", x.state(U), 0);
        x.run(1);
        due("first tick", x.state(U), 1);
        due("elapsed", x.state(ELAPSED), 1);
        x.reset();
        x.run(31);
        due("u again", x.state(U), 1);
    }

    // Nothing of the run before is left when the board begins to run again.
    private static void secondBoot() {
        WatchdogBoard x = quick();
        x.rule(PERIOD, 20);
        x.rule(ATTEMPTS, 5);
        x.addTask(10, 50);
        x.set(0, DEADLINE, 2);
        x.set(0, LEAST, 2);
        x.set(0, TOLERANCE, 0);
        x.addTask(10, 1);
        x.set(1, CYCLE, 20);
        x.set(1, MOST, 0);
        x.addTask(25, 10);
        x.set(2, DEADLINE, 2);
        x.run(1 + 29);
        int[] before = {29, 29, 1, 1, 1};
        for (int what = U; what <= EXPIRED_RUNS; what++) {
            due("state before " + what, x.state(what), before[what - U]);
        }
        due("jobs before", x.task(0, JOB) + x.task(2, JOB), 2);
        due("alive before", x.task(1, ALIVE), 2);
        due("failures before", x.task(0, FAILURES), 1);
        due("late before", x.task(0, LATE) + x.task(2, LATE), 2);
        due("expired before", x.state(EXPIRED_SET), 1);
        x.reset();
        x.run(1);
        due("mode", x.state(MODE), RUNNING);
        for (int what = U; what <= EXPIRED_RUNS; what++) {
            due("state " + what, x.state(what), 0);
        }
        for (int i = 0; i < 3; i++) {
            for (int what = JOB; what <= EXPIRED; what++) {
                due("task " + i + " " + what, x.task(i, what), 0);
            }
        }
        due("expired", x.state(EXPIRED_SET), 0);
    }

    private static void schedule() {
        WatchdogBoard x = quick();
        x.rule(PERIOD, 100);
        x.addTask(5, 2);
        x.addTask(5, 7);
        x.addTask(4, 4);
        x.set(0, OFFSET, 13);
        x.run(1 + 2);
        due("no job yet", x.task(0, JOB), 0);
        x.run(1);
        due("13 mod 5", x.task(0, JOB), 1);
        due("left", x.task(0, LEFT), 2);
        x.run(1);
        due("left less", x.task(0, LEFT), 1);
        x.run(1);
        due("ended", x.task(0, JOB), 0);
        due("left of none", x.task(0, LEFT), 0);
        x.run(6);
        due("u", x.state(U), 11);
        due("a job that is late for the next one", x.task(1, LEFT), 1);
        due("one alive", x.task(1, ALIVE), 1);
        x.run(1);
        due("no job between", x.task(1, JOB), 0);
        due("ends and begins at once", x.task(2, LEFT), 4);
        due("three alive", x.task(2, ALIVE), 3);
        x.run(3);
        due("u", x.state(U), 15);
        due("next job", x.task(1, LEFT), 7);
        due("two alive", x.task(1, ALIVE), 2);
    }

    private static void faults() {
        WatchdogBoard x = quick();
        x.rule(PERIOD, 100);
        for (int i = 0; i < 5; i++) {
            x.addTask(4, 2);
            x.putFault(0, i, i, 8, 3);
        }
        x.run(1 + 7);
        for (int i = 0; i < 5; i++) {
            due("alive before " + i, x.task(i, ALIVE), 1);
        }
        x.run(1);
        int[] left = {2, 0, 5, 2, 2};
        int[] alive = {2, 2, 2, 1, 3};
        for (int i = 0; i < 5; i++) {
            due("job " + i, x.task(i, JOB), 1);
            due("left " + i, x.task(i, LEFT), left[i]);
            due("alive " + i, x.task(i, ALIVE), alive[i]);
        }
        x.run(10);
        int[] jobs = {0, 1, 1, 0, 0};
        for (int i = 0; i < 5; i++) {
            due("job at 18 " + i, x.task(i, JOB), jobs[i]);
        }
        due("slow at 18", x.task(2, LEFT), 3);
        x.putFault(0, 3, CRASH, 0, 0);
        x.putFault(0, 4, CRASH, 0, 0);
        due("crash", x.runToReset(10), 2);
        due("cause", x.record(0, 0), CRASHED);
        due("task", x.record(0, 2), 3);
        due("u", x.record(0, 4), 20);
        due("counted", x.task(3, TASK_RESETS), 1);
        due("not counted", x.task(4, TASK_RESETS), 0);
    }

    private static void cycles() {
        WatchdogBoard x = quick();
        x.addTask(5, 1);
        x.addTask(5, 1);
        x.set(1, CYCLE, 3);
        x.set(0, LEAST, 2);
        x.set(0, MOST, 2);
        x.set(1, LEAST, 6);
        x.set(1, MOST, 6);
        x.run(1 + 9);
        due("alive", x.task(0, ALIVE), 1);
        x.run(1);
        due("begun and checked in one tick", x.task(0, ALIVE), 0);
        due("longer cycle", x.task(1, ALIVE), 2);
        due("runs", x.state(RUNS), 1);
        x.run(20);
        due("after three runs", x.task(1, ALIVE), 0);
        due("good all the time 0", x.task(0, BAD_CYCLES), 0);
        due("good all the time 1", x.task(1, BAD_CYCLES), 0);
        x.set(0, LEAST, 3);
        x.set(1, MOST, 5);
        x.run(30);
        due("too few", x.task(0, BAD_CYCLES), 2);
        due("too many", x.task(1, BAD_CYCLES), 1);
        x.set(0, LEAST, 3);
        x.set(0, MOST, 2);
        due("expired tasks are not checked", x.task(0, EXPIRED), 1);
        x.run(10);
        due("alive count goes on", x.task(0, ALIVE), 4);
        due("no more bad cycles", x.task(0, BAD_CYCLES), 2);
    }

    private static void tolerance() {
        WatchdogBoard x = quick();
        x.rule(GRACE, 20);
        x.addTask(10, 1);
        x.set(0, TOLERANCE, 2);
        x.set(0, LEAST, 2);
        x.run(1 + 20);
        due("two failures", x.task(0, FAILURES), 2);
        due("not expired", x.task(0, EXPIRED), 0);
        x.set(0, LEAST, 1);
        x.run(10);
        due("one less", x.task(0, FAILURES), 1);
        x.run(20);
        due("not below 0", x.task(0, FAILURES), 0);
        x.set(0, LEAST, 2);
        x.run(30);
        due("three failures", x.task(0, FAILURES), 3);
        due("expired", x.task(0, EXPIRED), 1);
        due("one expired run", x.state(EXPIRED_RUNS), 1);
        x.set(0, LEAST, 1);
        x.set(0, TOLERANCE, 10);
        x.run(30);
        due("expired for good", x.task(0, EXPIRED), 1);
        due("four expired runs", x.state(EXPIRED_RUNS), 4);
        WatchdogBoard y = quick();
        y.addTask(10, 1);
        y.set(0, TOLERANCE, 0);
        y.set(0, LEAST, 2);
        y.run(1 + 10);
        due("no tolerance", y.task(0, EXPIRED), 1);
    }

    private static void expiry() {
        WatchdogBoard x = quick();
        x.rule(KICK, 10);
        x.rule(CLOSE, 25);
        x.addTask(10, 1);
        x.addTask(10, 1);
        x.set(1, TOLERANCE, 0);
        x.set(1, LEAST, 2);
        x.run(1 + 20);
        due("two expired runs", x.state(EXPIRED_RUNS), 2);
        due("kicked in the grace", x.state(ELAPSED), 0);
        x.run(10);
        due("three expired runs", x.state(EXPIRED_RUNS), 3);
        due("not kicked", x.state(ELAPSED), 10);
        due("set", x.state(EXPIRED_SET), 2);
        due("reset", x.runToReset(100), 16);
        due("cause", x.record(0, 0), TIMEOUT);
        due("task", x.record(0, 2), 1);
        due("u", x.record(0, 4), 46);
        due("time", x.record(0, 1), 46);
        due("time then", x.state(TIME), 47);
        due("set while booting", x.state(EXPIRED_SET), 0);
        x.run(1);
        due("not expired after the boot", x.state(EXPIRED_SET), 0);
        due("no expired runs after the boot", x.state(EXPIRED_RUNS), 0);
        WatchdogBoard y = quick();
        y.rule(KICK, 10);
        y.rule(GRACE, 0);
        y.addTask(10, 1);
        y.set(0, TOLERANCE, 0);
        y.set(0, LEAST, 2);
        y.set(0, OFFSET, 5);
        y.set(0, CYCLE, 2);
        y.run(1 + 10);
        due("kicked without a grace", y.state(ELAPSED), 0);
        y.set(0, LEAST, 3);
        y.run(10);
        due("no kick without a grace", y.state(ELAPSED), 10);
    }

    private static void deadlines() {
        WatchdogBoard x = quick();
        x.rule(PERIOD, 10);
        x.addTask(20, 15);
        x.set(0, DEADLINE, 4);
        x.set(0, LEAST, 0);
        x.set(0, TOLERANCE, 10);
        x.run(1 + 24);
        due("at the deadline", x.task(0, LATE), 0);
        x.run(1);
        due("late", x.task(0, LATE), 1);
        x.run(5);
        due("not late after the run", x.task(0, LATE), 0);
        due("bad", x.task(0, FAILURES), 1);
        x.run(1);
        due("late again", x.task(0, LATE), 1);
        x.run(4);
        due("job has ended", x.task(0, JOB), 0);
        due("late still", x.task(0, LATE), 1);
        x.run(5);
        due("bad again", x.task(0, FAILURES), 2);
        due("late no more", x.task(0, LATE), 0);
        WatchdogBoard y = quick();
        y.addTask(10, 6);
        y.set(0, DEADLINE, 5);
        y.set(0, OFFSET, 2);
        y.run(1 + 2 + 6);
        due("ends in time", y.task(0, JOB), 0);
        due("ended at its deadline and a tick", y.task(0, LATE), 0);
        WatchdogBoard z = quick();
        z.addTask(10, 1);
        z.set(0, LEAST, 0);
        z.set(0, DEADLINE, 3);
        z.putFault(0, 0, HANG, 0, 0);
        z.run(1 + 13);
        due("hangs in time", z.task(0, LATE), 0);
        z.run(1);
        due("hangs too long", z.task(0, LATE), 1);
    }

    private static void watchdog() {
        WatchdogBoard x = new WatchdogBoard();
        x.rule(KICK, 19);
        x.run(30);
        due("kicked by the second run", x.runToReset(2000), 2000);
        x.rule(OPEN, 21);
        due("too early", x.runToReset(2000), 20);
        due("EARLY", x.record(0, 0), EARLY);
        due("no task", x.record(0, 2), NONE);
        WatchdogBoard y = new WatchdogBoard();
        y.rule(KICK, 2000);
        y.run(30 + 100);
        due("at CLOSE", y.state(ELAPSED), 100);
        due("above CLOSE", y.runToReset(10), 1);
        due("TIMEOUT", y.record(0, 0), TIMEOUT);
        due("u", y.record(0, 4), 101);
        WatchdogBoard z = new WatchdogBoard();
        z.rule(CLOSE, 39);
        z.run(30);
        due("a kick in the tick in which it would be too late", z.runToReset(2000), 2000);
        z.rule(CLOSE, 38);
        due("one tick more is too late", z.runToReset(2000), 39);
        WatchdogBoard w = new WatchdogBoard();
        w.rule(KICK, 0);
        due("kicks at each run", w.runToReset(2000), 40);
        due("and that is too early", w.record(0, 0), EARLY);
    }

    private static void stable() {
        WatchdogBoard x = new WatchdogBoard();
        x.rule(STABLE, 50);
        x.rule(ATTEMPTS, 5);
        x.run(30 + 49);
        x.reset();
        due("one attempt", x.state(TRIED), 1);
        x.run(30 + 49);
        due("not stable yet", x.state(TRIED), 1);
        x.run(1);
        due("stable", x.state(TRIED), 0);
        x.reset();
        x.run(30 + 40);
        x.rule(STABLE, 39);
        x.run(100);
        due("u was above STABLE", x.state(TRIED), 1);
        x.reset();
        // The reset in the tick u = STABLE comes before the attempts are forgotten.
        x.rule(STABLE, 101);
        x.rule(KICK, 2000);
        due("reset at STABLE", x.runToReset(2000), 131);
        due("attempts stay", x.state(TRIED), 3);
    }

    private static void imagesAndSafe() {
        WatchdogBoard x = quick();
        x.rule(ATTEMPTS, 2);
        x.addTask(10, 1);
        x.putFault(1, 0, CRASH, 0, 0);
        x.run(1);
        x.reset();
        due("image 0 tries again", x.state(IMAGE) * 10 + x.state(TRIED), 1);
        x.run(1);
        x.reset();
        due("image 1", x.state(IMAGE) * 10 + x.state(TRIED), 10);
        due("booting", x.state(MODE), BOOTING);
        due("image of the record", x.record(1, 3), 0);
        due("crash in image 1", x.runToReset(100), 11);
        due("image 1 tries again", x.state(IMAGE) * 10 + x.state(TRIED), 11);
        due("image of the next record", x.record(2, 3), 1);
        due("second crash in image 1", x.runToReset(100), 11);
        due("safe", x.state(MODE), SAFE);
        due("image stays", x.state(IMAGE), 1);
        due("attempts stay", x.state(TRIED), 2);
        int time = x.state(TIME);
        due("nothing happens", x.runToReset(2000), 2000);
        due("but the time", x.state(TIME), time + 2000);
        due("safe for good", x.state(MODE), SAFE);
        due("no ticks left of a boot", x.state(BOOT_LEFT), 0);
        due("no u", x.state(U), 0);
        WatchdogBoard y = quick();
        y.rule(ATTEMPTS, 5);
        for (int i = 0; i < 4; i++) {
            y.run(1);
            y.reset();
        }
        y.run(1);
        y.rule(ATTEMPTS, 1);
        y.reset();
        due("more attempts than there may be", y.state(IMAGE), 1);
        y.run(1);
        y.reset();
        due("one attempt is enough", y.state(MODE), SAFE);
    }

    private static void timeLimit() {
        WatchdogBoard x = new WatchdogBoard();
        for (int i = 0; i < 499; i++) {
            x.run(2000);
        }
        due("time", x.run(1999), 999999);
        due("run too far", x.run(2), NOT_POSSIBLE);
        due("bad value first", x.run(2001), BAD_VALUE);
        promise = 11;
        due("run to a reset too far", x.runToReset(2), NOT_POSSIBLE);
        due("bad value first", x.runToReset(0), BAD_VALUE);
        promise = 10;
        due("time stays", x.state(TIME), 999999);
        promise = 19;
        due("a copy's time has no limit", x.forecast(5000), NONE);
        x.rule(KICK, 2000);
        due("reset behind the limit", x.forecast(5000) > 1 ? 1 : 0, 1);
        promise = 11;
        due("the last tick", x.runToReset(1), 1);
        promise = 10;
        due("time at the limit", x.state(TIME), 1000000);
        due("no more", x.run(1), NOT_POSSIBLE);
        WatchdogBoard y = new WatchdogBoard();
        for (int i = 0; i < 499; i++) {
            y.run(2000);
        }
        due("a run to the limit", y.run(2000), 1000000);
    }

    // ---- promise 11

    private static void runToReset() {
        WatchdogBoard x = new WatchdogBoard();
        for (int extreme : new int[] {0, -1, 2001, Integer.MIN_VALUE, Integer.MAX_VALUE}) {
            due("n " + extreme, x.runToReset(extreme), BAD_VALUE);
        }
        x.rule(KICK, 2000);
        due("no reset yet", x.runToReset(130), 130);
        due("reset", x.runToReset(1), 1);
        due("mode", x.state(MODE), BOOTING);
        due("boot and reset", x.runToReset(2000), 131);
        due("time", x.state(TIME), 262);
        due("resets", x.state(RESETS), 2);
    }

    // ---- promise 12

    private static void kick() {
        WatchdogBoard x = new WatchdogBoard();
        due("booting", x.kick(), NOT_POSSIBLE);
        x.run(30 + 20);
        due("at OPEN", x.kick(), 20);
        due("elapsed", x.state(ELAPSED), 0);
        due("no reset", x.state(RESETS), 0);
        due("u stays", x.state(U), 20);
        due("time stays", x.state(TIME), 50);
        x.run(19);
        due("before OPEN", x.kick(), 19);
        due("booting again", x.state(MODE), BOOTING);
        due("cause", x.record(0, 0), EARLY);
        due("time", x.record(0, 1), 69);
        due("task", x.record(0, 2), NONE);
        due("u", x.record(0, 4), 39);
        due("time stays again", x.state(TIME), 69);
        WatchdogBoard y = quick();
        y.rule(ATTEMPTS, 1);
        y.addTask(10, 1);
        y.addTask(10, 1);
        y.set(0, TOLERANCE, 0);
        y.set(0, MOST, 0);
        y.run(1 + 10);
        y.rule(OPEN, 1000);
        due("before OPEN with an expired task", y.kick(), 10);
        due("its task", y.record(0, 2), 0);
        due("its count", y.task(0, TASK_RESETS), 1);
        due("other count", y.task(1, TASK_RESETS), 0);
        due("image", y.state(IMAGE), 1);
    }

    // ---- promise 13

    private static void reset() {
        WatchdogBoard x = new WatchdogBoard();
        due("booting", x.reset(), NOT_POSSIBLE);
        x.run(30);
        due("first", x.reset(), 0);
        due("cause", x.record(0, 0), COMMAND);
        due("time", x.record(0, 1), 30);
        due("task", x.record(0, 2), NONE);
        due("image", x.record(0, 3), 0);
        due("u", x.record(0, 4), 0);
        due("booting again", x.reset(), NOT_POSSIBLE);
        x.run(35);
        due("second", x.reset(), 1);
        due("time of the second", x.record(1, 1), 65);
        due("u of the second", x.record(1, 4), 5);
        due("attempts", x.state(TRIED), 2);
        WatchdogBoard y = running(10, 1);
        y.addTask(10, 1);
        y.addTask(10, 1);
        y.set(1, MOST, 0);
        y.set(2, MOST, 0);
        y.run(30);
        due("expired", y.state(EXPIRED_SET), 6);
        y.reset();
        due("lowest expired task", y.record(0, 2), 1);
        due("its count", y.task(1, TASK_RESETS), 1);
        due("other count", y.task(2, TASK_RESETS), 0);
    }

    // ---- promise 14

    private static void powerCycle() {
        WatchdogBoard x = quick();
        x.rule(ATTEMPTS, 1);
        x.addTask(10, 1);
        x.set(0, MOST, 0);
        x.putFault(1, 0, SKIP, 3, 4);
        due("booting", x.powerCycle(), BOOTING);
        x.run(31);
        due("running", x.powerCycle(), RUNNING);
        due("nothing is recorded", x.state(RESETS), 0);
        due("time stays", x.state(TIME), 31);
        due("no attempt", x.state(TRIED), 0);
        due("bad cycles stay", x.task(0, BAD_CYCLES), 2);
        due("latched stays", x.task(0, LATCHED), 10);
        due("fault stays", x.task(0, FAULT_1), SKIP);
        due("setting stays", x.task(0, MOST), 0);
        due("rule stays", x.state(RULES + ATTEMPTS), 1);
        due("u", x.state(U), 0);
        x.run(1);
        due("no failures after the boot", x.task(0, FAILURES), 0);
        x.reset();
        due("image 1", x.state(IMAGE), 1);
        x.run(1);
        x.reset();
        due("safe", x.state(MODE), SAFE);
        x.rule(BOOT, 7);
        due("from safe", x.powerCycle(), SAFE);
        due("mode", x.state(MODE), BOOTING);
        due("image 0", x.state(IMAGE), 0);
        due("attempts", x.state(TRIED), 0);
        due("ticks left", x.state(BOOT_LEFT), 7);
        due("records stay", x.state(RESETS), 2);
        x.run(3);
        due("in a boot", x.powerCycle(), BOOTING);
        due("ticks left again", x.state(BOOT_LEFT), 7);
    }

    // ---- promise 15

    private static void state() {
        WatchdogBoard x = new WatchdogBoard();
        for (int what : new int[] {-1, 21, Integer.MIN_VALUE, Integer.MAX_VALUE}) {
            due("what " + what, x.state(what), BAD_VALUE);
        }
        for (int i = 0; i < 8; i++) {
            x.rule(i, RULE_LOWEST[i] + 1);
            due("rule " + i, x.state(RULES + i), RULE_LOWEST[i] + 1);
        }
        WatchdogBoard y = quick();
        y.rule(KICK, 2000);
        y.rule(GRACE, 0);
        for (int i = 0; i < 4; i++) {
            y.addTask(10, 1);
        }
        y.set(1, MOST, 0);
        y.set(3, MOST, 0);
        putText(y, "h0,");
        y.run(1 + 1);
        y.reset();
        y.run(1 + 34);
        int[] due = {37, RUNNING, 0, 1, 0, 34, 34, 3, 2, 1, 4, 10, 3};
        for (int what = 0; what < due.length; what++) {
            due("state " + what, y.state(what), due[what]);
        }
        y.reset();
        due = new int[] {37, BOOTING, 0, 2, 1, 0, 0, 0, 0, 2, 4, 0, 3};
        for (int what = 0; what < due.length; what++) {
            due("booting, state " + what, y.state(what), due[what]);
        }
    }

    // ---- promise 16

    private static void task() {
        WatchdogBoard x = quick();
        due("no task", x.task(0, 99), NO_SUCH);
        x.addTask(7, 3);
        for (int extreme : EXTREMES) {
            due("task " + extreme, x.task(extreme, 0), NO_SUCH);
            due("what " + extreme, x.task(0, extreme), BAD_VALUE);
        }
        due("task 1", x.task(1, 0), NO_SUCH);
        due("what 19", x.task(0, 19), BAD_VALUE);
        x.set(0, OFFSET, 6);
        x.set(0, CYCLE, 4);
        x.set(0, LEAST, 9);
        x.set(0, MOST, 8);
        x.set(0, TOLERANCE, 0);
        x.set(0, DEADLINE, 1);
        x.putFault(0, 0, TWICE, 40, 0);
        x.putFault(1, 0, SLOW, 40, 0);
        x.run(1 + 49);
        int[] due = {7, 3, 6, 4, 9, 8, 0, 1, 1, 2, 4, 1, 1, 1, TWICE, SLOW, 1, 40, 0};
        // The job that began at 48 has 2 ticks left; those of 41 and 48 count twice; that of 41 was late.
        for (int what = 0; what < due.length; what++) {
            due("task " + what, x.task(0, what), due[what]);
        }
        x.powerCycle();
        for (int what = JOB; what <= EXPIRED; what++) {
            due("booting, task " + what, x.task(0, what), 0);
        }
        due("bad cycles stay", x.task(0, BAD_CYCLES), 1);
    }

    private static void diagnostics() {
        WatchdogBoard x = quick();
        x.rule(GRACE, 20);
        x.addTask(10, 1);
        x.set(0, MOST, 0);
        x.set(0, TOLERANCE, 10);
        x.run(1 + 9);
        due("not latched", x.task(0, LATCHED), NONE);
        x.run(1);
        due("latched", x.task(0, LATCHED), 10);
        x.run(10);
        due("latched once", x.task(0, LATCHED), 10);
        due("two bad cycles", x.task(0, BAD_CYCLES), 2);
        x.reset();
        due("no count for a task that is not expired", x.task(0, TASK_RESETS), 0);
        x.run(1 + 10);
        due("latched still", x.task(0, LATCHED), 10);
        due("three bad cycles", x.task(0, BAD_CYCLES), 3);
        x.clear(0);
        x.run(10);
        due("latched anew", x.task(0, LATCHED), 41);
    }

    // ---- promise 17

    private static void record() {
        WatchdogBoard x = new WatchdogBoard();
        due("what first", x.record(0, 5), BAD_VALUE);
        x.run(37);
        x.reset();
        for (int extreme : EXTREMES) {
            due("what " + extreme, x.record(0, extreme), BAD_VALUE);
            due("what with no record " + extreme, x.record(-1, extreme), BAD_VALUE);
            due("record " + extreme, x.record(extreme, 0), NONE);
        }
        due("what 5", x.record(0, 5), BAD_VALUE);
        due("record 1", x.record(1, 0), NONE);
        int[] due = {COMMAND, 37, NONE, 0, 7};
        for (int what = 0; what < due.length; what++) {
            due("record " + what, x.record(0, what), due[what]);
        }
    }

    private static void recordsKept() {
        WatchdogBoard x = quick();
        for (int i = 0; i < 20; i++) {
            x.powerCycle();
            x.run(1 + i);
            due("number", x.reset(), i);
        }
        due("resets", x.state(RESETS), 20);
        for (int i = 0; i < 4; i++) {
            due("not kept " + i, x.record(i, 4), NONE);
        }
        for (int i = 4; i < 20; i++) {
            due("kept " + i, x.record(i, 4), i);
        }
        due("not there yet", x.record(20, 4), NONE);
    }

    // ---- promise 18

    private static void clear() {
        WatchdogBoard x = running(10, 1);
        x.addTask(10, 1);
        due("task 2", x.clear(2), NO_SUCH);
        for (int extreme : EXTREMES) {
            due("task " + extreme, x.clear(extreme), NO_SUCH);
        }
        x.set(0, MOST, 0);
        x.set(1, MOST, 0);
        x.run(20);
        due("failures before", x.task(0, FAILURES), 2);
        x.reset();
        x.run(1 + 11);
        due("count of resets", x.task(0, TASK_RESETS), 1);
        due("clear", x.clear(0), 3);
        due("bad cycles", x.task(0, BAD_CYCLES), 0);
        due("latched", x.task(0, LATCHED), NONE);
        due("resets", x.task(0, TASK_RESETS), 0);
        due("failures stay", x.task(0, FAILURES), 1);
        due("other task", x.task(1, BAD_CYCLES), 3);
        due("clear again", x.clear(0), 0);
        due("records stay", x.state(RESETS), 1);
    }

    // ---- promise 19

    private static void forecast() {
        WatchdogBoard x = new WatchdogBoard();
        for (int most : new int[] {0, -1, 5001, Integer.MIN_VALUE, Integer.MAX_VALUE}) {
            due("most " + most, x.forecast(most), BAD_VALUE);
        }
        due("no reset", x.forecast(5000), NONE);
        due("none in one tick", x.forecast(1), NONE);
        x.rule(KICK, 2000);
        due("too short", x.forecast(130), NONE);
        due("just enough", x.forecast(131), 131);
        x.run(50);
        due("from there on", x.forecast(5000), 81);
        due("time stays", x.state(TIME), 50);
        due("u stays", x.state(U), 20);
        due("nothing is recorded", x.state(RESETS), 0);
        x.rule(ATTEMPTS, 1);
        x.runToReset(2000);
        x.runToReset(2000);
        due("safe", x.state(MODE), SAFE);
        due("no reset in safe mode", x.forecast(5000), NONE);
        WatchdogBoard y = quick();
        y.addTask(50, 1);
        y.putFault(0, 0, CRASH, 0, 0);
        y.addTask(50, 2);
        due("crash", y.forecast(5000), 51);
        due("no diagnostics", y.task(0, TASK_RESETS) + y.task(0, BAD_CYCLES), 0);
        y.putFault(0, 0, NO_FAULT, 0, 0);
        y.rule(KICK, 2000);
        y.rule(CLOSE, 2000);
        due("a long way", y.forecast(2002), 2002);
        due("bad cycles were in the copy", y.task(0, BAD_CYCLES), 0);
        // The job in the copy keeps its begin: it gets late at 66, the run at 70 does not kick any more.
        WatchdogBoard z = quick();
        z.rule(KICK, 0);
        z.rule(GRACE, 0);
        z.rule(CLOSE, 10);
        z.addTask(50, 20);
        z.set(0, LEAST, 0);
        z.set(0, TOLERANCE, 0);
        z.set(0, DEADLINE, 15);
        z.putFault(0, 0, HANG, 0, 0);
        z.run(1 + 53);
        due("in the job", z.forecast(5000), 18);
        z.run(2);
        due("later in the job", z.forecast(5000), 16);
        z.powerCycle();
        due("before the job", z.forecast(5000), 1 + 71);
    }

    // ---- promise 20

    private static void worstHang() {
        WatchdogBoard x = new WatchdogBoard();
        due("no task", x.worstHang(0, 0, 0, 0), NO_SUCH);
        x.addTask(20, 5);
        x.set(0, CYCLE, 2);
        for (int extreme : EXTREMES) {
            due("task " + extreme, x.worstHang(extreme, 0, 0, 0), NO_SUCH);
        }
        int[][] bad = {{0, 1, 1}, {4001, 1, 1}, {-1, 1, 1}, {1, 0, 1}, {1, 61, 1}, {1, -1, 1}, {1, 1, 0}, {1, 1, 5001},
            {1, 1, -1}, {Integer.MAX_VALUE, 1, 1}, {1, Integer.MAX_VALUE, 1}, {1, 1, Integer.MAX_VALUE}};
        for (int[] row : bad) {
            due("bad " + row[0] + " " + row[1] + " " + row[2], x.worstHang(0, row[0], row[1], row[2]), BAD_VALUE);
        }
        // A job hangs at 120, bad cycles end at 140 and 160; runs at 180 and later do not kick any more.
        due("a start", x.worstHang(0, 101, 1, 5000), 160);
        due("the ticks that it takes", x.worstHang(0, 101, 1, 30 + 261), 160);
        due("one tick less", x.worstHang(0, 101, 1, 30 + 260), NONE);
        due("some starts", x.worstHang(0, 101, 20, 5000), 160);
        due("no more starts than these", x.worstHang(0, 101, 40, 30 + 261), 160);
        due("in one tick", x.worstHang(0, 101, 1, 1), NONE);
        due("the first start", x.worstHang(0, 1, 1, 5000), 140);
        due("the first starts", x.worstHang(0, 1, 60, 5000), 160);
        due("the second of them", x.worstHang(0, 102, 19, 5000), 159);
        due("some start without a reset", x.worstHang(0, 101, 60, 30 + 261), NONE);
        due("the last starts", x.worstHang(0, 4000, 60, 5000) > 0 ? 1 : 0, 1);
        due("time stays", x.state(TIME), 0);
        due("no fault was put", x.task(0, FAULT_0), NO_FAULT);
        due("nothing is recorded", x.state(RESETS), 0);
        x.putFault(0, 0, CRASH, 0, 0);
        x.putFault(1, 0, CRASH, 0, 0);
        x.addTask(20, 1);
        x.set(1, CYCLE, 2);
        x.putFault(0, 1, CRASH, 0, 0);
        x.putFault(1, 1, CRASH, 0, 0);
        x.run(100);
        x.rule(ATTEMPTS, 1);
        x.runToReset(2000);
        due("other faults and the image do not matter", x.worstHang(0, 101, 1, 5000), 160);
        due("faults stay", x.task(0, FAULT_0) * 10 + x.task(1, FAULT_1), 55);
    }

    private static void worstHangOtherCauses() {
        WatchdogBoard x = new WatchdogBoard();
        x.addTask(10, 1);
        x.rule(KICK, 2000);
        due("reset before the start", x.worstHang(0, 200, 1, 5000), -99);
        due("a delay like NONE", x.worstHang(0, 107, 3, 5000), -6);
        due("greatest of some", x.worstHang(0, 199, 10, 5000), -98);
        due("very negative", x.worstHang(0, 4000, 60, 5000), 101 - 4000);
    }

    // ---- promise 21

    private static void greatestKick() {
        WatchdogBoard x = new WatchdogBoard();
        for (int most : new int[] {0, -1, 1001, Integer.MIN_VALUE, Integer.MAX_VALUE}) {
            due("most " + most, x.greatestKick(most), BAD_VALUE);
        }
        due("in one tick", x.greatestKick(1), 2000);
        due("no reset with any", x.greatestKick(130), 2000);
        due("a tick more", x.greatestKick(131), 100);
        due("CLOSE", x.greatestKick(1000), 100);
        x.rule(CLOSE, 99);
        due("kicked in the tick above CLOSE", x.greatestKick(1000), 100);
        x.rule(CLOSE, 98);
        due("the multiple below", x.greatestKick(1000), 90);
        x.rule(PERIOD, 7);
        due("a multiple of another period", x.greatestKick(1000), 98);
        x.rule(PERIOD, 1);
        due("each tick", x.greatestKick(1000), 99);
        due("KICK stays", x.state(RULES + KICK), 40);
        due("time stays", x.state(TIME), 0);
        WatchdogBoard y = new WatchdogBoard();
        y.addTask(10, 1);
        y.putFault(0, 0, CRASH, 0, 0);
        y.rule(ATTEMPTS, 1);
        y.runToReset(100);
        y.putFault(1, 0, CRASH, 0, 0);
        due("without faults, in image 0", y.greatestKick(1000), 100);
        due("faults stay", y.task(0, FAULT_0) * 10 + y.task(0, FAULT_1), 55);
        y.set(0, MOST, 0);
        due("an expired task", y.greatestKick(1000), NONE);
    }

    private static void greatestKickOfTheLowest() {
        WatchdogBoard x = new WatchdogBoard();
        x.rule(PERIOD, 100);
        x.rule(CLOSE, 99);
        due("all up to the period do the same", x.greatestKick(1000), 100);
        x.rule(CLOSE, 98);
        due("none", x.greatestKick(1000), NONE);
        x.rule(PERIOD, 10);
        x.rule(OPEN, 101);
        due("the window is closed", x.greatestKick(1000), NONE);
        WatchdogBoard y = quick();
        y.rule(PERIOD, 30);
        y.rule(CLOSE, 500);
        due("a period that does not divide 2000", y.greatestKick(1000), 480);
    }

    // ---- promises 22 and 23

    private static void save() {
        WatchdogBoard x = new WatchdogBoard();
        due("slot 2", x.save(2), BAD_VALUE);
        for (int extreme : EXTREMES) {
            due("slot " + extreme, x.save(extreme), BAD_VALUE);
        }
        x.run(12);
        due("time", x.save(1), 12);
        due("the other slot", x.restore(0), NOT_POSSIBLE);
        x.run(8);
        due("over the old one", x.save(1), 20);
        x.run(5);
        due("both slots", x.save(0), 25);
        due("the last one", x.restore(1), 20);
        due("slot 0", x.restore(0), 25);
    }

    private static void restore() {
        WatchdogBoard x = quick();
        due("slot 2", x.restore(2), BAD_VALUE);
        for (int extreme : EXTREMES) {
            due("slot " + extreme, x.restore(extreme), BAD_VALUE);
        }
        due("empty slot", x.restore(0), NOT_POSSIBLE);
        compare(board(saved(false)), board(saved(true)));
        compare(board(saved(false)), board(restored()));
        WatchdogBoard later = saved(false);
        later.run(500);
        WatchdogBoard same = restored();
        due("the pad stays", same.wipe(), 2);
        same.run(500);
        compare(board(later), board(same));
        WatchdogBoard again = restored();
        again.run(500);
        due("restored again", again.restore(0), 36);
        compare(board(saved(false)), board(again));
    }

    // A board with tasks, faults and a record, which is saved or not.
    private static WatchdogBoard saved(boolean isSaved) {
        WatchdogBoard x = quick();
        x.addTask(10, 4);
        x.addTask(15, 40);
        x.set(1, DEADLINE, 3);
        x.set(1, TOLERANCE, 0);
        x.putFault(0, 0, SLOW, 5, 6);
        x.putFault(1, 1, HANG, 7, 8);
        x.run(1 + 3);
        x.reset();
        x.run(1 + 31);
        if (isSaved) {
            due("save", x.save(0), 36);
        }
        return x;
    }

    // The saved board, after all of it was changed, and restored.
    private static WatchdogBoard restored() {
        WatchdogBoard x = saved(true);
        x.run(500);
        putText(x, "h0");
        x.addTask(3, 3);
        x.putFault(0, 0, CRASH, 0, 0);
        x.putFault(1, 1, NO_FAULT, 0, 0);
        x.set(0, OFFSET, 9);
        x.clear(1);
        for (int i = 0; i < 8; i++) {
            x.rule(i, RULE_GREATEST[i]);
        }
        for (int i = 0; i < 20; i++) {
            x.powerCycle();
            x.run(200);
            due("reset", x.reset() > 0 ? 1 : 0, 1);
        }
        x.clear(1);
        due("restore", x.restore(0), 36);
        return x;
    }

    // A slot keeps the jobs and the faults as they are, and gives them back.
    private static void restoreJobs() {
        for (int ticks = 1; ticks <= 120; ticks++) {
            WatchdogBoard x = savedWithJobs();
            x.run(ticks);
            WatchdogBoard y = savedWithJobs();
            y.run(7);
            for (int i = 0; i < 4; i++) {
                y.putFault(0, i, NO_FAULT, 0, 0);
                y.putFault(1, i, NO_FAULT, 0, 0);
            }
            y.powerCycle();
            y.run(1 + 47);
            y.restore(1);
            y.run(ticks);
            compare(board(x), board(y));
        }
    }

    private static WatchdogBoard savedWithJobs() {
        WatchdogBoard x = quick();
        x.rule(GRACE, 20);
        for (int i = 0; i < 4; i++) {
            x.addTask(20, 4 + i);
            x.set(i, DEADLINE, 5 + i);
        }
        x.putFault(0, 0, HANG, 15, 0);
        x.putFault(0, 1, SLOW, 55, 9);
        x.putFault(0, 2, SLOW, 15, 11);
        x.putFault(1, 3, SLOW, 55, 13);
        x.run(1 + 23);
        x.save(1);
        return x;
    }

    // All that the board tells of itself but the length of the pad; it takes some 340 of an object's 512 calls.
    private static int[] board(WatchdogBoard x) {
        int[] board = new int[21 + 6 * 19 + 40 * 5];
        int next = 0;
        for (int what = 0; what <= 20; what++) {
            board[next++] = what == PAD ? 0 : x.state(what);
        }
        for (int i = 0; i < 6; i++) {
            for (int what = 0; what < 19; what++) {
                board[next++] = x.task(i, what);
            }
        }
        for (int i = 0; i < 40; i++) {
            for (int what = 0; what < 5; what++) {
                board[next++] = x.record(i, what);
            }
        }
        return board;
    }

    private static void compare(int[] want, int[] got) {
        for (int i = 0; i < want.length; i++) {
            due("number " + i + " of the board", got[i], want[i]);
        }
    }
}

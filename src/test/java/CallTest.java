/**
 * The sentences of the promises 10, 11, 15, 16 and 19 to 23 that name a boundary, with the values on both
 * sides of it: how far a run goes, what is told of the board and its tasks, forecasts, saving.
 */
public final class CallTest {
    private static final int NO_SUCH = -1, BAD_VALUE = -2, NOT_POSSIBLE = -5, NONE = -6;
    private static final int OPEN = 0, CLOSE = 1, PERIOD = 2, KICK = 3, GRACE = 4, BOOT = 5, ATTEMPTS = 7;
    private static final int EVERY = 0, DURATION = 1, LEAST = 4, MOST = 5, TOLERANCE = 6, DEADLINE = 7;
    private static final int HANG = 1, CRASH = 5;
    private static final int BOOTING = 0, RUNNING = 1, SAFE = 2;
    // Numbers for state(what):
    private static final int TIME = 0, MODE = 1, RESETS = 9, TASKS = 10, PAD = 12, RULES = 13;
    // Numbers for task(task, what):
    private static final int JOB = 8, LEFT = 9, ALIVE = 10, FAILURES = 11, LATE = 12, EXPIRED = 13, FAULT_0 = 14,
            FAULT_1 = 15, BAD_CYCLES = 16, LATCHED = 17, TASK_RESETS = 18;

    private static int wrong = 0;
    private static String sentence = "";

    private static void says(String words) {
        sentence = words;
    }

    private static void due(String what, long got, long want) {
        if (got != want) {
            wrong++;
            System.out.println("'" + sentence + "': " + what + " answered " + got + ", due is " + want);
        }
    }

    public static void main(String[] arguments) {
        calls();
        forecasts();
        saving();
        System.out.println(wrong == 0 ? "all boundaries of the calls hold" : wrong + " answers are wrong");
        if (wrong != 0) {
            System.exit(1);
        }
    }

    // ---- helpers

    // A board that runs, with so many ticks behind it; without tasks that fail nothing ever resets it.
    private static WatchdogBoard up(int u) {
        WatchdogBoard x = new WatchdogBoard();
        x.rule(BOOT, 1);
        x.rule(OPEN, 0);
        x.rule(CLOSE, 2000);
        x.rule(KICK, 2000);
        x.powerCycle();
        go(x, 1 + u);
        return x;
    }

    private static void go(WatchdogBoard x, int ticks) {
        for (int left = ticks; left > 0; left -= 2000) {
            x.run(Math.min(left, 2000));
        }
    }

    // ---- the calls about time and about what there is

    private static void calls() {
        runRange();
        lastTime();
        lastTimeToReset();
        runToReset();
        stateRange();
        taskRange();
    }

    private static void runRange() {
        says("`n`: 1 to 2000");
        WatchdogBoard x = new WatchdogBoard();
        due("run(0)", x.run(0), BAD_VALUE);
        due("run(1)", x.run(1), 1);
        due("run(2000)", x.run(2000), 2001);
        due("run(2001)", x.run(2001), BAD_VALUE);
        due("runToReset(0)", x.runToReset(0), BAD_VALUE);
        due("runToReset(1)", x.runToReset(1), 1);
        due("runToReset(2000)", x.runToReset(2000), 2000);
        due("runToReset(2001)", x.runToReset(2001), BAD_VALUE);
        due("time", x.state(TIME), 4002);
    }

    // A board at so late a time, after some 500 calls.
    private static WatchdogBoard late(int time) {
        WatchdogBoard x = new WatchdogBoard();
        x.rule(CLOSE, 2000);
        go(x, time);
        return x;
    }

    private static void lastTime() {
        says("NOT_POSSIBLE if the time would be greater than 1000000.");
        WatchdogBoard x = late(998000);
        due("2000 up to the last time", x.run(2000), 1000000);
        due("1 too many", x.run(1), NOT_POSSIBLE);
        due("time", x.state(TIME), 1000000);
        WatchdogBoard y = late(998001);
        due("2000 too many", y.run(2000), NOT_POSSIBLE);
        due("1999 up to the last time", y.run(1999), 1000000);
        WatchdogBoard z = late(999999);
        due("2 too many", z.run(2), NOT_POSSIBLE);
        due("1 up to the last time", z.run(1), 1000000);
        due("reset by hand at the last time", z.reset(), 0);
        due("time of the record", z.record(0, 1), 1000000);
        due("u of the record", z.record(0, 4), 999970);
        says("all in copies, whose time is not limited");
        WatchdogBoard v = late(1000000);
        v.addTask(10, 1);
        v.putFault(0, 0, CRASH, 0, 0);
        due("forecast at the last time", v.forecast(5000), 10);
        // A job hangs at 10, bad cycles end at 20 and 30, the last kick is at 40 in the grace.
        due("worstHang at the last time", v.worstHang(0, 1, 1, 5000), 2040);
        due("greatestKick at the last time", v.greatestKick(1000), 2000);
        due("time", v.state(TIME), 1000000);
    }

    private static void lastTimeToReset() {
        says("NOT_POSSIBLE if the time + n is greater than 1000000.");
        WatchdogBoard x = late(998000);
        due("2000 up to the last time", x.runToReset(2000), 2000);
        due("1 too many", x.runToReset(1), NOT_POSSIBLE);
        due("time", x.state(TIME), 1000000);
        WatchdogBoard y = late(998001);
        due("2000 too many", y.runToReset(2000), NOT_POSSIBLE);
        due("1999 up to the last time", y.runToReset(1999), 1999);
        WatchdogBoard z = late(999998);
        z.addTask(1, 1);
        z.putFault(0, 0, CRASH, 0, 0);
        due("too many, although the reset comes sooner", z.runToReset(3), NOT_POSSIBLE);
        due("not too many", z.runToReset(2), 1);
        due("time of the record", z.record(0, 1), 999998);
        due("booting at the last time", z.runToReset(1), 1);
        due("time", z.state(TIME), 1000000);
    }

    private static void runToReset() {
        says("Makes ticks until a reset happens in one of them, at most n.");
        for (int ticks : new int[] {1, 2, 999, 1999, 2000}) {
            for (int n : new int[] {Math.max(1, ticks - 1), ticks, Math.min(2000, ticks + 1)}) {
                WatchdogBoard x = up(0);
                x.addTask(1, 1);
                x.putFault(0, 0, CRASH, ticks, 0);
                due("ticks", x.runToReset(n), Math.min(n, ticks));
                due("mode after " + n + " with a crash at " + ticks, x.state(MODE), n < ticks ? RUNNING : BOOTING);
                due("time", x.state(TIME), 1 + Math.min(n, ticks));
            }
        }
        WatchdogBoard x = up(0);
        x.rule(CLOSE, 2000);
        x.rule(PERIOD, 7);
        due("one before", x.runToReset(2000), 2000);
        due("mode", x.state(MODE), RUNNING);
        due("with the reset", x.runToReset(1), 1);
        due("mode", x.state(MODE), BOOTING);
    }

    private static void stateRange() {
        says("what: 0 the time, 1 the mode, .. 13 to 20 the settings OPEN to ATTEMPTS");
        WatchdogBoard x = up(0);
        due("what -1", x.state(-1), BAD_VALUE);
        due("what 0", x.state(0), 1);
        due("what 12", x.state(12), 0);
        due("what 13", x.state(13), 0);
        due("what 20", x.state(20), 3);
        due("what 21", x.state(21), BAD_VALUE);
        x.put(33);
        due("length of the pad", x.state(PAD), 1);
        says("(5 to 8: 0 if it is not RUNNING), 11 the set of the tasks that are expired (0 if it is not RUNNING)");
        x.rule(ATTEMPTS, 1);
        for (int i = 0; i < 6; i++) {
            x.addTask(1, 100);
            x.set(i, MOST, i == 0 || i == 5 ? 0 : 50);
            x.set(i, TOLERANCE, 0);
        }
        int[][] due = {{RUNNING, 0, 0, 0, 15, 15, 1, 1, 0, 6, 33, 1}, {BOOTING, 1, 0, 1, 0, 0, 0, 0, 1, 6, 0, 1},
            {RUNNING, 1, 0, 0, 15, 15, 1, 1, 1, 6, 33, 1}, {SAFE, 1, 1, 0, 0, 0, 0, 0, 2, 6, 0, 1}};
        for (int i = 0; i < 4; i++) {
            if (i % 2 == 0) {
                x.run(i == 0 ? 15 : 16);
            } else {
                x.reset();
            }
            for (int what = MODE; what <= PAD; what++) {
                due("state " + what + " at " + i, x.state(what), due[i][what - 1]);
            }
        }
    }

    private static void taskRange() {
        says("what: 0 to 7 the settings EVERY to DEADLINE, .. 18 the count of resets");
        WatchdogBoard x = up(0);
        x.addTask(1, 100);
        due("what -1", x.task(0, -1), BAD_VALUE);
        due("what 0", x.task(0, 0), 1);
        due("what 18", x.task(0, 18), 0);
        due("what 19", x.task(0, 19), BAD_VALUE);
        says("(8 to 13: 0 if the board is not RUNNING)");
        x.rule(ATTEMPTS, 1);
        x.rule(GRACE, 20);
        x.set(0, DEADLINE, 4);
        x.set(0, TOLERANCE, 0);
        int[] running = {1, 86, 1, 1, 1, 1};
        for (int i = 0; i < 4; i++) {
            if (i % 2 == 0) {
                x.run(i == 0 ? 15 : 16);
            } else {
                x.reset();
            }
            // The cycle of the first ten ticks was bad, for the job was late.
            for (int what = JOB; what <= EXPIRED; what++) {
                int want = i % 2 != 0 ? 0 : what == ALIVE ? 0 : running[what - JOB];
                due("task " + what + " at " + i, x.task(0, what), want);
            }
        }
        says("9 the ticks left of the job (0 if it hangs, or there is none)");
        WatchdogBoard y = up(0);
        y.addTask(2, 1);
        y.run(1);
        due("none", y.task(0, JOB) * 10 + y.task(0, LEFT), 0);
        y.run(1);
        due("the last tick", y.task(0, JOB) * 10 + y.task(0, LEFT), 11);
        y.run(1);
        due("none", y.task(0, JOB) * 10 + y.task(0, LEFT), 0);
        y.putFault(0, 0, HANG, 0, 0);
        y.run(1);
        due("hangs", y.task(0, JOB) * 10 + y.task(0, LEFT), 10);
    }

    // ---- forecasts

    private static void forecasts() {
        forecast();
        worstHangRanges();
        worstHangStarts();
        worstHangDelays();
        worstHangCopies();
        greatestKickRange();
        greatestKickValues();
        greatestKickCopies();
    }

    private static void forecast() {
        says("`most`: 1 to 5000");
        WatchdogBoard x = new WatchdogBoard();
        due("most 0", x.forecast(0), BAD_VALUE);
        due("most 1", x.forecast(1), NONE);
        due("most 5000", x.forecast(5000), NONE);
        due("most 5001", x.forecast(5001), BAD_VALUE);
        says("Returns the number of ticks, the last of which has the reset; NONE if there is none in so many ticks");
        for (int start : new int[] {1, 2, 100, 4999, 5000}) {
            WatchdogBoard y = up(0);
            y.addTask(1, 1);
            y.putFault(0, 0, CRASH, start, 0);
            if (start > 1) {
                due("one tick too few", y.forecast(start - 1), NONE);
            }
            due("just enough", y.forecast(start), start);
            due("more", y.forecast(5000), start);
        }
        WatchdogBoard y = new WatchdogBoard();
        y.addTask(1, 1);
        y.putFault(0, 0, CRASH, 4970, 0);
        due("with the boot", y.forecast(5000), 5000);
        due("with the boot, too few", y.forecast(4999), NONE);
        y.putFault(0, 0, CRASH, 4971, 0);
        due("a tick too late", y.forecast(5000), NONE);
        says("if nothing but time goes on");
        WatchdogBoard z = up(0);
        z.rule(ATTEMPTS, 1);
        z.reset();
        z.addTask(1, 1);
        z.putFault(0, 0, CRASH, 0, 0);
        due("the image 1 stays", z.forecast(5000), NONE);
        z.putFault(1, 0, CRASH, 7, 0);
        due("a fault of the image 1", z.forecast(5000), 1 + 7);
        z.run(1);
        z.reset();
        due("mode", z.state(MODE), SAFE);
        due("no reset in SAFE", z.forecast(5000), NONE);
    }

    private static void worstHangRanges() {
        says("`first`: 1 to 4000; `count`: 1 to 60; `most`: 1 to 5000");
        WatchdogBoard x = new WatchdogBoard();
        x.rule(BOOT, 1);
        x.rule(KICK, 2000);
        x.rule(CLOSE, 4);
        x.addTask(1, 1);
        // The reset comes in the tick 5 of each run, with the 6th tick after the power cycle.
        int[][] rows = {{0, 1, 1, BAD_VALUE}, {1, 1, 6, 4}, {4000, 1, 6, 5 - 4000}, {4001, 1, 6, BAD_VALUE},
            {1, 0, 6, BAD_VALUE}, {1, 60, 6, 4}, {4000, 60, 6, 5 - 4000}, {1, 61, 6, BAD_VALUE}, {1, 1, 0, BAD_VALUE},
            {1, 1, 1, NONE}, {1, 1, 5000, 4}, {1, 1, 5001, BAD_VALUE}, {-1, 1, 1, BAD_VALUE}, {1, -1, 1, BAD_VALUE},
            {1, 1, -1, BAD_VALUE}, {Integer.MAX_VALUE, 60, 1, BAD_VALUE}, {Integer.MIN_VALUE, 1, 1, BAD_VALUE},
            {1, Integer.MAX_VALUE, 1, BAD_VALUE}, {1, 1, Integer.MAX_VALUE, BAD_VALUE}};
        for (int[] row : rows) {
            due("worstHang(0, " + row[0] + ", " + row[1] + ", " + row[2] + ")", x.worstHang(0, row[0], row[1], row[2]), row[3]);
        }
        says("NO_SUCH if there is no such task (worstHang)");
        due("task -1", x.worstHang(-1, 1, 1, 6), NO_SUCH);
        due("task 1", x.worstHang(1, 1, 1, 6), NO_SUCH);
        x.addTask(1, 1);
        due("task 1", x.worstHang(1, 1, 1, 6), 4);
        says("how many ticks are made at most for each start");
        due("just enough", x.worstHang(0, 1, 60, 6), 4);
        due("one too few", x.worstHang(0, 1, 60, 5), NONE);
    }

    // A board whose task runs in each tick; a hung job is late behind DEADLINE, and the kicks stop at once.
    private static WatchdogBoard hanging() {
        WatchdogBoard x = up(0);
        x.rule(PERIOD, 1);
        x.rule(KICK, 1);
        x.rule(GRACE, 0);
        x.rule(CLOSE, 10);
        x.addTask(1, 1);
        x.set(0, LEAST, 0);
        x.set(0, TOLERANCE, 0);
        x.set(0, DEADLINE, 20);
        return x;
    }

    private static void worstHangStarts() {
        says("For each start from first to first + count - 1");
        // A start in the tick s: late and expired in s + 21, the last kick in s + 20, the reset in s + 31.
        WatchdogBoard x = hanging();
        due("one start", x.worstHang(0, 7, 1, 5000), 31);
        due("enough for the last start", x.worstHang(0, 7, 60, 1 + 66 + 31), 31);
        due("not enough for the last start", x.worstHang(0, 7, 60, 1 + 66 + 30), NONE);
        due("enough for the one before", x.worstHang(0, 7, 59, 1 + 66 + 30), 31);
        due("the latest start of all", x.worstHang(0, 4000, 60, 1 + 4059 + 31), 31);
        due("not enough for it", x.worstHang(0, 4000, 60, 1 + 4059 + 30), NONE);
        // Jobs begin only in each 100th tick: the delay is greatest for the start behind one.
        x.set(0, EVERY, 100);
        due("the first start is the worst", x.worstHang(0, 101, 60, 5000), 99 + 31);
        due("the last start is the worst", x.worstHang(0, 42, 60, 5000), 99 + 31);
        due("just not the worst at the end", x.worstHang(0, 41, 60, 5000), 59 + 31);
        due("just not the worst at the begin", x.worstHang(0, 102, 60, 5000), 98 + 31);
        due("the worst in between", x.worstHang(0, 72, 60, 5000), 99 + 31);
        due("in the tick of a job", x.worstHang(0, 100, 1, 5000), 31);
    }

    private static void worstHangDelays() {
        says("minus the start (it is negative if the reset comes before the start)");
        WatchdogBoard x = up(0);
        x.rule(CLOSE, 100);
        x.addTask(1, 1);
        for (int start : new int[] {1, 100, 101, 102, 106, 107, 108, 4000}) {
            due("reset in 101, start " + start, x.worstHang(0, start, 1, 5000), 101 - start);
        }
        due("greatest of negative ones", x.worstHang(0, 102, 60, 5000), -1);
        says("the delay is u of the first reset, whatever its cause, minus the start");
        x.rule(KICK, 30);
        x.rule(OPEN, 31);
        for (int start : new int[] {1, 29, 30, 31, 36, 37}) {
            due("too early in 30, start " + start, x.worstHang(0, start, 1, 5000), 30 - start);
        }
        says("NONE if there is no reset for some start");
        WatchdogBoard y = hanging();
        due("a reset for all", y.worstHang(0, 1, 60, 1 + 60 + 31), 31);
        due("none for the last one", y.worstHang(0, 1, 60, 1 + 60 + 30), NONE);
        due("none for the first one", y.worstHang(0, 1, 1, 1 + 1 + 30), NONE);
        y.set(0, DEADLINE, 0);
        due("no reset at all", y.worstHang(0, 1, 1, 5000), NONE);
    }

    private static void worstHangCopies() {
        says("a copy of the board in which no other fault is in any task of either image, and the task has the fault HANG "
                + "with this start in the image 0, is switched off and on");
        for (int image = 0; image <= 1; image++) {
            for (int mode = BOOTING; mode <= SAFE; mode++) {
                WatchdogBoard x = hanging();
                x.rule(ATTEMPTS, 1);
                x.addTask(3, 1);
                x.set(1, LEAST, 0);
                x.putFault(image, 0, CRASH, 0, 0);
                x.putFault(image, 1, CRASH, 0, 0);
                x.putFault(1 - image, 1, HANG, 0, 0);
                x.reset();
                if (mode != BOOTING) {
                    x.run(1);
                }
                if (mode == SAFE) {
                    x.reset();
                }
                due("mode", x.state(MODE), mode);
                due("worst", x.worstHang(0, 30, 5, 5000), 31);
                due("faults stay", x.task(0, FAULT_0 + image) * 10 + x.task(1, FAULT_0 + image), 55);
                due("faults stay", x.task(0, FAULT_1 - image) * 10 + x.task(1, FAULT_1 - image), 1);
            }
        }
        // The copy boots with the BOOT that is set, whatever is left of the boot.
        WatchdogBoard x = hanging();
        x.rule(BOOT, 200);
        due("with a long boot", x.worstHang(0, 10, 1, 200 + 41), 31);
        due("too few ticks for a long boot", x.worstHang(0, 10, 1, 200 + 40), NONE);
    }

    private static void greatestKickRange() {
        says("`most`: 1 to 1000");
        WatchdogBoard x = new WatchdogBoard();
        due("most 0", x.greatestKick(0), BAD_VALUE);
        due("most 1", x.greatestKick(1), 2000);
        due("most 1000", x.greatestKick(1000), 100);
        due("most 1001", x.greatestKick(1001), BAD_VALUE);
        says("makes so many ticks, has no reset");
        // The boot ends with the tick 30; without a kick the reset comes in the tick 131.
        due("the tick before the reset", x.greatestKick(130), 2000);
        due("the tick of the reset", x.greatestKick(131), 100);
        x.rule(CLOSE, 969);
        due("a reset in the last tick of all", x.greatestKick(1000), 970);
        x.rule(CLOSE, 970);
        due("a reset behind the last tick of all", x.greatestKick(1000), 2000);
    }

    private static void greatestKickValues() {
        says("of the values from 0 to 2000, the greatest one");
        // PERIOD, OPEN, CLOSE, the greatest value.
        int[][] rows = {{10, 20, 100, 100}, {10, 20, 99, 100}, {10, 20, 98, 90}, {10, 100, 100, 100}, {10, 101, 100, NONE},
            {10, 101, 110, 110}, {1, 0, 1, 2}, {1, 2, 1, 2}, {1, 3, 1, NONE}, {1, 0, 500, 501}, {100, 0, 98, NONE},
            {100, 0, 99, 100}, {100, 0, 199, 200}, {100, 0, 198, 100}, {7, 0, 100, 98}, {7, 98, 100, 98}, {7, 99, 100, NONE},
            {97, 0, 500, 485}, {97, 0, 998, 970}, {97, 0, 999, 2000}, {100, 0, 2000, 2000}};
        for (int[] row : rows) {
            WatchdogBoard x = up(0);
            x.rule(PERIOD, row[0]);
            x.rule(OPEN, row[1]);
            x.rule(CLOSE, row[2]);
            due("PERIOD " + row[0] + " OPEN " + row[1] + " CLOSE " + row[2], x.greatestKick(1000), row[3]);
            due("KICK stays", x.state(RULES + KICK), 2000);
        }
        says("NONE if there is a reset with all of them");
        WatchdogBoard x = up(0);
        x.rule(GRACE, 0);
        x.rule(CLOSE, 50);
        x.addTask(10, 1);
        x.set(0, TOLERANCE, 1);
        x.set(0, MOST, 0);
        // Expired in the run at 20, so the last kick is at 10, and the reset at 61.
        due("before the reset of the lowest values", x.greatestKick(1 + 60), 10);
        due("with the reset of all values", x.greatestKick(1 + 61), NONE);
    }

    private static void greatestKickCopies() {
        says("a copy, in which no task of either image has a fault, is switched off and on");
        for (int image = 0; image <= 1; image++) {
            for (int mode = BOOTING; mode <= SAFE; mode++) {
                WatchdogBoard x = up(0);
                x.rule(CLOSE, 100);
                x.rule(ATTEMPTS, 1);
                for (int i = 0; i < 6; i++) {
                    x.addTask(7, 1);
                    x.putFault(image, i, CRASH, 0, 0);
                }
                x.reset();
                if (mode != BOOTING) {
                    x.run(1);
                }
                if (mode == SAFE) {
                    x.reset();
                }
                due("mode", x.state(MODE), mode);
                due("greatest", x.greatestKick(1000), 100);
                due("faults stay", x.task(0, FAULT_0 + image) * 10 + x.task(5, FAULT_0 + image), 55);
                due("mode stays", x.state(MODE), mode);
            }
        }
    }

    // ---- saving

    private static void saving() {
        slots();
        slotsKeepAndGiveBack();
        savedRecordsAndDiagnostics();
        savedTasks();
    }

    private static void slots() {
        says("`slot`: 0 or 1");
        WatchdogBoard x = new WatchdogBoard();
        int[] answers = {BAD_VALUE, 0, 0, BAD_VALUE};
        for (int slot = -1; slot <= 2; slot++) {
            due("restore(" + slot + ") of nothing", x.restore(slot), answers[slot + 1] == 0 ? NOT_POSSIBLE : BAD_VALUE);
            due("save(" + slot + ")", x.save(slot), answers[slot + 1]);
            due("restore(" + slot + ")", x.restore(slot), answers[slot + 1]);
        }
        says("NOT_POSSIBLE if nothing was saved in it.");
        for (int slot = 0; slot <= 1; slot++) {
            WatchdogBoard y = new WatchdogBoard();
            y.save(slot);
            due("the other one", y.restore(1 - slot), NOT_POSSIBLE);
            due("this one", y.restore(slot), 0);
            due("the other one still", y.restore(1 - slot), NOT_POSSIBLE);
        }
    }

    private static void slotsKeepAndGiveBack() {
        says("Saves everything except the pad and the slots in a slot, and overwrites what was saved there.");
        WatchdogBoard y = new WatchdogBoard();
        y.run(1);
        due("slot 0", y.save(0), 1);
        y.put(33);
        y.run(1);
        due("slot 1", y.save(1), 2);
        y.put(33);
        y.run(1);
        due("slot 0 again", y.save(0), 3);
        due("slot 1 is not in slot 0", y.restore(0), 3);
        due("slot 1", y.restore(1), 2);
        due("the pad stays", y.state(PAD), 2);
        says("Restores what was saved last in a slot, which keeps it.");
        for (int i = 0; i < 3; i++) {
            y.run(10);
            y.rule(OPEN, 500 + i);
            due("slot 0", y.restore(0), 3);
            due("time", y.state(TIME), 3);
            due("OPEN", y.state(RULES), 20);
        }
    }

    // A board with so many records, whose times and tasks differ; the task 1 fails in the image 1.
    private static WatchdogBoard withRecords(int count) {
        WatchdogBoard x = up(0);
        x.rule(PERIOD, 1);
        x.addTask(1, 1);
        x.addTask(1, 1);
        x.set(1, TOLERANCE, 0);
        x.rule(ATTEMPTS, 1);
        for (int i = 0; i < count; i++) {
            x.run(i % 5 + 1);
            x.set(1, MOST, i % 3 == 0 ? 0 : 50);
            if (x.reset() < 0) {
                x.powerCycle();
                x.run(2);
                x.reset();
            }
        }
        return x;
    }

    private static void savedRecordsAndDiagnostics() {
        says("Saves everything except the pad and the slots in a slot (records and diagnostics)");
        for (int count : new int[] {0, 1, 15, 16, 17, 33}) {
            WatchdogBoard x = withRecords(count);
            x.save(1);
            x.clear(0);
            x.clear(1);
            x.set(0, MOST, 0);
            x.set(1, MOST, 0);
            for (int i = 0; i < 17; i++) {
                x.powerCycle();
                x.run(60);
                x.reset();
            }
            x.restore(1);
            WatchdogBoard y = withRecords(count);
            due("count", x.state(RESETS), y.state(RESETS));
            for (int i = 0; i < y.state(RESETS) + 2; i++) {
                for (int what = 0; what <= 4; what++) {
                    due("record " + i + " " + what + " of " + count, x.record(i, what), y.record(i, what));
                }
            }
            for (int task = 0; task <= 1; task++) {
                for (int what = BAD_CYCLES; what <= TASK_RESETS; what++) {
                    due("task " + task + " " + what + " of " + count, x.task(task, what), y.task(task, what));
                }
            }
            for (int what = TIME; what <= TASKS; what++) {
                due("state " + what + " of " + count, x.state(what), y.state(what));
            }
        }
        WatchdogBoard x = withRecords(33);
        due("the diagnostic is latched", x.task(1, LATCHED) == NONE ? 0 : 1, 1);
        due("there are resets of the task", x.task(1, TASK_RESETS) == 0 ? 0 : 1, 1);
    }

    private static void savedTasks() {
        says("what is restored goes on as it would have done, with the tasks that were there");
        WatchdogBoard z = up(0);
        z.addTask(10, 4);
        z.run(12);
        z.save(0);
        for (int i = 1; i < 6; i++) {
            z.addTask(1, 1);
        }
        z.set(0, DURATION, 9);
        z.run(100);
        due("restore", z.restore(0), 13);
        due("one task", z.state(TASKS), 1);
        due("task 1 is not there any more", z.task(1, 0), NO_SUCH);
        due("left", z.task(0, LEFT), 2);
        due("DURATION", z.task(0, DURATION), 4);
        z.run(2);
        due("ended", z.task(0, JOB), 0);
        due("a place for it", z.addTask(1, 1), 1);
    }
}

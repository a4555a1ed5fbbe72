/**
 * The sentences of 'Settings of the board', 'Tasks', 'Modes' and 'Resets' that name a boundary, with the
 * values on both sides of it, and those of the promises that rest on them alone (2 to 5, 12 to 14, 17, 18).
 */
public final class BoundaryTest {
    private static final int NO_SUCH = -1, BAD_VALUE = -2, TOO_MANY = -4, NOT_POSSIBLE = -5, NONE = -6;
    private static final int OPEN = 0, CLOSE = 1, PERIOD = 2, KICK = 3, GRACE = 4, BOOT = 5, STABLE = 6, ATTEMPTS = 7;
    private static final int EVERY = 0, DURATION = 1, OFFSET = 2, CYCLE = 3, LEAST = 4, MOST = 5, TOLERANCE = 6, DEADLINE = 7;
    private static final int NO_FAULT = 0, HANG = 1, SLOW = 2, SKIP = 3, TWICE = 4, CRASH = 5;
    private static final int BOOTING = 0, RUNNING = 1, SAFE = 2;
    private static final int EARLY = 1, TIMEOUT = 2, CRASHED = 3, COMMAND = 4;
    // Numbers for state(what):
    private static final int TIME = 0, MODE = 1, IMAGE = 2, TRIED = 3, BOOT_LEFT = 4, U = 5, ELAPSED = 6, RUNS = 7,
            EXPIRED_RUNS = 8, RESETS = 9, TASKS = 10, EXPIRED_SET = 11, PAD = 12, RULES = 13;
    // Numbers for task(task, what):
    private static final int JOB = 8, LEFT = 9, ALIVE = 10, FAILURES = 11, LATE = 12, EXPIRED = 13, FAULT_0 = 14,
            FAULT_1 = 15, BAD_CYCLES = 16, LATCHED = 17, TASK_RESETS = 18;

    private static int wrong = 0;
    private static String sentence = "";

    private static void says(String words) {
        sentence = words;
    }

    private static void due(String what, long got, long want) {
        if (got != want) {
            wrong++;
            System.out.println("'" + sentence + "': " + what + " answered " + got + ", due is " + want);
        }
    }

    public static void main(String[] arguments) {
        settings();
        tasks();
        jobs();
        supervisor();
        watchdog();
        resets();
        System.out.println(wrong == 0 ? "all boundaries hold" : wrong + " answers are wrong");
        if (wrong != 0) {
            System.exit(1);
        }
    }

    // ---- helpers

    // A board that runs, with so many ticks behind it; without tasks that fail nothing ever resets it.
    private static WatchdogBoard up(int u) {
        WatchdogBoard x = new WatchdogBoard();
        x.rule(BOOT, 1);
        x.rule(OPEN, 0);
        x.rule(CLOSE, 2000);
        x.rule(KICK, 2000);
        x.powerCycle();
        go(x, 1 + u);
        return x;
    }

    private static void go(WatchdogBoard x, int ticks) {
        for (int left = ticks; left > 0; left -= 2000) {
            x.run(Math.min(left, 2000));
        }
    }

    // The last record, as one number: cause, task and image; a task that is NONE counts as 9.
    private static int last(WatchdogBoard x) {
        int record = x.state(RESETS) - 1;
        int task = x.record(record, 2);
        return x.record(record, 0) * 100 + (task == NONE ? 9 : task) * 10 + x.record(record, 3);
    }

    private static int lastU(WatchdogBoard x) {
        return x.record(x.state(RESETS) - 1, 4);
    }

    // ---- settings of the board

    private static void settings() {
        rangesOfTheBoard();
        open();
        close();
        period();
        kick();
        grace();
        boot();
        bootThatIsLeft();
        stable();
        attempts();
    }

    private static void rangesOfTheBoard() {
        String[] names = {"OPEN (0 to 1000; 20)", "CLOSE (1 to 2000; 100)", "PERIOD (1 to 100; 10)", "KICK (0 to 2000; 40)",
            "GRACE (0 to 20; 2)", "BOOT (1 to 200; 30)", "STABLE (1 to 5000; 500)", "ATTEMPTS (1 to 5; 3)"};
        int[][] rows = {{0, 1000, 20}, {1, 2000, 100}, {1, 100, 10}, {0, 2000, 40}, {0, 20, 2}, {1, 200, 30},
            {1, 5000, 500}, {1, 5, 3}};
        for (int i = 0; i < 8; i++) {
            says(names[i]);
            WatchdogBoard x = new WatchdogBoard();
            due("first value", x.state(RULES + i), rows[i][2]);
            due("below the range", x.rule(i, rows[i][0] - 1), BAD_VALUE);
            due("above the range", x.rule(i, rows[i][1] + 1), BAD_VALUE);
            due("lowest", x.rule(i, rows[i][0]), rows[i][2]);
            due("below the lowest", x.rule(i, rows[i][0] - 1), BAD_VALUE);
            due("greatest", x.rule(i, rows[i][1]), rows[i][0]);
            due("above the greatest", x.rule(i, rows[i][1] + 1), BAD_VALUE);
            due("value", x.state(RULES + i), rows[i][1]);
        }
        says("BAD_VALUE if there is no such setting (rule)");
        WatchdogBoard x = new WatchdogBoard();
        due("setting -1", x.rule(-1, 1), BAD_VALUE);
        due("setting 0", x.rule(0, 1), 20);
        due("setting 7", x.rule(7, 1), 3);
        due("setting 8", x.rule(8, 1), BAD_VALUE);
    }

    private static void open() {
        says("OPEN (0 to 1000; 20): the window of the watchdog");
        int[][] rows = {{0, 0, RUNNING}, {1, 0, BOOTING}, {1, 1, RUNNING}, {20, 19, BOOTING}, {20, 20, RUNNING},
            {1000, 999, BOOTING}, {1000, 1000, RUNNING}};
        for (int[] row : rows) {
            WatchdogBoard x = up(row[1]);
            x.rule(OPEN, row[0]);
            due("kick", x.kick(), row[1]);
            due("mode with OPEN " + row[0] + " at " + row[1], x.state(MODE), row[2]);
            due("elapsed", x.state(ELAPSED), 0);
            due("resets", x.state(RESETS), row[2] == RUNNING ? 0 : 1);
        }
        for (int open : new int[] {999, 1000}) {
            WatchdogBoard x = up(900);
            x.rule(PERIOD, 9);
            x.rule(KICK, 999);
            x.rule(OPEN, open);
            x.run(99);
            due("mode with OPEN " + open, x.state(MODE), open == 1000 ? BOOTING : RUNNING);
            due("elapsed", x.state(ELAPSED), 0);
        }
    }

    private static void close() {
        says("CLOSE (1 to 2000; 100): the window of the watchdog");
        WatchdogBoard x = up(0);
        x.rule(CLOSE, 1);
        due("up to 1", x.runToReset(1), 1);
        due("mode", x.state(MODE), RUNNING);
        due("above 1", x.runToReset(1), 1);
        due("mode", x.state(MODE), BOOTING);
        due("cause", last(x), TIMEOUT * 100 + 90);
        due("u", lastU(x), 2);
        WatchdogBoard y = up(0);
        y.rule(PERIOD, 7);
        due("up to 2000", y.runToReset(2000), 2000);
        due("mode", y.state(MODE), RUNNING);
        due("elapsed", y.state(ELAPSED), 2000);
        due("above 2000", y.runToReset(2000), 1);
        due("mode", y.state(MODE), BOOTING);
        due("cause", last(y), TIMEOUT * 100 + 90);
        due("u", lastU(y), 2001);
    }

    private static void period() {
        says("PERIOD (1 to 100; 10): ticks from one run of the supervisor to the next.");
        for (int period : new int[] {1, 2, 10, 99, 100}) {
            WatchdogBoard x = up(0);
            x.rule(PERIOD, period);
            for (int run = 1; run <= 3; run++) {
                if (period > 1) {
                    x.run(period - 1);
                }
                due("before the run " + run + " with " + period, x.state(RUNS), run - 1);
                x.run(1);
                due("run " + run + " with " + period, x.state(RUNS), run);
            }
        }
        says("3. The supervisor, if u mod PERIOD is 0");
        WatchdogBoard x = up(17);
        x.rule(PERIOD, 6);
        x.run(1);
        due("18 mod 6", x.state(RUNS), 2);
        x.rule(PERIOD, 20);
        x.run(1);
        due("19 mod 20", x.state(RUNS), 2);
        x.run(1);
        due("20 mod 20", x.state(RUNS), 3);
        x.rule(PERIOD, 20);
        x.run(1);
        due("21 mod 20", x.state(RUNS), 3);
    }

    private static void kick() {
        says("the elapsed time is at least KICK");
        // KICK, the first run that kicks, with a PERIOD of 10.
        int[][] rows = {{0, 10}, {1, 10}, {9, 10}, {10, 10}, {11, 20}, {20, 20}, {21, 30}, {1990, 1990}, {1991, 2000}, {2000, 2000}};
        for (int[] row : rows) {
            WatchdogBoard x = up(0);
            x.rule(KICK, row[0]);
            x.run(row[1] - 1);
            due("elapsed before, with KICK " + row[0], x.state(ELAPSED), row[1] - 1);
            x.run(1);
            due("elapsed with KICK " + row[0], x.state(ELAPSED), 0);
        }
        WatchdogBoard x = up(13);
        x.rule(KICK, 7);
        x.kick();
        x.run(7);
        due("at KICK after a kick by hand", x.state(ELAPSED), 0);
        x = up(14);
        x.rule(KICK, 7);
        x.kick();
        x.run(6);
        due("below KICK after a kick by hand", x.state(ELAPSED), 6);
    }

    private static void grace() {
        says("If this is at most GRACE, and the elapsed time is at least KICK, the supervisor kicks the watchdog.");
        for (int grace : new int[] {0, 1, 2, 19, 20}) {
            WatchdogBoard x = up(0);
            x.rule(PERIOD, 1);
            x.rule(KICK, 0);
            x.rule(GRACE, grace);
            x.addTask(1, 1);
            x.set(0, MOST, 0);
            x.set(0, TOLERANCE, 0);
            for (int run = 1; run <= 23; run++) {
                x.run(1);
                due("expired runs", x.state(EXPIRED_RUNS), run);
                due("elapsed in the run " + run + " with GRACE " + grace, x.state(ELAPSED), Math.max(0, run - grace));
            }
        }
        WatchdogBoard x = up(0);
        x.rule(GRACE, 0);
        x.rule(KICK, 0);
        x.addTask(1, 1);
        x.run(30);
        due("kicked with GRACE 0 if none is expired", x.state(ELAPSED), 0);
        due("no expired run", x.state(EXPIRED_RUNS), 0);
    }

    private static void boot() {
        says("BOOTING: the ticks left decrease by 1. If they are 0 then, the board is RUNNING at once, with u = 0");
        for (int boot : new int[] {1, 2, 30, 199, 200}) {
            WatchdogBoard x = new WatchdogBoard();
            x.rule(BOOT, boot);
            x.powerCycle();
            for (int left = boot; left > 1; left--) {
                due("ticks left of " + boot, x.state(BOOT_LEFT), left);
                x.run(1);
            }
            due("the last tick that is left of " + boot, x.state(BOOT_LEFT), 1);
            due("mode in it", x.state(MODE), BOOTING);
            x.run(1);
            due("mode behind " + boot, x.state(MODE), RUNNING);
            due("ticks left behind " + boot, x.state(BOOT_LEFT), 0);
            due("u", x.state(U), 0);
            due("elapsed", x.state(ELAPSED), 0);
            x.run(1);
            due("u in the first tick", x.state(U), 1);
            due("elapsed in the first tick", x.state(ELAPSED), 1);
        }
        says("At first it is BOOTING, with BOOT as it is then (30) as the ticks left, and its image is 0.");
        WatchdogBoard x = new WatchdogBoard();
        due("mode", x.state(MODE), BOOTING);
        due("image", x.state(IMAGE), 0);
        due("time", x.state(TIME), 0);
        due("ticks left", x.state(BOOT_LEFT), 30);
        due("time after 29", x.run(29), 29);
        due("mode after 29", x.state(MODE), BOOTING);
        due("time after 30", x.run(1), 30);
        due("mode after 30", x.state(MODE), RUNNING);
    }

    private static void bootThatIsLeft() {
        says("Ticks that are left of a boot stay.");
        for (int boot : new int[] {1, 5, 200}) {
            WatchdogBoard x = new WatchdogBoard();
            x.run(20);
            due("previous", x.rule(BOOT, boot), 30);
            due("ticks left", x.state(BOOT_LEFT), 10);
            x.run(9);
            due("mode", x.state(MODE), BOOTING);
            x.run(1);
            due("mode", x.state(MODE), RUNNING);
            x.reset();
            due("ticks left of the next boot", x.state(BOOT_LEFT), boot);
            x.rule(BOOT, 7);
            due("ticks left of it stay", x.state(BOOT_LEFT), boot);
            x.powerCycle();
            due("ticks left after a power cycle", x.state(BOOT_LEFT), 7);
        }
    }

    private static void stable() {
        says("5. If u is STABLE, the number of attempts becomes 0.");
        for (int stable : new int[] {1, 2, 500, 4999, 5000}) {
            WatchdogBoard x = up(0);
            x.rule(STABLE, stable);
            x.rule(ATTEMPTS, 5);
            x.reset();
            go(x, 1 + stable - 1);
            due("attempts before " + stable, x.state(TRIED), 1);
            x.run(1);
            due("u", x.state(U), stable);
            due("attempts at " + stable, x.state(TRIED), 0);
        }
        int[][] rows = {{29, 1}, {30, 1}, {31, 0}, {32, 1}};
        for (int[] row : rows) {
            WatchdogBoard x = up(5);
            x.reset();
            x.run(1 + 30);
            x.rule(STABLE, row[0]);
            x.run(1);
            due("attempts at 31 with STABLE " + row[0], x.state(TRIED), row[1]);
        }
        says("RUNNING: the following steps, until a reset happens, with which the tick ends.");
        WatchdogBoard x = up(0);
        x.rule(ATTEMPTS, 5);
        x.rule(STABLE, 41);
        x.rule(CLOSE, 40);
        due("reset at STABLE", x.runToReset(2000), 41);
        due("attempts", x.state(TRIED), 1);
        x.rule(CLOSE, 41);
        due("reset behind STABLE", x.runToReset(2000), 1 + 42);
        due("attempts", x.state(TRIED), 1);
        x.rule(CLOSE, 39);
        due("reset before STABLE", x.runToReset(2000), 1 + 40);
        due("attempts", x.state(TRIED), 2);
        x.rule(CLOSE, 2000);
        x.rule(STABLE, 30);
        x.rule(KICK, 30);
        x.rule(OPEN, 31);
        due("too early at STABLE", x.runToReset(2000), 1 + 30);
        due("attempts", x.state(TRIED), 3);
        x.rule(STABLE, 25);
        x.addTask(25, 1);
        x.putFault(0, 0, CRASH, 0, 0);
        due("crash at STABLE", x.runToReset(2000), 1 + 25);
        due("attempts", x.state(TRIED), 4);
    }

    private static void attempts() {
        says("If it is at least ATTEMPTS then: with the image 0, the image becomes 1, and the number of attempts 0; "
                + "with the image 1, the board is SAFE.");
        for (int most = 1; most <= 5; most++) {
            WatchdogBoard x = up(0);
            x.rule(ATTEMPTS, most);
            for (int i = 1; i <= 2 * most; i++) {
                due("number", x.reset(), i - 1);
                due("image of the record", x.record(i - 1, 3), i <= most ? 0 : 1);
                due("mode " + i + " of " + most, x.state(MODE), i == 2 * most ? SAFE : BOOTING);
                due("image " + i + " of " + most, x.state(IMAGE), i < most ? 0 : 1);
                due("attempts " + i + " of " + most, x.state(TRIED), i < 2 * most ? i % most : most);
                x.run(1);
            }
            due("mode", x.state(MODE), SAFE);
            due("no further reset", x.reset(), NOT_POSSIBLE);
        }
        says("Then the number of attempts (0 at first) increases by 1.");
        WatchdogBoard y = new WatchdogBoard();
        due("at first", y.state(TRIED), 0);
        y.run(30);
        for (int i = 1; i <= 2; i++) {
            y.reset();
            due("attempts", y.state(TRIED), i);
            y.run(30);
        }
        says("If it is at least ATTEMPTS then (also if it is greater)");
        WatchdogBoard x = up(0);
        x.rule(ATTEMPTS, 5);
        for (int i = 0; i < 3; i++) {
            x.reset();
            x.run(1);
        }
        x.rule(ATTEMPTS, 2);
        due("three attempts stay with the image 0", x.state(IMAGE) * 10 + x.state(TRIED), 3);
        x.reset();
        due("greater than ATTEMPTS", x.state(IMAGE) * 10 + x.state(TRIED), 10);
        x.run(1);
        x.rule(ATTEMPTS, 5);
        for (int i = 0; i < 3; i++) {
            x.reset();
            x.run(1);
        }
        x.rule(ATTEMPTS, 2);
        x.reset();
        due("greater than ATTEMPTS with the image 1", x.state(MODE), SAFE);
        due("attempts in SAFE", x.state(TRIED), 4);
    }

    // ---- tasks

    private static void tasks() {
        rangesOfTasks();
        sixTasks();
        newTask();
        every();
        offset();
        duration();
        cycle();
        leastAndMost();
        tolerance();
        deadline();
        faults();
        faultStarts();
        faultOfTheImage();
        jobThatHasBegun();
    }

    private static void rangesOfTasks() {
        String[] names = {"EVERY (1 to 200)", "DURATION (1 to 200)", "OFFSET (0 to 199; 0)", "CYCLE (1 to 20; 1)",
            "LEAST (0 to 50; 1)", "MOST (0 to 50; 50)", "TOLERANCE (0 to 10; 1)", "DEADLINE (0 to 500; 0)"};
        int[][] rows = {{1, 200, 11}, {1, 200, 12}, {0, 199, 0}, {1, 20, 1}, {0, 50, 1}, {0, 50, 50}, {0, 10, 1}, {0, 500, 0}};
        for (int task = 0; task < 6; task++) {
            for (int i = 0; i < 8; i++) {
                says(names[i]);
                WatchdogBoard x = new WatchdogBoard();
                for (int j = 0; j < 6; j++) {
                    x.addTask(11, 12);
                }
                due("first value", x.task(task, i), rows[i][2]);
                due("below the range", x.set(task, i, rows[i][0] - 1), BAD_VALUE);
                due("above the range", x.set(task, i, rows[i][1] + 1), BAD_VALUE);
                due("lowest", x.set(task, i, rows[i][0]), rows[i][2]);
                due("below the lowest", x.set(task, i, rows[i][0] - 1), BAD_VALUE);
                due("greatest", x.set(task, i, rows[i][1]), rows[i][0]);
                due("above the greatest", x.set(task, i, rows[i][1] + 1), BAD_VALUE);
                due("value", x.task(task, i), rows[i][1]);
                for (int j = 0; j < 6; j++) {
                    due("other task", x.task(j, i), j == task ? rows[i][1] : rows[i][2]);
                }
            }
        }
        says("BAD_VALUE if there is no such setting (set)");
        WatchdogBoard x = new WatchdogBoard();
        x.addTask(3, 4);
        due("setting -1", x.set(0, -1, 1), BAD_VALUE);
        due("setting 0", x.set(0, 0, 1), 3);
        due("setting 7", x.set(0, 7, 1), 0);
        due("setting 8", x.set(0, 8, 1), BAD_VALUE);
    }

    private static void sixTasks() {
        says("Up to 6 tasks can be added.");
        WatchdogBoard x = new WatchdogBoard();
        for (int i = 0; i < 6; i++) {
            due("tasks", x.state(TASKS), i);
            due("no such task to set", x.set(i, EVERY, 1), NO_SUCH);
            due("no such task to ask", x.task(i, EVERY), NO_SUCH);
            due("no such task to clear", x.clear(i), NO_SUCH);
            due("no such task for a fault", x.putFault(0, i, HANG, 0, 0), NO_SUCH);
            due("no such task to hang", x.worstHang(i, 1, 1, 1), NO_SUCH);
            due("number", x.addTask(100 + i, 50 + i), i);
            due("set", x.set(i, EVERY, 100 + i), 100 + i);
            due("asked", x.task(i, DURATION), 50 + i);
            due("cleared", x.clear(i), 0);
            due("fault", x.putFault(0, i, HANG, 0, 0), NO_FAULT);
            due("hung", x.worstHang(i, 1, 1, 1), NONE);
        }
        due("seventh", x.addTask(1, 1), TOO_MANY);
        due("tasks", x.state(TASKS), 6);
        due("task 6", x.task(6, EVERY), NO_SUCH);
        due("task -1", x.task(-1, EVERY), NO_SUCH);
        says("`every`: 1 to 200, `duration`: 1 to 200");
        int[][] rows = {{0, 1, BAD_VALUE}, {1, 0, BAD_VALUE}, {201, 1, BAD_VALUE}, {1, 201, BAD_VALUE}, {1, 1, 0},
            {200, 1, 1}, {1, 200, 2}, {200, 200, 3}};
        WatchdogBoard y = new WatchdogBoard();
        for (int[] row : rows) {
            due("addTask(" + row[0] + ", " + row[1] + ")", y.addTask(row[0], row[1]), row[2]);
        }
        due("EVERY", y.task(1, EVERY), 200);
        due("DURATION", y.task(2, DURATION), 200);
    }

    private static void newTask() {
        says("Adds a task, which has no job (also while the board is RUNNING).");
        WatchdogBoard x = up(11);
        x.addTask(12, 5);
        x.addTask(11, 5);
        for (int i = 0; i < 2; i++) {
            for (int what = JOB; what <= BAD_CYCLES; what++) {
                due("task " + i + " " + what, x.task(i, what), 0);
            }
        }
        x.run(1);
        due("a job in the next tick", x.task(0, JOB), 1);
        due("u was 11 before it came", x.task(1, JOB), 0);
        x.run(9);
        due("u 21", x.task(1, JOB), 0);
        x.run(1);
        due("u 22", x.task(1, JOB), 1);
    }

    // Runs on to the tick, and tells whether the task has a job there that began in it.
    private static int beginsAt(WatchdogBoard x, int u) {
        int before = u - 1 - x.state(U);
        if (before > 0) {
            x.run(before);
        }
        int alive = x.task(0, ALIVE);
        x.run(1);
        return x.task(0, ALIVE) - alive;
    }

    private static void every() {
        says("if the task has no job, and u mod EVERY is OFFSET mod EVERY, a job begins");
        for (int every : new int[] {1, 2, 99, 199, 200}) {
            WatchdogBoard x = up(0);
            x.addTask(every, 1);
            x.set(0, CYCLE, 20);
            x.rule(PERIOD, 100);
            due("no job at 0", x.task(0, JOB), 0);
            for (int times = 1; times <= 3; times++) {
                if (every > 1) {
                    due("before the job with " + every, beginsAt(x, times * every - 1), 0);
                }
                due("job with " + every, beginsAt(x, times * every), 1);
            }
        }
        WatchdogBoard x = up(0);
        x.addTask(7, 1);
        x.run(8);
        due("one job", x.task(0, ALIVE), 1);
        x.set(0, EVERY, 9);
        due("a new EVERY holds at once", beginsAt(x, 9), 1);
    }

    private static void offset() {
        says("OFFSET mod EVERY");
        // EVERY, OFFSET, the first tick in which a job begins.
        int[][] rows = {{200, 0, 200}, {200, 1, 1}, {200, 199, 199}, {199, 199, 199}, {199, 198, 198}, {198, 199, 1},
            {100, 199, 99}, {10, 9, 9}, {10, 10, 10}, {10, 11, 1}, {1, 0, 1}, {1, 199, 1}};
        for (int[] row : rows) {
            WatchdogBoard x = up(0);
            x.rule(PERIOD, 100);
            x.addTask(row[0], 1);
            x.set(0, OFFSET, row[1]);
            x.set(0, CYCLE, 20);
            String what = "EVERY " + row[0] + " OFFSET " + row[1];
            if (row[2] > 1) {
                x.run(row[2] - 1);
            }
            due("no job before, with " + what, x.task(0, ALIVE), 0);
            x.run(1);
            due("first job with " + what, x.task(0, ALIVE), 1);
            due("second job with " + what, beginsAt(x, row[2] + row[0]), 1);
        }
    }

    private static void duration() {
        says("the ticks left of the job decrease by 1; if they are 0 then, the job ends. Then, if the task has no job");
        // DURATION, the ticks left in the tick in which the next job may begin, with an EVERY of 10.
        int[][] rows = {{1, 1}, {9, 9}, {10, 10}, {11, 1}, {12, 2}};
        for (int[] row : rows) {
            WatchdogBoard x = up(9);
            x.addTask(10, row[0]);
            x.run(1);
            due("left at the begin", x.task(0, LEFT), row[0]);
            x.run(10);
            due("left in the tick 20 with " + row[0], x.task(0, LEFT), row[1]);
            due("job in the tick 20", x.task(0, JOB), 1);
            x.run(1);
            boolean isEnded = row[1] == 1;
            due("job in the tick 21 with " + row[0], x.task(0, JOB), isEnded ? 0 : 1);
            due("left in the tick 21 with " + row[0], x.task(0, LEFT), isEnded ? 0 : row[1] - 1);
        }
        WatchdogBoard x = up(0);
        x.rule(PERIOD, 100);
        x.addTask(1, 200);
        x.run(1);
        due("left", x.task(0, LEFT), 200);
        x.run(199);
        due("the last tick of it", x.task(0, LEFT), 1);
        x.run(1);
        due("the next job at once", x.task(0, LEFT), 200);
        says("A job that it has keeps its begin and its ticks left");
        x.set(0, DURATION, 1);
        due("left", x.task(0, LEFT), 200);
        x.run(199);
        due("left", x.task(0, LEFT), 1);
        x.run(1);
        due("left of the next job", x.task(0, LEFT), 1);
    }

    private static void cycle() {
        says("for which r mod CYCLE is 0");
        for (int cycle : new int[] {1, 2, 19, 20}) {
            WatchdogBoard x = up(0);
            x.rule(PERIOD, 2);
            x.addTask(1, 1);
            x.set(0, CYCLE, cycle);
            for (int run = 1; run <= 41; run++) {
                x.run(2);
                due("alive at the run " + run + " with " + cycle, x.task(0, ALIVE), run % cycle * 2);
            }
        }
        WatchdogBoard x = up(49);
        x.addTask(1, 1);
        x.set(0, CYCLE, 3);
        x.set(0, LEAST, 50);
        x.run(10);
        due("a new task is checked by the number of the runs, not yet in the 5th", x.task(0, FAILURES), 0);
        x.run(1);
        due("in the 6th", x.task(0, FAILURES), 1);
    }

    // A board whose task has so many jobs in its first cycle of 100 ticks, of which the tick 100 is the last.
    private static WatchdogBoard alive(int count, int least, int most) {
        WatchdogBoard x = up(0);
        x.rule(PERIOD, 100);
        x.addTask(2, 1);
        x.set(0, LEAST, least);
        x.set(0, MOST, most);
        if (count != 50) {
            x.putFault(0, 0, count < 50 ? SKIP : TWICE, 2 * Math.min(count + 1, 101 - count), 0);
        }
        x.run(99);
        x.run(1);
        return x;
    }

    private static void leastAndMost() {
        says("the cycle is good if the alive count is from LEAST to MOST");
        // Alive count, LEAST, MOST, whether it is good.
        int[][] rows = {{49, 50, 50, 0}, {50, 50, 50, 1}, {51, 50, 50, 0}, {49, 49, 50, 1}, {50, 49, 49, 0}, {49, 49, 49, 1},
            {48, 49, 50, 0}, {0, 0, 0, 1}, {0, 0, 50, 1}, {0, 1, 50, 0}, {1, 1, 50, 1}, {1, 0, 1, 1}, {1, 0, 0, 0},
            {2, 0, 1, 0}, {2, 2, 2, 1}, {1, 2, 1, 0}, {2, 2, 1, 0}, {100, 0, 50, 0}, {52, 1, 50, 0}};
        for (int[] row : rows) {
            WatchdogBoard x = alive(row[0], row[1], row[2]);
            String what = row[0] + " alive, from " + row[1] + " to " + row[2];
            due(what, x.task(0, FAILURES), 1 - row[3]);
            due("bad cycles with " + what, x.task(0, BAD_CYCLES), 1 - row[3]);
            due("latched with " + what, x.task(0, LATCHED), row[3] == 1 ? NONE : 100);
            due("alive then", x.task(0, ALIVE), 0);
        }
    }

    private static void tolerance() {
        says("the task is expired if it is greater than TOLERANCE then");
        for (int tolerance : new int[] {0, 1, 9, 10}) {
            WatchdogBoard x = up(0);
            x.rule(PERIOD, 1);
            x.addTask(1, 1);
            x.set(0, MOST, 0);
            x.set(0, TOLERANCE, tolerance);
            for (int run = 1; run <= 14; run++) {
                x.run(1);
                int failures = Math.min(run, tolerance + 1);
                due("failures in the run " + run + " with " + tolerance, x.task(0, FAILURES), failures);
                due("bad cycles in the run " + run, x.task(0, BAD_CYCLES), failures);
                due("expired in the run " + run + " with " + tolerance, x.task(0, EXPIRED), run > tolerance ? 1 : 0);
                due("set", x.state(EXPIRED_SET), run > tolerance ? 1 : 0);
            }
        }
        WatchdogBoard x = up(0);
        x.addTask(1, 1);
        x.set(0, MOST, 0);
        x.set(0, TOLERANCE, 10);
        x.run(30);
        x.set(0, TOLERANCE, 0);
        due("a new TOLERANCE is looked at in the next bad cycle", x.task(0, EXPIRED), 0);
        x.set(0, MOST, 50);
        x.run(10);
        due("a good cycle does not expire it", x.task(0, EXPIRED), 0);
        due("failures", x.task(0, FAILURES), 2);
        x.set(0, MOST, 0);
        x.run(10);
        due("the bad one does", x.task(0, EXPIRED), 1);
        says("If it is good, the failure count decreases by 1, but not below 0");
        WatchdogBoard y = up(0);
        y.addTask(1, 1);
        y.set(0, MOST, 0);
        y.set(0, TOLERANCE, 10);
        y.run(20);
        y.set(0, MOST, 50);
        for (int due : new int[] {1, 0, 0, 0}) {
            y.run(10);
            due("failures", y.task(0, FAILURES), due);
        }
        y.set(0, MOST, 0);
        y.run(10);
        due("failures", y.task(0, FAILURES), 1);
    }

    private static void deadline() {
        says("if the task has a job, DEADLINE is not 0, and u - (begin of the job) is greater than DEADLINE, the task becomes late");
        for (int deadline : new int[] {1, 2, 499, 500}) {
            WatchdogBoard x = up(9);
            x.rule(PERIOD, 100);
            x.addTask(200, 1);
            x.set(0, OFFSET, 10);
            x.set(0, CYCLE, 20);
            x.set(0, DEADLINE, deadline);
            x.putFault(0, 0, HANG, 0, 0);
            x.run(1 + deadline);
            due("at the deadline " + deadline, x.task(0, LATE), 0);
            x.run(1);
            due("behind the deadline " + deadline, x.task(0, LATE), 1);
        }
        says("DEADLINE (0 to 500; 0, which means that there is none)");
        WatchdogBoard x = up(0);
        x.addTask(1, 1);
        x.set(0, LEAST, 0);
        x.putFault(0, 0, HANG, 0, 0);
        x.run(1900);
        due("without a deadline", x.task(0, LATE), 0);
        due("no bad cycle", x.task(0, BAD_CYCLES), 0);
        // A job that ends in the tick in which it would be late is in time.
        int[][] rows = {{5, 5, 0}, {6, 5, 0}, {7, 5, 1}, {2, 1, 0}, {3, 1, 1}};
        for (int[] row : rows) {
            WatchdogBoard y = up(9);
            y.rule(PERIOD, 100);
            y.addTask(20, row[0]);
            y.set(0, OFFSET, 10);
            y.set(0, DEADLINE, row[1]);
            y.run(1 + row[0]);
            due("no job any more", y.task(0, JOB), 0);
            due("late with DURATION " + row[0] + " and DEADLINE " + row[1], y.task(0, LATE), row[2]);
        }
        says("(a new DEADLINE holds for it, too)");
        // The job has begun 20 ticks before, with the next tick it is 21.
        int[][] set = {{0, 0}, {19, 1}, {20, 1}, {21, 0}, {22, 0}};
        for (int[] row : set) {
            WatchdogBoard y = up(9);
            y.rule(PERIOD, 100);
            y.addTask(10, 200);
            y.run(1 + 20);
            y.set(0, DEADLINE, row[0]);
            due("not before the next tick", y.task(0, LATE), 0);
            y.run(1);
            due("late with the new DEADLINE " + row[0], y.task(0, LATE), row[1]);
        }
    }

    // ---- faults

    private static void faults() {
        says("`image`: 0 or 1; `kind`: NO_FAULT to CRASH; `start`: 0 to 5000; `amount`: 0 to 500");
        int[][] rows = {{-1, 0, 1, 0, 0, NO_SUCH}, {2, 0, 1, 0, 0, NO_SUCH}, {0, -1, 1, 0, 0, NO_SUCH},
            {0, 1, 1, 0, 0, NO_SUCH}, {0, 0, -1, 0, 0, BAD_VALUE}, {0, 0, 6, 0, 0, BAD_VALUE},
            {0, 0, 1, -1, 0, BAD_VALUE}, {0, 0, 1, 5001, 0, BAD_VALUE}, {0, 0, 1, 0, -1, BAD_VALUE},
            {0, 0, 1, 0, 501, BAD_VALUE}, {0, 0, 5, 5000, 500, NO_FAULT}, {0, 0, 0, 0, 0, CRASH},
            {1, 0, 5, 5000, 0, NO_FAULT}, {1, 0, 0, 0, 500, CRASH}};
        WatchdogBoard x = new WatchdogBoard();
        x.addTask(1, 1);
        for (int[] row : rows) {
            String what = row[0] + " " + row[1] + " " + row[2] + " " + row[3] + " " + row[4];
            due(what, x.putFault(row[0], row[1], row[2], row[3], row[4]), row[5]);
        }
        says("(it matters only for SLOW)");
        for (int kind = NO_FAULT; kind <= TWICE; kind++) {
            for (int amount : new int[] {0, 1, 500}) {
                WatchdogBoard y = up(9);
                y.rule(PERIOD, 100);
                y.addTask(10, 200);
                y.putFault(0, 0, kind, 0, amount);
                y.run(1);
                int left = kind == HANG ? 0 : kind == SLOW ? 200 + amount : 200;
                due("left with " + kind + " and " + amount, y.task(0, LEFT), left);
                due("job with " + kind, y.task(0, JOB), 1);
                due("alive with " + kind, y.task(0, ALIVE), kind == SKIP ? 0 : kind == TWICE ? 2 : 1);
            }
        }
        says("SLOW: the amount is added to the ticks left");
        WatchdogBoard y = up(0);
        y.addTask(1, 200);
        y.putFault(0, 0, SLOW, 0, 500);
        y.run(1);
        due("left", y.task(0, LEFT), 700);
        y.run(699);
        due("left", y.task(0, LEFT), 1);
        y.run(1);
        due("the next job", y.task(0, LEFT), 700);
    }

    private static void faultStarts() {
        says("A fault acts on jobs that begin in ticks whose number (see below) is at least its start");
        // The tick in which the job begins, the start of the fault, whether it acts.
        int[][] rows = {{10, 9, 1}, {10, 10, 1}, {10, 11, 0}, {1, 0, 1}, {1, 1, 1}, {1, 2, 0}, {4999, 5000, 0}, {5000, 5000, 1},
            {5001, 5000, 1}, {4999, 4999, 1}};
        for (int[] row : rows) {
            for (int kind = HANG; kind <= CRASH; kind++) {
                WatchdogBoard x = up(row[0] - 1);
                x.addTask(1, 200);
                x.rule(PERIOD, 100);
                x.set(0, CYCLE, 7);
                x.putFault(0, 0, kind, row[1], 3);
                x.run(1);
                int[] left = {0, 0, 203, 200, 200, 0};
                int[] alive = {0, 1, 1, 0, 2, 0};
                String what = "fault " + kind + " from " + row[1] + " at " + row[0];
                due("left, " + what, x.task(0, LEFT), row[2] == 1 ? left[kind] : 200);
                due("alive, " + what, x.task(0, ALIVE), row[2] == 1 ? alive[kind] : 1);
                due("mode, " + what, x.state(MODE), row[2] == 1 && kind == CRASH ? BOOTING : RUNNING);
            }
        }
    }

    private static void faultOfTheImage() {
        says("while the board runs its image");
        for (int image = 0; image <= 1; image++) {
            for (int fault = 0; fault <= 1; fault++) {
                WatchdogBoard x = up(0);
                x.rule(ATTEMPTS, image == 0 ? 5 : 1);
                x.reset();
                x.run(1 + 9);
                due("image", x.state(IMAGE), image);
                x.addTask(10, 4);
                x.putFault(fault, 0, SLOW, 0, 5);
                x.run(1);
                due("left with a fault of the image " + fault, x.task(0, LEFT), image == fault ? 9 : 4);
                due("fault of the image 0", x.task(0, FAULT_0), fault == 0 ? SLOW : NO_FAULT);
                due("fault of the image 1", x.task(0, FAULT_1), fault == 1 ? SLOW : NO_FAULT);
            }
        }
    }

    private static void jobThatHasBegun() {
        says("A job that has begun stays as it is.");
        for (int kind = NO_FAULT; kind <= CRASH; kind++) {
            WatchdogBoard x = up(9);
            x.addTask(10, 4);
            x.set(0, CYCLE, 20);
            x.run(1);
            x.putFault(0, 0, kind, 0, 50);
            x.run(3);
            due("left with " + kind, x.task(0, LEFT), 1);
            due("alive with " + kind, x.task(0, ALIVE), 1);
            x.run(1);
            due("ended with " + kind, x.task(0, JOB), 0);
            due("mode with " + kind, x.state(MODE), RUNNING);
        }
        WatchdogBoard x = up(9);
        x.addTask(10, 4);
        x.putFault(0, 0, HANG, 10, 0);
        x.run(1);
        x.putFault(0, 0, NO_FAULT, 0, 0);
        x.run(500);
        due("hangs on", x.task(0, JOB) * 1000 + x.task(0, LEFT), 1000);
    }

    // ---- jobs in a tick

    private static void jobs() {
        hungJob();
        crashEndsTheTick();
        crashOfTheLowest();
        everythingAnewInARun();
    }

    private static void hungJob() {
        says("HANG: the job hangs (no job begins behind it, until the board begins to run)");
        WatchdogBoard x = up(9);
        x.addTask(10, 1);
        x.set(0, CYCLE, 20);
        x.putFault(0, 0, HANG, 0, 0);
        x.run(1);
        for (int u = 10; u <= 150; u += 10) {
            due("job", x.task(0, JOB), 1);
            due("left", x.task(0, LEFT), 0);
            due("alive", x.task(0, ALIVE), 1);
            x.run(10);
        }
        x.putFault(0, 0, NO_FAULT, 0, 0);
        x.powerCycle();
        x.run(1 + 10);
        due("a job in the next run", x.task(0, LEFT), 1);
    }

    private static void crashEndsTheTick() {
        says("CRASH: there is a reset with the cause CRASHED and this task. (before the supervisor and the watchdog)");
        WatchdogBoard x = up(0);
        x.addTask(1, 1);
        x.addTask(10, 1);
        x.set(0, MOST, 0);
        x.putFault(0, 1, CRASH, 20, 0);
        x.run(19);
        due("one bad cycle", x.task(0, BAD_CYCLES), 1);
        x.run(1);
        due("crashed", last(x), CRASHED * 100 + 10);
        due("no bad cycle in the tick of the crash", x.task(0, BAD_CYCLES), 1);
        due("resets of the task", x.task(1, TASK_RESETS), 1);
        due("resets of the other task", x.task(0, TASK_RESETS), 0);
        WatchdogBoard y = up(0);
        y.addTask(41, 1);
        y.putFault(0, 0, CRASH, 0, 0);
        y.rule(CLOSE, 40);
        due("in the tick of a timeout", y.runToReset(2000), 41);
        due("crashed", last(y), CRASHED * 100);
        WatchdogBoard z = up(0);
        z.addTask(30, 1);
        z.putFault(0, 0, CRASH, 0, 0);
        z.rule(OPEN, 31);
        z.rule(KICK, 30);
        due("in the tick of a kick that is too early", z.runToReset(2000), 30);
        due("crashed", last(z), CRASHED * 100);
    }

    private static void crashOfTheLowest() {
        says("2. Tasks, in ascending order");
        for (int lowest = 0; lowest < 6; lowest++) {
            WatchdogBoard x = up(0);
            for (int i = 0; i < 6; i++) {
                x.addTask(5, 1);
                x.putFault(0, i, CRASH, i < lowest ? 6 : 5, 0);
            }
            due("crash", x.runToReset(10), 5);
            due("lowest task that crashes", last(x), CRASHED * 100 + lowest * 10);
            for (int i = 0; i < 6; i++) {
                due("resets of " + i, x.task(i, TASK_RESETS), i == lowest ? 1 : 0);
            }
        }
        says("for CRASHED the task that crashed; otherwise the lowest task that is expired");
        WatchdogBoard x = up(0);
        for (int i = 0; i < 3; i++) {
            x.addTask(5, 1);
            x.set(i, TOLERANCE, 0);
        }
        x.set(0, MOST, 0);
        x.putFault(0, 2, CRASH, 15, 0);
        x.run(14);
        due("task 0 is expired", x.state(EXPIRED_SET), 1);
        x.run(1);
        due("task 2 crashed", last(x), CRASHED * 100 + 20);
        due("resets", x.task(0, TASK_RESETS) * 10 + x.task(2, TASK_RESETS), 1);
    }

    private static void everythingAnewInARun() {
        says("no task has a job, and for all tasks the alive count and the failure count are 0, and none is late or expired");
        WatchdogBoard x = up(0);
        x.rule(ATTEMPTS, 5);
        x.rule(PERIOD, 14);
        for (int i = 0; i < 6; i++) {
            x.addTask(9, 100);
            x.set(i, DEADLINE, 3);
            x.set(i, TOLERANCE, i < 3 ? 0 : 10);
            x.set(i, CYCLE, i == 5 ? 20 : 1);
        }
        x.run(15);
        due("expired", x.state(EXPIRED_SET), 7);
        due("late", x.task(5, LATE), 1);
        due("alive", x.task(5, ALIVE), 1);
        due("expired runs", x.state(EXPIRED_RUNS), 1);
        for (int way = 0; way < 2; way++) {
            due("reset", way == 0 ? x.reset() : x.powerCycle(), way == 0 ? 0 : RUNNING);
            for (int ticks = 0; ticks < 2; ticks++) {
                for (int what = U; what <= EXPIRED_RUNS; what++) {
                    due("state " + what + " in the mode " + x.state(MODE), x.state(what), 0);
                }
                due("expired", x.state(EXPIRED_SET), 0);
                for (int i = 0; i < 6; i++) {
                    for (int what = JOB; what <= EXPIRED; what++) {
                        due("task " + i + " " + what + " in the mode " + x.state(MODE), x.task(i, what), 0);
                    }
                }
                x.run(1);
            }
            x.run(13);
            due("late", x.task(5, LATE), 1);
        }
    }

    // ---- the supervisor

    private static void supervisor() {
        lateInTheTick();
        lateAgain();
        aliveStays();
        expiredTasks();
        latched();
        expiredInTheRun();
    }

    private static void lateInTheTick() {
        says("the cycle is good if the alive count is from LEAST to MOST and the task is not late; otherwise it is bad");
        // The job begins in the tick 3; the supervisor runs in the tick 10.
        int[][] rows = {{5, 1}, {6, 1}, {7, 0}, {8, 0}};
        for (int[] row : rows) {
            WatchdogBoard x = up(0);
            x.addTask(50, 30);
            x.set(0, OFFSET, 3);
            x.set(0, DEADLINE, row[0]);
            x.run(10);
            due("bad cycles with DEADLINE " + row[0], x.task(0, BAD_CYCLES), row[1]);
        }
        // A job that begins in the tick of the supervisor counts.
        for (int offset : new int[] {9, 10, 11}) {
            WatchdogBoard x = up(0);
            x.addTask(50, 1);
            x.set(0, OFFSET, offset);
            x.run(10);
            due("bad cycles with OFFSET " + offset, x.task(0, BAD_CYCLES), offset == 11 ? 1 : 0);
            due("alive with OFFSET " + offset, x.task(0, ALIVE), 0);
            x.run(1);
            due("alive in the next tick with OFFSET " + offset, x.task(0, ALIVE), offset == 11 ? 1 : 0);
        }
    }

    private static void lateAgain() {
        says("the task is not late any more (it becomes late again in the next tick, if its job still is)");
        // The last tick of the job, whether the task is late again in the tick 11.
        int[][] rows = {{10, 0}, {11, 1}, {12, 1}};
        for (int[] row : rows) {
            WatchdogBoard x = up(0);
            x.addTask(50, row[0] - 2);
            x.set(0, OFFSET, 3);
            x.set(0, DEADLINE, 4);
            x.run(9);
            due("late before", x.task(0, LATE), 1);
            x.run(1);
            due("not late", x.task(0, LATE), 0);
            due("bad", x.task(0, FAILURES), 1);
            x.run(1);
            due("late again with a job up to " + row[0], x.task(0, LATE), row[1]);
        }
    }

    private static void aliveStays() {
        says("The alive count becomes 0, and the task is not late any more (only at the end of its own cycle)");
        WatchdogBoard x = up(0);
        x.addTask(5, 4);
        x.set(0, DEADLINE, 2);
        x.set(0, CYCLE, 2);
        x.run(10);
        due("alive in the cycle", x.task(0, ALIVE), 2);
        due("late in the cycle", x.task(0, LATE), 1);
        x.run(10);
        due("alive behind the cycle", x.task(0, ALIVE), 0);
        due("late behind the cycle", x.task(0, LATE), 0);
        due("bad", x.task(0, BAD_CYCLES), 1);
    }

    private static void expiredTasks() {
        says("For each task, in ascending order, that is not expired");
        WatchdogBoard x = up(0);
        x.rule(GRACE, 20);
        x.addTask(5, 4);
        x.set(0, DEADLINE, 2);
        x.set(0, TOLERANCE, 0);
        x.addTask(5, 1);
        x.run(10);
        due("expired", x.state(EXPIRED_SET), 1);
        due("not late in this run", x.task(0, LATE), 0);
        x.run(10);
        due("alive goes on", x.task(0, ALIVE), 2);
        due("late stays", x.task(0, LATE), 1);
        due("failures stay", x.task(0, FAILURES), 1);
        due("bad cycles stay", x.task(0, BAD_CYCLES), 1);
        due("the other one is checked", x.task(1, ALIVE), 0);
        x.set(0, DEADLINE, 0);
        x.set(0, TOLERANCE, 10);
        x.run(100);
        due("expired for good", x.state(EXPIRED_SET), 1);
        due("late for good", x.task(0, LATE), 1);
        due("alive", x.task(0, ALIVE), 22);
        says("Then, if some task is expired, the number of expired runs increases by 1.");
        due("once a run", x.state(EXPIRED_RUNS), 12);
        x.set(1, MOST, 0);
        x.run(20);
        due("two are expired", x.state(EXPIRED_SET), 3);
        due("once a run also with two", x.state(EXPIRED_RUNS), 14);
    }

    private static void latched() {
        says("latches its diagnostic, if it is not latched yet, which keeps the time (before it increases in this tick)");
        WatchdogBoard x = new WatchdogBoard();
        x.rule(BOOT, 1);
        x.powerCycle();
        x.rule(PERIOD, 1);
        x.rule(OPEN, 0);
        x.addTask(2, 1);
        x.set(0, TOLERANCE, 10);
        x.run(1);
        due("time", x.state(TIME), 1);
        due("not latched", x.task(0, LATCHED), NONE);
        x.run(1);
        due("latched in the first tick of all", x.task(0, LATCHED), 1);
        x.run(2);
        due("latched still", x.task(0, LATCHED), 1);
        due("bad cycles", x.task(0, BAD_CYCLES), 2);
        due("cleared", x.clear(0), 2);
        due("not latched", x.task(0, LATCHED), NONE);
        x.run(1);
        due("a good cycle", x.task(0, LATCHED), NONE);
        x.run(1);
        due("latched anew", x.task(0, LATCHED), 5);
        due("time", x.state(TIME), 6);
        x.powerCycle();
        due("latched over a boot", x.task(0, LATCHED), 5);
        due("bad cycles over a boot", x.task(0, BAD_CYCLES), 1);
    }

    private static void expiredInTheRun() {
        says("Then, if some task is expired (also since this run), the number of expired runs increases by 1.");
        for (int last = 0; last < 6; last++) {
            WatchdogBoard x = up(0);
            x.rule(GRACE, 0);
            x.rule(KICK, 0);
            for (int i = 0; i <= last; i++) {
                x.addTask(10, 1);
                x.set(i, TOLERANCE, 0);
            }
            x.run(10);
            due("kicked", x.state(ELAPSED), 0);
            x.set(last, MOST, 0);
            x.run(10);
            due("set", x.state(EXPIRED_SET), 1 << last);
            due("expired runs", x.state(EXPIRED_RUNS), 1);
            due("not kicked", x.state(ELAPSED), 10);
            due("reset", x.reset(), 0);
            due("task of the record", last(x), COMMAND * 100 + last * 10);
        }
    }

    // ---- the watchdog

    private static void watchdog() {
        early();
        timeout();
        earlyBeforeTimeout();
        kickByHand();
    }

    private static void early() {
        says("if the elapsed time is less than OPEN, there is a reset with the cause EARLY; otherwise the elapsed time becomes 0");
        for (int open : new int[] {39, 40, 41}) {
            WatchdogBoard x = up(0);
            x.rule(KICK, 35);
            x.rule(OPEN, open);
            due("ticks with OPEN " + open, x.runToReset(40), 40);
            due("mode with OPEN " + open, x.state(MODE), open <= 40 ? RUNNING : BOOTING);
            due("resets", x.state(RESETS), open <= 40 ? 0 : 1);
            if (open > 40) {
                due("cause", last(x), EARLY * 100 + 90);
                due("u", lastU(x), 40);
                due("time of the record", x.record(0, 1), 40);
                due("time", x.state(TIME), 41);
            } else {
                due("elapsed", x.state(ELAPSED), 0);
            }
        }
        says("EARLY: the lowest task that is expired, NONE if there is none");
        WatchdogBoard x = up(0);
        x.addTask(1, 1);
        x.addTask(1, 1);
        x.set(1, MOST, 0);
        x.rule(KICK, 0);
        x.run(10);
        x.rule(OPEN, 11);
        due("early", x.runToReset(100), 10);
        due("cause and task", last(x), EARLY * 100 + 10);
        due("resets", x.task(0, TASK_RESETS) * 10 + x.task(1, TASK_RESETS), 1);
    }

    private static void timeout() {
        says("If it was not kicked, and the elapsed time is greater than CLOSE, there is a reset with the cause TIMEOUT.");
        for (int close : new int[] {1, 2, 99, 100, 1998}) {
            WatchdogBoard x = up(0);
            x.rule(CLOSE, close);
            x.run(close);
            due("mode at CLOSE " + close, x.state(MODE), RUNNING);
            due("elapsed", x.state(ELAPSED), close);
            x.run(1);
            due("mode behind CLOSE " + close, x.state(MODE), BOOTING);
            due("cause", last(x), TIMEOUT * 100 + 90);
            due("u", lastU(x), close + 1);
            due("time of the record", x.record(0, 1), 1 + close);
        }
        // Kicked in the tick in which it would be too late; and not kicked in it, but by the next run.
        for (int close : new int[] {38, 39, 40}) {
            WatchdogBoard x = up(0);
            x.rule(KICK, 40);
            x.rule(CLOSE, close);
            due("ticks with CLOSE " + close, x.runToReset(41), close == 38 ? 39 : 41);
            due("mode with CLOSE " + close, x.state(MODE), close == 38 ? BOOTING : RUNNING);
        }
        WatchdogBoard x = up(50);
        x.rule(CLOSE, 20);
        due("a CLOSE far below", x.runToReset(100), 1);
        due("cause", last(x), TIMEOUT * 100 + 90);
        due("u", lastU(x), 51);
    }

    private static void earlyBeforeTimeout() {
        says("If the watchdog was kicked in step 3: if the elapsed time is less than OPEN (also if it is greater than CLOSE)");
        WatchdogBoard x = up(9);
        x.rule(KICK, 10);
        x.rule(OPEN, 11);
        x.rule(CLOSE, 9);
        due("kicked", x.runToReset(1), 1);
        due("cause", last(x), EARLY * 100 + 90);
        WatchdogBoard y = up(9);
        y.rule(KICK, 10);
        y.rule(OPEN, 10);
        y.rule(CLOSE, 9);
        y.run(1);
        due("kicked", y.state(ELAPSED), 0);
        due("mode", y.state(MODE), RUNNING);
        WatchdogBoard z = up(9);
        z.rule(KICK, 11);
        z.rule(OPEN, 11);
        z.rule(CLOSE, 9);
        due("not kicked", z.runToReset(1), 1);
        due("cause", last(z), TIMEOUT * 100 + 90);
    }

    private static void kickByHand() {
        says("Kicks the watchdog by hand, between two ticks: if the elapsed time is less than OPEN");
        for (int elapsed : new int[] {0, 1, 19, 20, 21}) {
            WatchdogBoard x = up(elapsed);
            x.rule(OPEN, 20);
            due("kick", x.kick(), elapsed);
            due("mode at " + elapsed, x.state(MODE), elapsed < 20 ? BOOTING : RUNNING);
            due("resets at " + elapsed, x.state(RESETS), elapsed < 20 ? 1 : 0);
            due("time stays", x.state(TIME), 1 + elapsed);
            due("elapsed", x.state(ELAPSED), 0);
            due("u stays", x.state(U), elapsed < 20 ? 0 : elapsed);
            due("u of the record", x.record(0, 4), elapsed < 20 ? elapsed : NONE);
            due("time of the record", x.record(0, 1), elapsed < 20 ? 1 + elapsed : NONE);
        }
        // A kick behind CLOSE, which the watchdog has not seen yet.
        WatchdogBoard x = up(50);
        x.rule(CLOSE, 20);
        due("kick behind CLOSE", x.kick(), 50);
        due("mode", x.state(MODE), RUNNING);
        due("then up to CLOSE", x.runToReset(20), 20);
        due("mode", x.state(MODE), RUNNING);
        due("then behind CLOSE", x.runToReset(20), 1);
        says("NOT_POSSIBLE if the board is not RUNNING (kick, reset)");
        WatchdogBoard y = new WatchdogBoard();
        y.rule(ATTEMPTS, 1);
        due("kick in the first tick of a boot", y.kick(), NOT_POSSIBLE);
        due("reset in the first tick of a boot", y.reset(), NOT_POSSIBLE);
        y.run(29);
        due("kick in the last tick of a boot", y.kick(), NOT_POSSIBLE);
        due("reset in the last tick of a boot", y.reset(), NOT_POSSIBLE);
        y.run(1);
        due("kick", y.kick(), 0);
        due("image", y.state(IMAGE), 1);
        y.run(30);
        due("reset", y.reset(), 1);
        due("mode", y.state(MODE), SAFE);
        due("kick in SAFE", y.kick(), NOT_POSSIBLE);
        due("reset in SAFE", y.reset(), NOT_POSSIBLE);
    }

    // ---- resets

    private static void resets() {
        timesOfRecords();
        latestRecords();
        countOfResets();
        safe();
        powerCycle();
    }

    private static void timesOfRecords() {
        says("the time (before it increases in this tick; by hand, between two ticks, the time and u are as they are then)");
        WatchdogBoard x = up(0);
        x.rule(ATTEMPTS, 5);
        x.rule(CLOSE, 7);
        due("timeout", x.runToReset(100), 8);
        due("time", x.state(TIME), 9);
        int[][] due = {{TIMEOUT, 8, NONE, 0, 8}, {COMMAND, 10, NONE, 0, 0}, {COMMAND, 14, NONE, 0, 3}, {EARLY, 19, NONE, 0, 4}};
        x.run(1);
        x.reset();
        due("time after a reset by hand", x.state(TIME), 10);
        x.run(1 + 3);
        x.reset();
        x.run(1 + 4);
        x.rule(OPEN, 5);
        x.kick();
        due("time after a kick by hand", x.state(TIME), 19);
        for (int i = 0; i < due.length; i++) {
            for (int what = 0; what <= 4; what++) {
                due("record " + i + " " + what, x.record(i, what), due[i][what]);
            }
        }
    }

    private static void latestRecords() {
        says("The latest 16 records are kept; records are numbered from 0 for the first one.");
        for (int count : new int[] {0, 1, 15, 16, 17, 31, 32, 33, 48, 49, 70}) {
            WatchdogBoard x = up(0);
            for (int i = 0; i < count; i++) {
                due("number", x.reset(), i);
                x.powerCycle();
                x.run(1 + i % 7);
            }
            due("count", x.state(RESETS), count);
            due("record -1", x.record(-1, 4), NONE);
            for (int i = 0; i <= count + 1; i++) {
                boolean isKept = i >= count - 16 && i < count;
                // The board that gives the record i has run since the one before.
                int u = i == 0 ? 0 : (i - 1) % 7;
                due("u of " + i + " of " + count, x.record(i, 4), isKept ? u : NONE);
                due("cause of " + i + " of " + count, x.record(i, 0), isKept ? COMMAND : NONE);
            }
            due("record " + (count + 16), x.record(count + 16, 4), NONE);
            due("greatest int", x.record(Integer.MAX_VALUE, 4), NONE);
            due("least int", x.record(Integer.MIN_VALUE, 4), NONE);
        }
        says("Returns a property of a record. `what`: 0 its cause, 1 its time, 2 its task, 3 its image, 4 its u");
        WatchdogBoard x = up(0);
        x.reset();
        int[] due = {BAD_VALUE, COMMAND, 1, NONE, 0, 0, BAD_VALUE};
        for (int what = -1; what <= 5; what++) {
            due("what " + what, x.record(0, what), due[what + 1]);
        }
    }

    private static void countOfResets() {
        says("each reset with this task increases its count of resets by 1");
        WatchdogBoard x = up(0);
        x.rule(CLOSE, 30);
        x.rule(ATTEMPTS, 5);
        x.addTask(1, 1);
        x.addTask(1, 1);
        x.set(1, MOST, 0);
        due("timeout", x.runToReset(100), 31);
        due("cause", last(x), TIMEOUT * 100 + 10);
        due("count", x.task(1, TASK_RESETS), 1);
        x.run(1 + 20);
        x.rule(OPEN, 21);
        x.kick();
        due("cause", last(x), EARLY * 100 + 10);
        due("count", x.task(1, TASK_RESETS), 2);
        x.run(1 + 19);
        x.reset();
        due("not expired yet", last(x), COMMAND * 100 + 90);
        due("count", x.task(1, TASK_RESETS), 2);
        x.run(1 + 20);
        x.reset();
        due("expired", last(x), COMMAND * 100 + 10);
        due("count", x.task(1, TASK_RESETS), 3);
        x.putFault(1, 1, CRASH, 0, 0);
        x.putFault(0, 1, CRASH, 0, 0);
        x.runToReset(100);
        due("cause", x.record(4, 0) * 10 + x.record(4, 2), CRASHED * 10 + 1);
        due("count", x.task(1, TASK_RESETS), 4);
        due("count of the other one", x.task(0, TASK_RESETS), 0);
        x.powerCycle();
        due("count over a power cycle", x.task(1, TASK_RESETS), 4);
        says("it is not latched any more, and both of its counts become 0");
        due("bad cycles", x.clear(1), 7);
        due("count", x.task(1, TASK_RESETS), 0);
        due("bad cycles", x.task(1, BAD_CYCLES), 0);
        due("latched", x.task(1, LATCHED), NONE);
    }

    private static void safe() {
        says("SAFE: nothing else happens.");
        WatchdogBoard x = up(0);
        x.addTask(1, 1);
        x.putFault(0, 0, CRASH, 0, 0);
        x.putFault(1, 0, CRASH, 0, 0);
        x.rule(ATTEMPTS, 1);
        due("crash", x.runToReset(2000), 1);
        due("crash in the image 1", x.runToReset(2000), 2);
        int[] due = {4, SAFE, 1, 1, 0, 0, 0, 0, 0, 2, 1, 0, 0};
        for (int what = 0; what < due.length; what++) {
            due("state " + what, x.state(what), due[what]);
        }
        due("ticks", x.runToReset(2000), 2000);
        due("time", x.run(2000), 4004);
        for (int what = 1; what < due.length; what++) {
            due("state " + what + " later", x.state(what), due[what]);
        }
        for (int what = JOB; what <= EXPIRED; what++) {
            due("task " + what, x.task(0, what), 0);
        }
        due("no reset any more", x.task(0, TASK_RESETS), 2);
    }

    private static void powerCycle() {
        says("Switches the board off and on: it is BOOTING the image 0 with BOOT as the ticks left, and the number of attempts is 0");
        // From each mode, with the image 1 and some attempts.
        for (int mode = BOOTING; mode <= SAFE; mode++) {
            WatchdogBoard x = up(0);
            x.rule(ATTEMPTS, 2);
            for (int i = 0; i < 3; i++) {
                x.reset();
                x.run(1);
            }
            x.rule(BOOT, 9);
            if (mode != RUNNING) {
                x.rule(ATTEMPTS, mode == SAFE ? 2 : 5);
                x.reset();
            }
            due("image before", x.state(IMAGE), 1);
            due("attempts before", x.state(TRIED), mode == RUNNING ? 1 : 2);
            int resets = x.state(RESETS);
            due("mode before", x.powerCycle(), mode);
            due("mode", x.state(MODE), BOOTING);
            due("image", x.state(IMAGE), 0);
            due("attempts", x.state(TRIED), 0);
            due("ticks left", x.state(BOOT_LEFT), 9);
            due("nothing is recorded", x.state(RESETS), resets);
            due("time stays", x.state(TIME), 4);
        }
    }
}

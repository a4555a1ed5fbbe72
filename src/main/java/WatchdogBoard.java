/** A board with a windowed watchdog and a supervisor of its tasks, as ../shared/DOC.md promises it. */
public final class WatchdogBoard {
    public static final int NO_SUCH = -1, BAD_VALUE = -2, BAD_TEXT = -3, TOO_MANY = -4, NOT_POSSIBLE = -5, NONE = -6;
    public static final int OPEN = 0, CLOSE = 1, PERIOD = 2, KICK = 3, GRACE = 4, BOOT = 5, STABLE = 6, ATTEMPTS = 7;
    public static final int EVERY = 0, DURATION = 1, OFFSET = 2, CYCLE = 3, LEAST = 4, MOST = 5, TOLERANCE = 6, DEADLINE = 7;
    public static final int NO_FAULT = 0, HANG = 1, SLOW = 2, SKIP = 3, TWICE = 4, CRASH = 5;
    public static final int BOOTING = 0, RUNNING = 1, SAFE = 2;
    public static final int EARLY = 1, TIMEOUT = 2, CRASHED = 3, COMMAND = 4;

    private static final int NO_CAUSE = 0;

    // The ranges and first values, in the order of the numbers of the settings.
    private static final int[] RULE_LOWEST = {0, 1, 1, 0, 0, 1, 1, 1};
    private static final int[] RULE_GREATEST = {1000, 2000, 100, 2000, 20, 200, 5000, 5};
    private static final int[] RULE_FIRST = {20, 100, 10, 40, 2, 30, 500, 3};
    private static final int[] SETTING_LOWEST = {1, 1, 0, 1, 0, 0, 0, 0};
    private static final int[] SETTING_GREATEST = {200, 200, 199, 20, 50, 50, 10, 500};
    private static final int[] SETTING_FIRST = {1, 1, 0, 1, 1, 50, 1, 0};
    private static final int RULES = 8, SETTINGS = 8;

    private static final int IMAGES = 2, SLOTS = 2, TASKS_KEPT = 6;
    private static final int START_GREATEST = 5000, AMOUNT_GREATEST = 500, KICK_GREATEST = 2000;
    private static final int TICKS_A_CALL = 2000, LAST_TIME = 1000000;
    private static final int RECORDS_KEPT = 16, PROPERTIES = 5, PROPERTY_U = 4;

    private static final String KINDS = "nhsktc";
    private static final int PAD_LENGTH = 60, SIGNS_A_CALL = 8, LOWEST_CODE = 33, GREATEST_CODE = 126;
    // "n0," is the shortest fault with its comma, so no more faults find a place in the pad.
    private static final int FAULTS_A_PAD = 20;

    private final Board board;
    // The copy of the what-if calls: made once, because every object of a run is counted.
    private final Board trial;
    private final Board[] slots;
    private final boolean[] isSaved;
    private final Pad pad;

    public WatchdogBoard() {
        board = new Board();
        trial = new Board();
        slots = new Board[SLOTS];
        for (int i = 0; i < SLOTS; i++) {
            slots[i] = new Board();
        }
        isSaved = new boolean[SLOTS];
        pad = new Pad();
    }

    // ---- settings and tasks

    public int rule(int setting, int value) {
        if (!isAllowed(setting, value, RULE_LOWEST, RULE_GREATEST)) {
            return BAD_VALUE;
        }
        int previous = board.rules[setting];
        board.rules[setting] = value;
        return previous;
    }

    public int addTask(int every, int duration) {
        if (!isAllowed(EVERY, every, SETTING_LOWEST, SETTING_GREATEST)
                || !isAllowed(DURATION, duration, SETTING_LOWEST, SETTING_GREATEST)) {
            return BAD_VALUE;
        }
        if (board.taskCount >= TASKS_KEPT) {
            return TOO_MANY;
        }
        int number = board.taskCount;
        board.tasks[number].becomeNew(every, duration);
        board.taskCount++;
        return number;
    }

    public int set(int task, int setting, int value) {
        if (!hasTask(task)) {
            return NO_SUCH;
        }
        if (!isAllowed(setting, value, SETTING_LOWEST, SETTING_GREATEST)) {
            return BAD_VALUE;
        }
        int[] settings = board.tasks[task].settings;
        int previous = settings[setting];
        settings[setting] = value;
        return previous;
    }

    public int putFault(int image, int task, int kind, int start, int amount) {
        if (!isWithin(image, 0, IMAGES - 1) || !hasTask(task)) {
            return NO_SUCH;
        }
        if (!isWithin(kind, NO_FAULT, CRASH) || !isWithin(start, 0, START_GREATEST)
                || !isWithin(amount, 0, AMOUNT_GREATEST)) {
            return BAD_VALUE;
        }
        int previous = board.tasks[task].faultKinds[image];
        board.tasks[task].takeFault(image, kind, start, amount);
        return previous;
    }

    // ---- texts

    public int put(long characters) {
        int count = countSigns(characters);
        if (count == 0) {
            return BAD_VALUE;
        }
        if (pad.length + count > PAD_LENGTH) {
            return TOO_MANY;
        }
        pad.append(characters, count);
        return pad.length;
    }

    public int wipe() {
        int previous = pad.length;
        pad.length = 0;
        return previous;
    }

    public int position() {
        return pad.readFaults();
    }

    public int load() {
        if (pad.readFaults() != NONE) {
            return BAD_TEXT;
        }
        // All faults are looked at first, because a call with an error must change nothing.
        for (int i = 0; i < pad.found; i++) {
            if (!hasTask(pad.faultTasks[i])) {
                return NO_SUCH;
            }
        }
        for (int i = 0; i < pad.found; i++) {
            board.tasks[pad.faultTasks[i]].takeFault(
                    pad.faultImages[i], pad.faultKinds[i], pad.faultStarts[i], pad.faultAmounts[i]);
        }
        pad.length = 0;
        return pad.found;
    }

    // ---- time

    public int run(int n) {
        if (!isWithin(n, 1, TICKS_A_CALL)) {
            return BAD_VALUE;
        }
        if (board.time + n > LAST_TIME) {
            return NOT_POSSIBLE;
        }
        for (int i = 0; i < n; i++) {
            board.tick();
        }
        return board.time;
    }

    public int runToReset(int n) {
        if (!isWithin(n, 1, TICKS_A_CALL)) {
            return BAD_VALUE;
        }
        if (board.time + n > LAST_TIME) {
            return NOT_POSSIBLE;
        }
        int ticks = board.ticksToReset(n);
        return ticks == NONE ? n : ticks;
    }

    public int kick() {
        if (board.mode != RUNNING) {
            return NOT_POSSIBLE;
        }
        int previous = board.elapsed;
        if (previous < board.rules[OPEN]) {
            board.fall(EARLY, board.lowestExpired());
        } else {
            board.elapsed = 0;
        }
        return previous;
    }

    public int reset() {
        if (board.mode != RUNNING) {
            return NOT_POSSIBLE;
        }
        int number = board.book.count;
        board.fall(COMMAND, board.lowestExpired());
        return number;
    }

    public int powerCycle() {
        int previous = board.mode;
        board.switchOffAndOn();
        return previous;
    }

    // ---- what there is

    public int state(int what) {
        if (isWithin(what, 13, 12 + RULES)) {
            return board.rules[what - 13];
        }
        switch (what) {
            case 0: return board.time;
            case 1: return board.mode;
            case 2: return board.image;
            case 3: return board.attempts;
            case 4: return board.mode == BOOTING ? board.bootLeft : 0;
            case 5: return board.ifRunning(board.u);
            case 6: return board.ifRunning(board.elapsed);
            case 7: return board.ifRunning(board.runs);
            case 8: return board.ifRunning(board.expiredRuns);
            case 9: return board.book.count;
            case 10: return board.taskCount;
            case 11: return board.ifRunning(board.expiredSet());
            case 12: return pad.length;
            default: return BAD_VALUE;
        }
    }

    public int task(int task, int what) {
        if (!hasTask(task)) {
            return NO_SUCH;
        }
        Task asked = board.tasks[task];
        if (isWithin(what, 0, SETTINGS - 1)) {
            return asked.settings[what];
        }
        if (isWithin(what, 8, 13)) {
            return board.ifRunning(asked.momentary(what));
        }
        switch (what) {
            case 14: return asked.faultKinds[0];
            case 15: return asked.faultKinds[1];
            case 16: return asked.badCycles;
            case 17: return asked.isLatched ? asked.latchTime : NONE;
            case 18: return asked.resets;
            default: return BAD_VALUE;
        }
    }

    public int record(int record, int what) {
        if (!isWithin(what, 0, PROPERTIES - 1)) {
            return BAD_VALUE;
        }
        return board.book.property(record, what);
    }

    public int clear(int task) {
        if (!hasTask(task)) {
            return NO_SUCH;
        }
        int previous = board.tasks[task].badCycles;
        board.tasks[task].clearDiagnostic();
        return previous;
    }

    // ---- what if

    public int forecast(int most) {
        if (!isWithin(most, 1, 5000)) {
            return BAD_VALUE;
        }
        trial.become(board);
        return trial.ticksToReset(most);
    }

    public int worstHang(int task, int first, int count, int most) {
        if (!hasTask(task)) {
            return NO_SUCH;
        }
        if (!isWithin(first, 1, 4000) || !isWithin(count, 1, 60) || !isWithin(most, 1, 5000)) {
            return BAD_VALUE;
        }
        // Below every delay, as no start is so great.
        int worst = -START_GREATEST;
        for (int start = first; start < first + count; start++) {
            prepareTrial();
            trial.tasks[task].takeFault(0, HANG, start, 0);
            if (trial.ticksToReset(most) == NONE) {
                return NONE;
            }
            worst = Math.max(worst, trial.book.property(trial.book.count - 1, PROPERTY_U) - start);
        }
        return worst;
    }

    public int greatestKick(int most) {
        if (!isWithin(most, 1, 1000)) {
            return BAD_VALUE;
        }
        if (staysUp(KICK_GREATEST, most)) {
            return KICK_GREATEST;
        }
        // From a boot on without kicks by hand, the elapsed time is a multiple of PERIOD whenever
        // the supervisor runs; so a value between two multiples does what the upper one does.
        int period = Math.max(1, board.rules[PERIOD]);
        for (int i = (KICK_GREATEST - 1) / period; i >= 0; i--) {
            if (staysUp(i * period, most)) {
                return i * period;
            }
        }
        return NONE;
    }

    // ---- saving

    public int save(int slot) {
        if (!isWithin(slot, 0, SLOTS - 1)) {
            return BAD_VALUE;
        }
        slots[slot].become(board);
        isSaved[slot] = true;
        return board.time;
    }

    public int restore(int slot) {
        if (!isWithin(slot, 0, SLOTS - 1)) {
            return BAD_VALUE;
        }
        if (!isSaved[slot]) {
            return NOT_POSSIBLE;
        }
        board.become(slots[slot]);
        return board.time;
    }

    // ---- helpers

    private boolean hasTask(int task) {
        return isWithin(task, 0, board.taskCount - 1);
    }

    // Makes the trial a copy without faults that has just been switched off and on.
    private void prepareTrial() {
        trial.become(board);
        trial.removeFaults();
        trial.switchOffAndOn();
    }

    private boolean staysUp(int kick, int most) {
        prepareTrial();
        trial.rules[KICK] = kick;
        return trial.ticksToReset(most) == NONE;
    }

    private static boolean isWithin(int value, int lowest, int greatest) {
        return value >= lowest && value <= greatest;
    }

    private static boolean isAllowed(int setting, int value, int[] lowest, int[] greatest) {
        return setting >= 0 && setting < lowest.length && setting < greatest.length
                && isWithin(value, lowest[setting], greatest[setting]);
    }

    private static boolean divides(int divisor, int number) {
        return divisor > 0 && number % divisor == 0;
    }

    // How many characters the number stands for; 0 if it stands for none, or is no such number.
    private static int countSigns(long characters) {
        long rest = characters;
        int count = 0;
        while (count < SIGNS_A_CALL && (rest & 255) != 0) {
            if (!isWithin((int) (rest & 255), LOWEST_CODE, GREATEST_CODE)) {
                return 0;
            }
            rest = rest >>> 8;
            count++;
        }
        return rest == 0 ? count : 0;
    }

    /** All that a slot saves, and that a what-if call tries out: everything but the pad and the slots. */
    private static final class Board {
        final int[] rules = RULE_FIRST.clone();
        final Task[] tasks = new Task[TASKS_KEPT];
        final Book book = new Book();
        int taskCount = 0;
        int time = 0;
        int mode = BOOTING;
        int image = 0;
        int attempts = 0;
        int bootLeft = RULE_FIRST[BOOT];
        // What follows counts from the begin of a run on, and means nothing in another mode.
        int u = 0;
        int elapsed = 0;
        int runs = 0;
        int expiredRuns = 0;

        Board() {
            for (int i = 0; i < TASKS_KEPT; i++) {
                tasks[i] = new Task();
            }
        }

        void become(Board other) {
            System.arraycopy(other.rules, 0, rules, 0, RULES);
            // A task that the other has not is left as it is: addTask makes it new before it is used.
            for (int i = 0; i < other.taskCount; i++) {
                tasks[i].become(other.tasks[i]);
            }
            book.become(other.book);
            taskCount = other.taskCount;
            time = other.time;
            mode = other.mode;
            image = other.image;
            attempts = other.attempts;
            bootLeft = other.bootLeft;
            u = other.u;
            elapsed = other.elapsed;
            runs = other.runs;
            expiredRuns = other.expiredRuns;
        }

        void removeFaults() {
            for (int i = 0; i < taskCount; i++) {
                for (int j = 0; j < IMAGES; j++) {
                    tasks[i].takeFault(j, NO_FAULT, 0, 0);
                }
            }
        }

        void switchOffAndOn() {
            image = 0;
            attempts = 0;
            boot();
        }

        private void boot() {
            mode = BOOTING;
            bootLeft = rules[BOOT];
        }

        int ifRunning(int value) {
            return mode == RUNNING ? value : 0;
        }

        int expiredSet() {
            int expired = 0;
            for (int i = 0; i < taskCount; i++) {
                if (tasks[i].isExpired) {
                    expired |= 1 << i;
                }
            }
            return expired;
        }

        int lowestExpired() {
            for (int i = 0; i < taskCount; i++) {
                if (tasks[i].isExpired) {
                    return i;
                }
            }
            return NONE;
        }

        // The number of ticks that were made, the last of which had a reset; NONE if none had.
        int ticksToReset(int most) {
            for (int i = 1; i <= most; i++) {
                if (tick()) {
                    return i;
                }
            }
            return NONE;
        }

        // Whether there was a reset in the tick.
        boolean tick() {
            boolean hasReset = false;
            if (mode == BOOTING) {
                tickBooting();
            } else if (mode == RUNNING) {
                hasReset = tickRunning();
            }
            time++;
            return hasReset;
        }

        private void tickBooting() {
            bootLeft--;
            if (bootLeft > 0) {
                return;
            }
            mode = RUNNING;
            u = 0;
            elapsed = 0;
            runs = 0;
            expiredRuns = 0;
            for (int i = 0; i < taskCount; i++) {
                tasks[i].beginRun();
            }
        }

        private boolean tickRunning() {
            u++;
            elapsed++;
            for (int i = 0; i < taskCount; i++) {
                if (tasks[i].crashesInTick(u, image)) {
                    fall(CRASHED, i);
                    return true;
                }
            }
            boolean isKicked = divides(rules[PERIOD], u) && supervise();
            int cause = watch(isKicked);
            if (cause != NO_CAUSE) {
                fall(cause, lowestExpired());
                return true;
            }
            if (u == rules[STABLE]) {
                attempts = 0;
            }
            return false;
        }

        // Whether the supervisor kicks the watchdog.
        private boolean supervise() {
            runs++;
            for (int i = 0; i < taskCount; i++) {
                Task task = tasks[i];
                if (!task.isExpired && divides(task.settings[CYCLE], runs)) {
                    task.endCycle(time);
                }
            }
            if (lowestExpired() != NONE) {
                expiredRuns++;
            }
            return expiredRuns <= rules[GRACE] && elapsed >= rules[KICK];
        }

        // The cause for which the watchdog resets the board, if it does.
        private int watch(boolean isKicked) {
            if (isKicked && elapsed < rules[OPEN]) {
                return EARLY;
            }
            if (isKicked) {
                elapsed = 0;
                return NO_CAUSE;
            }
            return elapsed > rules[CLOSE] ? TIMEOUT : NO_CAUSE;
        }

        // A reset: it is recorded with the image that ran, and the board boots again or gives up.
        void fall(int cause, int task) {
            book.add(cause, time, task, image, u);
            if (task >= 0 && task < taskCount) {
                tasks[task].resets++;
            }
            attempts++;
            boolean isGivenUp = attempts >= rules[ATTEMPTS];
            if (isGivenUp && image == 1) {
                mode = SAFE;
                return;
            }
            if (isGivenUp) {
                image = 1;
                attempts = 0;
            }
            boot();
        }
    }

    /** A task with its faults, its job and its diagnostic. */
    private static final class Task {
        final int[] settings = SETTING_FIRST.clone();
        // By image:
        final int[] faultKinds = new int[IMAGES];
        final int[] faultStarts = new int[IMAGES];
        final int[] faultAmounts = new int[IMAGES];
        boolean hasJob = false;
        // These three mean nothing without a job.
        boolean hangs = false;
        int begin = 0;
        int left = 0;
        int alive = 0;
        int failures = 0;
        boolean isLate = false;
        boolean isExpired = false;
        int badCycles = 0;
        boolean isLatched = false;
        int latchTime = 0;
        int resets = 0;

        void becomeNew(int every, int duration) {
            System.arraycopy(SETTING_FIRST, 0, settings, 0, SETTINGS);
            settings[EVERY] = every;
            settings[DURATION] = duration;
            for (int i = 0; i < IMAGES; i++) {
                takeFault(i, NO_FAULT, 0, 0);
            }
            beginRun();
            clearDiagnostic();
        }

        void become(Task other) {
            System.arraycopy(other.settings, 0, settings, 0, SETTINGS);
            System.arraycopy(other.faultKinds, 0, faultKinds, 0, IMAGES);
            System.arraycopy(other.faultStarts, 0, faultStarts, 0, IMAGES);
            System.arraycopy(other.faultAmounts, 0, faultAmounts, 0, IMAGES);
            hasJob = other.hasJob;
            hangs = other.hangs;
            begin = other.begin;
            left = other.left;
            alive = other.alive;
            failures = other.failures;
            isLate = other.isLate;
            isExpired = other.isExpired;
            badCycles = other.badCycles;
            isLatched = other.isLatched;
            latchTime = other.latchTime;
            resets = other.resets;
        }

        void takeFault(int image, int kind, int start, int amount) {
            if (image < 0 || image >= IMAGES) {
                return;
            }
            faultKinds[image] = kind;
            faultStarts[image] = start;
            faultAmounts[image] = amount;
        }

        void beginRun() {
            hasJob = false;
            alive = 0;
            failures = 0;
            isLate = false;
            isExpired = false;
        }

        void clearDiagnostic() {
            badCycles = 0;
            isLatched = false;
            resets = 0;
        }

        // What the task is asked by the numbers 8 to 13, which is about a running board alone.
        int momentary(int what) {
            switch (what) {
                case 8: return hasJob ? 1 : 0;
                case 9: return hasJob && !hangs ? left : 0;
                case 10: return alive;
                case 11: return failures;
                case 12: return isLate ? 1 : 0;
                default: return isExpired ? 1 : 0;
            }
        }

        // The task's part of a tick, and whether its job crashes the board.
        boolean crashesInTick(int u, int image) {
            if (hasJob && !hangs) {
                left--;
                hasJob = left > 0;
            }
            if (!hasJob && divides(settings[EVERY], u - settings[OFFSET]) && crashesAtBegin(u, image)) {
                return true;
            }
            if (hasJob && settings[DEADLINE] != 0 && u - begin > settings[DEADLINE]) {
                isLate = true;
            }
            return false;
        }

        // Begins a job, and tells whether it crashes the board.
        private boolean crashesAtBegin(int u, int image) {
            int kind = NO_FAULT;
            int amount = 0;
            if (image >= 0 && image < IMAGES && u >= faultStarts[image]) {
                kind = faultKinds[image];
                amount = faultAmounts[image];
            }
            hasJob = true;
            hangs = kind == HANG;
            begin = u;
            left = settings[DURATION] + (kind == SLOW ? amount : 0);
            if (kind != SKIP) {
                alive += kind == TWICE ? 2 : 1;
            }
            return kind == CRASH;
        }

        // The supervisor's check of the task, at the end of a cycle.
        void endCycle(int time) {
            boolean isGood = isWithin(alive, settings[LEAST], settings[MOST]) && !isLate;
            if (isGood) {
                failures = Math.max(0, failures - 1);
            } else {
                failures++;
                isExpired = failures > settings[TOLERANCE];
                badCycles++;
                latchTime = isLatched ? latchTime : time;
                isLatched = true;
            }
            alive = 0;
            isLate = false;
        }
    }

    /** The records of the resets, of which only the latest are kept. */
    private static final class Book {
        // One record behind the other, each with its properties in the order of their numbers.
        final int[] cells = new int[RECORDS_KEPT * PROPERTIES];
        int count = 0;

        void add(int cause, int time, int task, int image, int u) {
            int first = count % RECORDS_KEPT * PROPERTIES;
            cells[first] = cause;
            cells[first + 1] = time;
            cells[first + 2] = task;
            cells[first + 3] = image;
            cells[first + PROPERTY_U] = u;
            count++;
        }

        int property(int record, int what) {
            if (record < 0 || record >= count || record < count - RECORDS_KEPT || !isWithin(what, 0, PROPERTIES - 1)) {
                return NONE;
            }
            return cells[record % RECORDS_KEPT * PROPERTIES + what];
        }

        void become(Book other) {
            System.arraycopy(other.cells, 0, cells, 0, RECORDS_KEPT * PROPERTIES);
            count = other.count;
        }
    }

    /** The text from which faults are read, and the faults that were read last. */
    private static final class Pad {
        final char[] signs = new char[PAD_LENGTH];
        int length = 0;
        // Where the reading stands: if it fails, at the character that cannot stand there, or behind the last one.
        int at = 0;
        int found = 0;
        final int[] faultKinds = new int[FAULTS_A_PAD];
        final int[] faultTasks = new int[FAULTS_A_PAD];
        final int[] faultStarts = new int[FAULTS_A_PAD];
        final int[] faultAmounts = new int[FAULTS_A_PAD];
        final int[] faultImages = new int[FAULTS_A_PAD];

        // The first of the characters is in the highest of the bits.
        void append(long characters, int count) {
            for (int i = count - 1; i >= 0 && length < PAD_LENGTH; i--) {
                signs[length] = (char) ((characters >>> (8 * i)) & 255);
                length++;
            }
        }

        // Reads the whole pad, and answers its fault position.
        int readFaults() {
            at = 0;
            found = 0;
            boolean isFine = readFault();
            for (int i = 0; i < FAULTS_A_PAD && isFine && accept(','); i++) {
                isFine = readFault();
            }
            return isFine && at == length ? NONE : at;
        }

        private boolean readFault() {
            int kind = KINDS.indexOf(sign());
            if (kind < 0) {
                return false;
            }
            at++;
            int task = digit();
            if (!isWithin(task, 0, TASKS_KEPT - 1)) {
                return false;
            }
            at++;
            int start = accept('@') ? readNumber(START_GREATEST) : 0;
            if (start < 0) {
                return false;
            }
            int amount = accept('*') ? readNumber(AMOUNT_GREATEST) : 0;
            if (amount < 0) {
                return false;
            }
            keepFault(accept('!') ? 1 : 0, task, kind, start, amount);
            return true;
        }

        private void keepFault(int image, int task, int kind, int start, int amount) {
            if (found >= FAULTS_A_PAD) {
                return;
            }
            faultImages[found] = image;
            faultTasks[found] = task;
            faultKinds[found] = kind;
            faultStarts[found] = start;
            faultAmounts[found] = amount;
            found++;
        }

        // The number that stands here, -1 if none does. A digit that it cannot take is left
        // where it is: nothing that may follow is a digit, so the reading fails there.
        private int readNumber(int greatest) {
            int number = digit();
            if (number < 0) {
                return -1;
            }
            at++;
            for (int i = 0; i < PAD_LENGTH; i++) {
                int next = digit();
                if (next < 0 || number == 0 || number * 10 + next > greatest) {
                    return number;
                }
                number = number * 10 + next;
                at++;
            }
            return number;
        }

        private boolean accept(char wanted) {
            if (sign() != wanted) {
                return false;
            }
            at++;
            return true;
        }

        private int digit() {
            char sign = sign();
            return sign >= '0' && sign <= '9' ? sign - '0' : -1;
        }

        // The character that is read next; behind the last one 0, which stands in no text.
        private char sign() {
            return at >= 0 && at < length && at < PAD_LENGTH ? signs[at] : (char) 0;
        }
    }
}

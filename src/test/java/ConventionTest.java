import java.util.ArrayList;
import java.util.List;

/**
 * The sentences of 'CONVENTIONS': errors change nothing, the first error that applies is returned, NONE
 * is no error; and that what is only asked, or tried out in copies, changes nothing either.
 */
public final class ConventionTest {
    private static final int NO_SUCH = -1, BAD_VALUE = -2, BAD_TEXT = -3, TOO_MANY = -4, NOT_POSSIBLE = -5, NONE = -6;
    private static final int OPEN = 0, CLOSE = 1, PERIOD = 2, KICK = 3, BOOT = 5, ATTEMPTS = 7;
    private static final int LEAST = 4, MOST = 5, TOLERANCE = 6, DEADLINE = 7;
    private static final int HANG = 1, SLOW = 2, SKIP = 3, CRASH = 5;
    private static final int BOOTING = 0, RUNNING = 1, SAFE = 2;
    private static final int MODE = 1;

    private static final int[] RULE_LOWEST = {0, 1, 1, 0, 0, 1, 1, 1};
    private static final int[] RULE_GREATEST = {1000, 2000, 100, 2000, 20, 200, 5000, 5};
    private static final int[] SETTING_LOWEST = {1, 1, 0, 1, 0, 0, 0, 0};
    private static final int[] SETTING_GREATEST = {200, 200, 199, 20, 50, 50, 10, 500};

    private static int wrong = 0;
    private static String sentence = "";

    private interface Call {
        int on(WatchdogBoard x);
    }

    /** A call with its name and the answer that is due. */
    private static final class Named {
        final String name;
        final Call call;
        final int due;

        Named(String name, Call call, int due) {
            this.name = name;
            this.call = call;
            this.due = due;
        }
    }

    private static void says(String words) {
        sentence = words;
    }

    private static void due(String what, long got, long want) {
        if (got != want) {
            wrong++;
            System.out.println("'" + sentence + "': " + what + " answered " + got + ", due is " + want);
        }
    }

    public static void main(String[] arguments) {
        errorsChangeNothing();
        errorsOfAFullBoardChangeNothing();
        errorsOfThePadChangeNothing();
        errorsAtTheLastTickChangeNothing();
        questionsChangeNothing();
        restoredIsAsSaved();
        firstErrorOfTasks();
        firstErrorOfTime();
        firstErrorOfTheRest();
        noneIsNoError();
        System.out.println(wrong == 0 ? "all conventions hold" : wrong + " answers are wrong");
        if (wrong != 0) {
            System.exit(1);
        }
    }

    // ---- boards

    private static long number(String text) {
        long number = 0;
        for (int i = 0; i < text.length(); i++) {
            number = number * 256 + text.charAt(i);
        }
        return number;
    }

    private static void putText(WatchdogBoard x, String text) {
        for (int i = 0; i < text.length(); i += 8) {
            x.put(number(text.substring(i, Math.min(text.length(), i + 8))));
        }
    }

    // A board with two tasks, of which nothing is as it is at first: the settings, faults, counts, records, slot 0.
    private static WatchdogBoard board(int mode, String pad) {
        WatchdogBoard x = new WatchdogBoard();
        x.rule(BOOT, 4);
        x.rule(PERIOD, 5);
        x.rule(KICK, 10);
        x.rule(OPEN, 10);
        x.rule(CLOSE, 60);
        x.rule(ATTEMPTS, 2);
        x.powerCycle();
        x.addTask(10, 4);
        x.addTask(6, 3);
        x.set(0, DEADLINE, 6);
        x.set(0, LEAST, 0);
        x.set(1, TOLERANCE, 0);
        x.putFault(0, 0, SLOW, 35, 9);
        x.putFault(1, 0, HANG, 25, 0);
        x.putFault(1, 1, SKIP, 31, 0);
        x.run(4 + 12);
        x.save(0);
        x.run(20);
        x.reset();
        x.run(4 + 31);
        if (mode == BOOTING) {
            x.reset();
            x.run(3);
        } else if (mode == SAFE) {
            x.reset();
            x.run(4);
            x.reset();
            x.run(4);
            x.reset();
        }
        putText(x, pad);
        due("mode of a board", x.state(MODE), mode);
        return x;
    }

    // ---- what a board tells

    private static void tellNow(WatchdogBoard x, List<Integer> told) {
        for (int what = 0; what <= 20; what++) {
            told.add(x.state(what));
        }
        for (int i = 0; i < 6; i++) {
            for (int what = 0; what <= 18 && (what == 0 || x.task(i, 0) != NO_SUCH); what++) {
                told.add(x.task(i, what));
            }
        }
        for (int i = 0; i < 6; i++) {
            for (int what = 0; what <= 4; what++) {
                told.add(x.record(i, what));
            }
        }
        told.add(x.position());
    }

    // What is seen only later: how jobs and faults go on, what is in the pad and in the slots.
    private static final String[] LATER = {"at once", "some ticks later", "in the image 1", "loaded", "restored 0", "restored 1"};

    private static List<Integer> tell(WatchdogBoard x, int later) {
        List<Integer> told = new ArrayList<>();
        switch (later) {
            case 1:
                for (int i = 0; i < 12; i++) {
                    told.add(x.run(1));
                    told.add(x.task(0, 9));
                    told.add(x.task(1, 9));
                }
                told.add(x.runToReset(300));
                break;
            case 2:
                x.powerCycle();
                for (int i = 0; i < 2; i++) {
                    x.run(4);
                    told.add(x.reset());
                }
                told.add(x.runToReset(150));
                break;
            case 3: told.add(x.load()); x.run(20); break;
            case 4: told.add(x.restore(0)); x.run(30); break;
            case 5: told.add(x.restore(1)); break;
            default: break;
        }
        tellNow(x, told);
        return told;
    }

    // Two boards that were made alike, one of which gets the call, tell the same.
    private static void changesNothing(Named named, int mode, String pad) {
        for (int later = 0; later < LATER.length; later++) {
            WatchdogBoard x = board(mode, pad);
            due(named.name + " in the mode " + mode, named.call.on(x), named.due);
            boolean isSame = tell(x, later).equals(tell(board(mode, pad), later));
            due(named.name + " in the mode " + mode + ", the same " + LATER[later], isSame ? 1 : 0, 1);
        }
    }

    // ---- errors

    private static void errorsChangeNothing() {
        says("A call that returns an error changes nothing.");
        List<Named> calls = new ArrayList<>();
        addSettingErrors(calls);
        addOtherErrors(calls);
        for (int mode = BOOTING; mode <= SAFE; mode++) {
            for (Named call : calls) {
                changesNothing(call, mode, "h0@3*4!,s1");
            }
            if (mode != RUNNING) {
                changesNothing(new Named("kick()", WatchdogBoard::kick, NOT_POSSIBLE), mode, "h0");
                changesNothing(new Named("reset()", WatchdogBoard::reset, NOT_POSSIBLE), mode, "h0");
            }
        }
    }

    private static void addSettingErrors(List<Named> calls) {
        for (int i = 0; i < 8; i++) {
            int setting = i;
            calls.add(new Named("rule too low", x -> x.rule(setting, RULE_LOWEST[setting] - 1), BAD_VALUE));
            calls.add(new Named("rule too great", x -> x.rule(setting, RULE_GREATEST[setting] + 1), BAD_VALUE));
            calls.add(new Named("set too low", x -> x.set(1, setting, SETTING_LOWEST[setting] - 1), BAD_VALUE));
            calls.add(new Named("set too great", x -> x.set(1, setting, SETTING_GREATEST[setting] + 1), BAD_VALUE));
            calls.add(new Named("set of no task", x -> x.set(2, setting, SETTING_LOWEST[setting]), NO_SUCH));
        }
        for (int setting : new int[] {-1, 8}) {
            calls.add(new Named("rule(" + setting + ", 1)", x -> x.rule(setting, 1), BAD_VALUE));
            calls.add(new Named("set(0, " + setting + ", 1)", x -> x.set(0, setting, 1), BAD_VALUE));
        }
        int[][] tasks = {{0, 1}, {201, 1}, {1, 0}, {1, 201}};
        for (int[] task : tasks) {
            calls.add(new Named("addTask", x -> x.addTask(task[0], task[1]), BAD_VALUE));
        }
        int[][] faults = {{-1, 0, CRASH, 0, 0, NO_SUCH}, {2, 0, CRASH, 0, 0, NO_SUCH}, {0, -1, CRASH, 0, 0, NO_SUCH},
            {1, 2, CRASH, 0, 0, NO_SUCH}, {0, 0, -1, 0, 0, BAD_VALUE}, {0, 0, 6, 0, 0, BAD_VALUE},
            {0, 0, CRASH, -1, 0, BAD_VALUE}, {1, 0, CRASH, 5001, 0, BAD_VALUE}, {0, 1, CRASH, 0, -1, BAD_VALUE},
            {1, 1, CRASH, 0, 501, BAD_VALUE}};
        for (int[] f : faults) {
            calls.add(new Named("putFault", x -> x.putFault(f[0], f[1], f[2], f[3], f[4]), f[5]));
        }
    }

    private static void addOtherErrors(List<Named> calls) {
        for (long characters : new long[] {0, 32, 127, number("n") << 8, number("n n"), number("n") << 16 | 110, -1}) {
            calls.add(new Named("put(" + characters + ")", x -> x.put(characters), BAD_VALUE));
        }
        for (int n : new int[] {0, -1, 2001, Integer.MIN_VALUE, Integer.MAX_VALUE}) {
            calls.add(new Named("run(" + n + ")", x -> x.run(n), BAD_VALUE));
            calls.add(new Named("runToReset(" + n + ")", x -> x.runToReset(n), BAD_VALUE));
        }
        for (int n : new int[] {-1, 2}) {
            calls.add(new Named("task(" + n + ", 0)", x -> x.task(n, 0), NO_SUCH));
            calls.add(new Named("clear(" + n + ")", x -> x.clear(n), NO_SUCH));
            calls.add(new Named("worstHang(" + n + ", 1, 1, 1)", x -> x.worstHang(n, 1, 1, 1), NO_SUCH));
            calls.add(new Named("save(" + n + ")", x -> x.save(n), BAD_VALUE));
            calls.add(new Named("restore(" + n + ")", x -> x.restore(n), BAD_VALUE));
        }
        calls.add(new Named("restore(1)", x -> x.restore(1), NOT_POSSIBLE));
        calls.add(new Named("state(-1)", x -> x.state(-1), BAD_VALUE));
        calls.add(new Named("state(21)", x -> x.state(21), BAD_VALUE));
        calls.add(new Named("task(1, -1)", x -> x.task(1, -1), BAD_VALUE));
        calls.add(new Named("task(1, 19)", x -> x.task(1, 19), BAD_VALUE));
        calls.add(new Named("record(0, -1)", x -> x.record(0, -1), BAD_VALUE));
        calls.add(new Named("record(0, 5)", x -> x.record(0, 5), BAD_VALUE));
        calls.add(new Named("forecast(0)", x -> x.forecast(0), BAD_VALUE));
        calls.add(new Named("forecast(5001)", x -> x.forecast(5001), BAD_VALUE));
        calls.add(new Named("greatestKick(0)", x -> x.greatestKick(0), BAD_VALUE));
        calls.add(new Named("greatestKick(1001)", x -> x.greatestKick(1001), BAD_VALUE));
        int[][] hangs = {{0, 1, 1}, {4001, 1, 1}, {1, 0, 1}, {1, 61, 1}, {1, 1, 0}, {1, 1, 5001}};
        for (int[] hang : hangs) {
            calls.add(new Named("worstHang", x -> x.worstHang(0, hang[0], hang[1], hang[2]), BAD_VALUE));
        }
    }

    private static void errorsOfAFullBoardChangeNothing() {
        says("A call that returns an error changes nothing. (TOO_MANY if there are 6 tasks)");
        WatchdogBoard x = board(RUNNING, "");
        WatchdogBoard y = board(RUNNING, "");
        for (int i = 2; i < 6; i++) {
            due("task", x.addTask(7, i), i);
            due("task", y.addTask(7, i), i);
        }
        due("seventh", x.addTask(9, 9), TOO_MANY);
        due("the same", tell(x, 1).equals(tell(y, 1)) ? 1 : 0, 1);
    }

    private static void errorsOfThePadChangeNothing() {
        says("A call that returns an error changes nothing. (put, load)");
        String full = "s0@1*2,h1!,s0@1*2,h1!,s0@1*2,h1!,s0@1*2,h1!,s0@1*2,h1!,s0,k1";
        due("length of a full text", full.length(), 60);
        for (int mode = BOOTING; mode <= SAFE; mode++) {
            changesNothing(new Named("put too much", x -> x.put(number("n")), TOO_MANY), mode, full);
            String nearlyFull = full.substring(0, 53);
            changesNothing(new Named("put too much", x -> x.put(number(",c0,c0!!")), TOO_MANY), mode, nearlyFull);
            changesNothing(new Named("load", WatchdogBoard::load, BAD_TEXT), mode, "");
            changesNothing(new Named("load", WatchdogBoard::load, BAD_TEXT), mode, "c0,c1,c2,");
            changesNothing(new Named("load", WatchdogBoard::load, BAD_TEXT), mode, "c0,c1!,c1@01");
            changesNothing(new Named("load", WatchdogBoard::load, NO_SUCH), mode, "c0,c1!,c2");
            changesNothing(new Named("load", WatchdogBoard::load, NO_SUCH), mode, "n5!,c1,c0");
        }
    }

    // The last tick is reached by so many calls that only few are left to look at the board.
    private static void errorsAtTheLastTickChangeNothing() {
        says("A call that returns an error changes nothing. (NOT_POSSIBLE if the time would be greater than 1000000)");
        WatchdogBoard x = new WatchdogBoard();
        x.addTask(7, 3);
        for (int i = 0; i < 499; i++) {
            x.run(2000);
        }
        x.run(1999);
        due("run", x.run(2), NOT_POSSIBLE);
        due("time", x.state(0), 999999);
        due("u", x.state(5), 999969);
        due("run to a reset", x.runToReset(2), NOT_POSSIBLE);
        due("time", x.state(0), 999999);
        due("u", x.state(5), 999969);
    }

    // ---- questions

    private static void questionsChangeNothing() {
        says("all in copies, whose time is not limited (and what is only asked)");
        List<Call> calls = new ArrayList<>();
        calls.add(x -> x.forecast(5000));
        calls.add(x -> x.worstHang(0, 1, 60, 5000));
        calls.add(x -> x.worstHang(1, 4000, 60, 1));
        calls.add(x -> x.greatestKick(1000));
        calls.add(WatchdogBoard::position);
        calls.add(x -> x.state(6));
        calls.add(x -> x.task(1, 17));
        calls.add(x -> x.record(0, 4));
        calls.add(x -> x.save(0) - x.restore(0));
        for (int mode = BOOTING; mode <= SAFE; mode++) {
            for (int i = 0; i < calls.size(); i++) {
                // The last call overwrites the slot 0, so it is not compared with what was saved there before.
                for (int later = 0; later < (i < calls.size() - 1 ? LATER.length : 4); later++) {
                    WatchdogBoard x = board(mode, "c0,c1!");
                    calls.get(i).on(x);
                    boolean isSame = tell(x, later).equals(tell(board(mode, "c0,c1!"), later));
                    due("question " + i + " in the mode " + mode + ", the same " + LATER[later], isSame ? 1 : 0, 1);
                }
            }
        }
    }

    private static void restoredIsAsSaved() {
        says("Restores what was saved last in a slot, which keeps it.");
        for (int mode = BOOTING; mode <= SAFE; mode++) {
            // The last one asks for the slot 1, which is empty in the board that was not saved.
            for (int later = 0; later < LATER.length - 1; later++) {
                WatchdogBoard x = board(mode, "h0,s1");
                int time = x.save(1);
                x.addTask(5, 5);
                x.run(37);
                x.powerCycle();
                x.run(29);
                x.set(0, DEADLINE, 1);
                x.rule(BOOT, 1);
                x.putFault(0, 1, CRASH, 3, 3);
                x.putFault(1, 1, CRASH, 3, 3);
                x.clear(0);
                x.clear(1);
                due("restore in the mode " + mode, x.restore(1), time);
                boolean isSame = tell(x, later).equals(tell(board(mode, "h0,s1"), later));
                due("restored in the mode " + mode + ", the same " + LATER[later], isSame ? 1 : 0, 1);
            }
        }
    }

    // ---- the first error

    private static void firstErrorOfTasks() {
        says("the first one that applies is returned");
        WatchdogBoard x = new WatchdogBoard();
        for (int i = 0; i < 6; i++) {
            due("TOO_MANY not yet", x.addTask(0, 1), BAD_VALUE);
            x.addTask(1, 1);
        }
        due("addTask: BAD_VALUE before TOO_MANY", x.addTask(0, 1), BAD_VALUE);
        due("addTask: BAD_VALUE before TOO_MANY", x.addTask(1, 201), BAD_VALUE);
        due("addTask: TOO_MANY", x.addTask(200, 200), TOO_MANY);
        for (int task : new int[] {-1, 6}) {
            due("set: NO_SUCH before BAD_VALUE", x.set(task, 8, 0), NO_SUCH);
            due("set: NO_SUCH before BAD_VALUE", x.set(task, 0, 0), NO_SUCH);
            due("task: NO_SUCH before BAD_VALUE", x.task(task, 19), NO_SUCH);
            due("putFault: NO_SUCH before BAD_VALUE", x.putFault(0, task, 6, 0, 0), NO_SUCH);
            due("putFault: NO_SUCH before BAD_VALUE", x.putFault(0, task, 0, 5001, 0), NO_SUCH);
            due("putFault: NO_SUCH before BAD_VALUE", x.putFault(0, task, 0, 0, 501), NO_SUCH);
            due("worstHang: NO_SUCH before BAD_VALUE", x.worstHang(task, 0, 1, 1), NO_SUCH);
            due("worstHang: NO_SUCH before BAD_VALUE", x.worstHang(task, 1, 61, 1), NO_SUCH);
            due("worstHang: NO_SUCH before BAD_VALUE", x.worstHang(task, 1, 1, 5001), NO_SUCH);
        }
        for (int image : new int[] {-1, 2}) {
            due("putFault: NO_SUCH before BAD_VALUE", x.putFault(image, 0, 6, 0, 0), NO_SUCH);
            due("putFault: NO_SUCH before BAD_VALUE", x.putFault(image, 0, 0, -1, 0), NO_SUCH);
            due("putFault: NO_SUCH before BAD_VALUE", x.putFault(image, 0, 0, 0, -1), NO_SUCH);
        }
        due("no task at all", new WatchdogBoard().set(0, 0, 0), NO_SUCH);
        due("no task at all", new WatchdogBoard().task(0, -1), NO_SUCH);
        due("no task at all", new WatchdogBoard().putFault(0, 0, -1, -1, -1), NO_SUCH);
        due("no task at all", new WatchdogBoard().worstHang(0, 0, 0, 0), NO_SUCH);
        due("no task at all", new WatchdogBoard().clear(0), NO_SUCH);
    }

    private static void firstErrorOfTime() {
        says("the first one that applies is returned (run, runToReset)");
        WatchdogBoard x = new WatchdogBoard();
        for (int i = 0; i < 500; i++) {
            x.run(2000);
        }
        due("run: BAD_VALUE before NOT_POSSIBLE", x.run(2001), BAD_VALUE);
        due("run: BAD_VALUE before NOT_POSSIBLE", x.run(Integer.MAX_VALUE), BAD_VALUE);
        due("run: NOT_POSSIBLE", x.run(2000), NOT_POSSIBLE);
        due("runToReset: BAD_VALUE before NOT_POSSIBLE", x.runToReset(2001), BAD_VALUE);
        due("runToReset: BAD_VALUE before NOT_POSSIBLE", x.runToReset(Integer.MAX_VALUE), BAD_VALUE);
        due("runToReset: NOT_POSSIBLE", x.runToReset(2000), NOT_POSSIBLE);
    }

    private static void firstErrorOfTheRest() {
        says("the first one that applies is returned (put, load, restore)");
        WatchdogBoard x = new WatchdogBoard();
        for (int i = 0; i < 20; i++) {
            x.put(number(i < 19 ? "h5," : "h5!"));
        }
        due("put: BAD_VALUE before TOO_MANY", x.put(0), BAD_VALUE);
        due("put: BAD_VALUE before TOO_MANY", x.put(number("h 0")), BAD_VALUE);
        due("put: TOO_MANY", x.put(number("h")), TOO_MANY);
        due("load: NO_SUCH", x.load(), NO_SUCH);
        x.wipe();
        x.put(number("h5,"));
        due("load: BAD_TEXT before NO_SUCH", x.load(), BAD_TEXT);
        due("restore: BAD_VALUE before NOT_POSSIBLE", x.restore(2), BAD_VALUE);
        due("restore: BAD_VALUE before NOT_POSSIBLE", x.restore(-1), BAD_VALUE);
        due("restore: NOT_POSSIBLE", x.restore(0), NOT_POSSIBLE);
    }

    private static void noneIsNoError() {
        says("NONE (-6) is not an error; it is returned only if no error applies.");
        WatchdogBoard x = new WatchdogBoard();
        for (int record : new int[] {-1, 0, 1, Integer.MIN_VALUE, Integer.MAX_VALUE}) {
            due("record", x.record(record, -1), BAD_VALUE);
            due("record", x.record(record, 5), BAD_VALUE);
            due("record", x.record(record, 0), NONE);
            due("record", x.record(record, 4), NONE);
        }
        due("forecast", x.forecast(0), BAD_VALUE);
        due("forecast", x.forecast(5001), BAD_VALUE);
        due("forecast", x.forecast(1), NONE);
        due("task", x.task(0, 17), NO_SUCH);
        x.addTask(1, 1);
        due("task", x.task(0, 17), NONE);
        due("worstHang", x.worstHang(0, 0, 1, 1), BAD_VALUE);
        due("worstHang", x.worstHang(1, 1, 1, 1), NO_SUCH);
        due("worstHang", x.worstHang(0, 1, 1, 1), NONE);
        x.set(0, MOST, 0);
        due("greatestKick", x.greatestKick(1001), BAD_VALUE);
        due("greatestKick", x.greatestKick(1000), NONE);
        due("load", x.load(), BAD_TEXT);
    }
}

/** The sentences of 'Texts' and of the promises 6 to 9 that name a boundary, with the values on both sides of it. */
public final class TextTest {
    private static final int NO_SUCH = -1, BAD_VALUE = -2, BAD_TEXT = -3, TOO_MANY = -4, NONE = -6;
    private static final int NO_FAULT = 0, HANG = 1, SLOW = 2, SKIP = 3, TWICE = 4, CRASH = 5;
    private static final int PAD = 12, BOOT = 5, OPEN = 0, CLOSE = 1, LEFT = 9, FAULT_0 = 14, FAULT_1 = 15;
    private static final String KINDS = "nhsktc", DIGITS = "0123456789";
    private static final String TWENTY = "n0,n0,n0,n0,n0,n0,n0,n0,n0,n0,n0,n0,n0,n0,n0,n0,n0,n0,n0,n0";

    private static int wrong = 0;
    private static String sentence = "";

    private static void says(String words) {
        sentence = words;
    }

    private static void due(String what, long got, long want) {
        if (got != want) {
            wrong++;
            System.out.println("'" + sentence + "': " + what + " answered " + got + ", due is " + want);
        }
    }

    public static void main(String[] arguments) {
        codes();
        order();
        charactersOfACall();
        gaps();
        fullPad();
        valueBeforeLength();
        wipe();
        whatCanStand();
        whatCanStandInNumbers();
        tooShort();
        firstOfSome();
        fullPadIsRead();
        loadCounts();
        loadTasks();
        loadErrors();
        loadNumbers();
        loadOneAfterTheOther();
        System.out.println(wrong == 0 ? "all sentences about texts hold" : wrong + " answers are wrong");
        if (wrong != 0) {
            System.exit(1);
        }
    }

    // ---- helpers

    private static long number(String text) {
        long number = 0;
        for (int i = 0; i < text.length(); i++) {
            number = number * 256 + text.charAt(i);
        }
        return number;
    }

    private static void putText(WatchdogBoard x, String text) {
        for (int i = 0; i < text.length(); i += 8) {
            x.put(number(text.substring(i, Math.min(text.length(), i + 8))));
        }
    }

    private static int positionOf(String text) {
        WatchdogBoard x = new WatchdogBoard();
        putText(x, text);
        return x.position();
    }

    private static WatchdogBoard withTasks(int count) {
        WatchdogBoard x = new WatchdogBoard();
        for (int i = 0; i < count; i++) {
            x.addTask(10, 2);
        }
        return x;
    }

    // ---- put

    private static void codes() {
        says("BAD_VALUE if there is no character, a code is not 33 to 126");
        for (int code = 1; code < 256; code++) {
            boolean isFine = code >= 33 && code <= 126;
            WatchdogBoard x = new WatchdogBoard();
            for (int count = 1; count <= 8; count++) {
                long text = number("nnnnnnnn".substring(0, count));
                for (int place = 0; place < count; place++) {
                    long changed = text & ~(255L << (8 * place)) | (long) code << (8 * place);
                    due("put " + changed, x.put(changed), isFine ? count : BAD_VALUE);
                    due("length", x.wipe(), isFine ? count : 0);
                }
            }
        }
        due("no character", new WatchdogBoard().put(0), BAD_VALUE);
    }

    private static void order() {
        says("its lowest 8 bits are the last character, the next 8 bits the one before, and so on");
        String text = "h0@10*20";
        for (int i = 1; i <= 8; i++) {
            WatchdogBoard x = new WatchdogBoard();
            x.put(number(text.substring(0, i)));
            x.put(number("~"));
            due("fault behind " + text.substring(0, i), x.position(), i);
            WatchdogBoard y = new WatchdogBoard();
            y.put(number("~" + text.substring(1, i)));
            due("fault in the first of " + i, y.position(), 0);
        }
        WatchdogBoard x = withTasks(1);
        x.put(number(text));
        x.put(number("0!,t0"));
        due("all of it", x.load(), 2);
        due("slow or not", x.task(0, FAULT_0) * 10 + x.task(0, FAULT_1), TWICE * 10 + HANG);
    }

    private static void charactersOfACall() {
        says("`characters`: 1 to 8 characters");
        WatchdogBoard x = new WatchdogBoard();
        for (int count = 1; count <= 8; count++) {
            due(count + " of the lowest code", x.put(number("!!!!!!!!".substring(0, count))), count);
            x.wipe();
            due(count + " of the greatest code", x.put(number("~~~~~~~~".substring(0, count))), count);
            x.wipe();
        }
    }

    private static void gaps() {
        says("8 bits that are 0 mean that there are no more characters, and everything above them has to be 0, too");
        for (int count = 0; count <= 7; count++) {
            WatchdogBoard x = new WatchdogBoard();
            long text = number("nnnnnnn".substring(0, count));
            // With no character the 8 bits that are 0 are the lowest ones.
            for (int bit = 8 * count + 8; bit < 64; bit++) {
                due(count + " characters and bit " + bit, x.put(text | 1L << bit), BAD_VALUE);
            }
            if (count < 7) {
                due(count + " characters, a gap and a character", x.put(text | 110L << (8 * count + 8)), BAD_VALUE);
            }
            due("still empty", x.state(PAD), 0);
            due("nothing above", x.put(text), count == 0 ? BAD_VALUE : count);
        }
    }

    private static void fullPad() {
        says("TOO_MANY if the pad would be longer than 60");
        for (int count = 1; count <= 8; count++) {
            long text = number("nnnnnnnn".substring(0, count));
            for (int length = 60 - count; length <= 60; length++) {
                WatchdogBoard x = new WatchdogBoard();
                putText(x, TWENTY.concat("!").substring(0, length));
                boolean isFine = length + count <= 60;
                due(count + " behind " + length, x.put(text), isFine ? 60 : TOO_MANY);
                due("length", x.state(PAD), isFine ? 60 : length);
            }
        }
    }

    private static void valueBeforeLength() {
        says("it names its errors in the order in which they are checked (put)");
        WatchdogBoard x = new WatchdogBoard();
        putText(x, TWENTY.concat("!"));
        due("full", x.state(PAD), 60);
        long[] bad = {0, 32, 127, number("n") << 8, number("n n"), -1, 1L << 63};
        for (long characters : bad) {
            due("put " + characters, x.put(characters), BAD_VALUE);
        }
        due("right, but too long", x.put(number("n")), TOO_MANY);
        due("still full", x.state(PAD), 60);
    }

    // ---- wipe

    private static void wipe() {
        says("Empties the pad, and returns the length that it had.");
        for (int length = 0; length <= 60; length++) {
            WatchdogBoard x = new WatchdogBoard();
            putText(x, TWENTY.concat("!").substring(0, length));
            due("wipe", x.wipe(), length);
            due("length", x.state(PAD), 0);
            due("position", x.position(), 0);
            due("wipe again", x.wipe(), 0);
            due("put", x.put(number("h")), 1);
            due("nothing of the old text", x.position(), 1);
        }
    }

    // ---- position

    // Behind the text only the characters that may follow can stand; and it is whole with those that end it.
    private static void follow(String text, String may, String ending) {
        WatchdogBoard x = new WatchdogBoard();
        for (char next = 33; next <= 126; next++) {
            putText(x, text + next);
            int want = may.indexOf(next) < 0 ? text.length() : ending.indexOf(next) < 0 ? text.length() + 1 : NONE;
            due(text + next, x.position(), want);
            x.wipe();
        }
    }

    private static void whatCanStand() {
        says("fault = kind task [ \"@\" number ] [ \"*\" number ] [ \"!\" ]");
        String[] heads = {"", "h0,", "c5!,", "s1@7,", "s1*7,", "s1@5000*500!,", "n0,h1,k2,"};
        for (String head : heads) {
            follow(head, KINDS, "");
            for (int i = 0; i < KINDS.length(); i++) {
                follow(head + KINDS.charAt(i), "012345", "012345");
            }
            follow(head + "n0", "@*!,", "!");
            follow(head + "s5", "@*!,", "!");
            follow(head + "s5@", DIGITS, DIGITS);
            follow(head + "s5*", DIGITS, DIGITS);
            follow(head + "s5@12*", DIGITS, DIGITS);
            follow(head + "s5!", ",", "");
            follow(head + "s5@0!", ",", "");
            follow(head + "s5*0!", ",", "");
            follow(head + "s5@12*34!", ",", "");
        }
    }

    private static void whatCanStandInNumbers() {
        says("the start behind \"@\" (0 to 5000; 0 without it), the amount behind \"*\" (0 to 500; 0 without it)");
        String behindStart = "*!,", behindAmount = "!,";
        String[] ended = {"0", "501", "999", "1000", "4999", "5000"};
        for (String number : ended) {
            follow("s2@" + number, behindStart, "!");
        }
        String[] open = {"1", "4", "5", "9", "10", "49", "50", "99", "100", "499"};
        for (String number : open) {
            boolean takesAll = Integer.parseInt(number) * 10 + 9 <= 5000;
            follow("s2@" + number, (takesAll ? DIGITS : "") + behindStart, (takesAll ? DIGITS : "") + "!");
        }
        follow("s2@500", "0" + behindStart, "0!");
        String[] endedAmounts = {"0", "51", "99", "100", "499", "500"};
        for (String number : endedAmounts) {
            follow("s2*" + number, behindAmount, "!");
            follow("s2@0*" + number, behindAmount, "!");
        }
        for (String number : new String[] {"1", "4", "5", "9", "10", "49"}) {
            boolean takesAll = Integer.parseInt(number) * 10 + 9 <= 500;
            follow("s2*" + number, (takesAll ? DIGITS : "") + behindAmount, (takesAll ? DIGITS : "") + "!");
        }
        follow("s2*50", "0" + behindAmount, "0!");
        follow("s2@5000*50", "0" + behindAmount, "0!");
    }

    private static void tooShort() {
        says("if there is none and the text ends too early (also if it is empty), it is the length of the text");
        String text = "c4@4900*490!,h0";
        // The lengths with which the text is whole.
        boolean[] isWhole = new boolean[text.length() + 1];
        for (int length : new int[] {2, 4, 5, 6, 7, 9, 10, 11, 12, 15}) {
            isWhole[length] = true;
        }
        for (int length = 0; length <= text.length(); length++) {
            due("'" + text.substring(0, length) + "'", positionOf(text.substring(0, length)),
                    isWhole[length] ? NONE : length);
        }
        due("empty after a wipe", new WatchdogBoard().position(), 0);
    }

    private static void firstOfSome() {
        says("the index of the first character that cannot stand at its place when the text is read from left to right");
        due("two wrong ones", positionOf("h0,h9,x"), 4);
        due("a wrong one before a text that ends too early", positionOf("h0!!,"), 3);
        due("a number that is too great before a wrong kind", positionOf("h0@5001,x"), 6);
        due("an amount that is too great before a wrong kind", positionOf("h0*501,x"), 5);
        due("a digit behind a 0 before a wrong kind", positionOf("h0@00,x"), 4);
        due("at the start", positionOf("!!!!"), 0);
    }

    private static void fullPadIsRead() {
        says("The pad is a text of at most 60 characters");
        due("20 faults", positionOf(TWENTY), NONE);
        due("20 faults in 60 characters", positionOf(TWENTY + "!"), NONE);
        due("a comma as the last of 60", positionOf(TWENTY + ","), 60);
        due("a kind as the last of 60", positionOf(TWENTY + "h"), 59);
        due("a number as the last of 60", positionOf(TWENTY.substring(0, 57) + "n*0"), 58);
        due("a fault that goes up to 60", positionOf(TWENTY.substring(0, 48) + "s5@5000*500!"), NONE);
        due("a digit too much as the last of 60", positionOf(TWENTY.substring(0, 48) + "s5@5000*5000"), 59);
        due("the first of 60", positionOf("x" + TWENTY.substring(1) + "!"), 0);
    }

    // ---- load

    private static void loadCounts() {
        says("Returns how many there are; (load)");
        for (int count = 1; count <= 20; count++) {
            WatchdogBoard x = withTasks(1);
            putText(x, TWENTY.substring(0, 3 * count - 1));
            due(count + " faults", x.load(), count);
            due("emptied", x.state(PAD), 0);
            due("again", x.load(), BAD_TEXT);
        }
        WatchdogBoard x = withTasks(6);
        putText(x, TWENTY.substring(0, 57) + "c5!");
        due("the 20th", x.load(), 20);
        due("put", x.task(5, FAULT_1), CRASH);
        WatchdogBoard y = withTasks(6);
        putText(y, TWENTY.substring(0, 57) + "c5");
        due("the 20th", y.load(), 20);
        due("put", y.task(5, FAULT_0), CRASH);
    }

    private static void loadTasks() {
        says("NO_SUCH if it names a task that does not exist");
        for (int tasks = 0; tasks <= 6; tasks++) {
            for (int named = 0; named <= 5; named++) {
                boolean isThere = named < tasks;
                for (String end : new String[] {"", "!", "@3*4!"}) {
                    WatchdogBoard x = withTasks(tasks);
                    String text = "t" + named + end;
                    putText(x, text);
                    due(text + " of " + tasks, x.load(), isThere ? 1 : NO_SUCH);
                    due("length", x.state(PAD), isThere ? 0 : text.length());
                    int image = end.isEmpty() ? FAULT_0 : FAULT_1;
                    due("fault", x.task(named, image), isThere ? TWICE : NO_SUCH);
                    due("other image", x.task(named, FAULT_0 + FAULT_1 - image), isThere ? NO_FAULT : NO_SUCH);
                }
            }
        }
    }

    private static void loadErrors() {
        says("BAD_TEXT if the pad has a fault position; NO_SUCH if it names a task that does not exist");
        String[] bad = {"", "h", "h0,", "h0@", "h0x", "h5,", "h5,h6", "h5@5001", "h5*501", "h5@01", TWENTY + ","};
        for (String text : bad) {
            WatchdogBoard x = withTasks(1);
            putText(x, text);
            due(text, x.load(), BAD_TEXT);
            due("length", x.state(PAD), text.length());
            due("fault", x.task(0, FAULT_0), NO_FAULT);
        }
        // Each place of the fault that names no task: none of the others is put.
        String[] missing = {"h1,s0,k0!", "s0,h1,k0!", "s0,k0!,h1", "s0,k0!,n1", TWENTY.substring(0, 57) + "n1"};
        for (String text : missing) {
            WatchdogBoard x = withTasks(1);
            x.putFault(0, 0, CRASH, 0, 0);
            putText(x, text);
            due(text, x.load(), NO_SUCH);
            due("length", x.state(PAD), text.length());
            due("fault", x.task(0, FAULT_0), CRASH);
            due("fault in image 1", x.task(0, FAULT_1), NO_FAULT);
            x.addTask(1, 1);
            due("with the task", x.load(), (text.length() + 1) / 3);
        }
    }

    private static void loadNumbers() {
        says("Numbers are without leading zeros (0 is one).");
        int[][] rows = {{0, 0, 2}, {0, 1, 3}, {0, 500, 502}, {10, 7, 9}, {11, 7, 2}, {9, 10, 12}, {5000, 500, 2}};
        for (int[] row : rows) {
            WatchdogBoard x = new WatchdogBoard();
            x.rule(BOOT, 1);
            x.rule(CLOSE, 2000);
            x.rule(OPEN, 0);
            x.powerCycle();
            x.addTask(10, 2);
            String text = "s0@" + row[0] + "*" + row[1];
            putText(x, text);
            due(text, x.load(), 1);
            x.run(1 + 10);
            due("left with " + text, x.task(0, LEFT), row[2]);
        }
        // The numbers of one fault are not those of the next, nor of a text that was read before.
        WatchdogBoard x = new WatchdogBoard();
        x.rule(BOOT, 1);
        x.powerCycle();
        x.addTask(10, 2);
        x.addTask(10, 2);
        x.addTask(10, 2);
        putText(x, "s0@50*60!,s1*9,s2@1*3");
        due("three", x.load(), 3);
        x.run(1 + 10);
        due("no fault in image 0", x.task(0, LEFT), 2);
        due("amount without a start", x.task(1, LEFT), 11);
        due("both", x.task(2, LEFT), 5);
        putText(x, "s0,s1,s2@20");
        due("three again", x.load(), 3);
        x.run(20);
        for (int i = 0; i < 3; i++) {
            due("no amount for task " + i, x.task(i, LEFT), 2);
        }
    }

    private static void loadOneAfterTheOther() {
        says("Puts all faults that the pad describes into the tasks, one after the other, and empties the pad.");
        int[] kinds = {NO_FAULT, HANG, SLOW, SKIP, TWICE, CRASH};
        for (int first : kinds) {
            for (int second : kinds) {
                WatchdogBoard x = withTasks(2);
                putText(x, "" + KINDS.charAt(first) + "0," + KINDS.charAt(second) + "0,"
                        + KINDS.charAt(second) + "1!," + KINDS.charAt(first) + "1!");
                due("four", x.load(), 4);
                due("the last one of task 0", x.task(0, FAULT_0), second);
                due("the last one of task 1", x.task(1, FAULT_1), first);
                due("image 1 of task 0", x.task(0, FAULT_1), NO_FAULT);
                due("image 0 of task 1", x.task(1, FAULT_0), NO_FAULT);
            }
        }
    }
}

import java.util.ArrayList;
import java.util.List;

/** What the tests of the promises have in common: checks, and the ladders that they begin with. */
final class Check {
    interface Call {
        Object make();
    }

    interface Asked {
        Object make(SkipArchive x);
    }

    interface Numbered {
        Object make(int number);
    }

    private static final List<String> FAULTS = new ArrayList<>();

    private Check() {
    }

    static int faults() {
        return FAULTS.size();
    }

    static void fault(String text) {
        FAULTS.add(text);
        StackTraceElement place = null;
        for (StackTraceElement element : new Throwable().getStackTrace()) {
            if (place == null && !element.getClassName().startsWith("Check")) {
                place = element;
            }
        }
        System.out.println("FAULT " + place + ": " + text);
    }

    static void same(Object due, Object answer) {
        if (!due.equals(answer)) {
            fault("answered " + answer + ", due is " + due);
        }
    }

    /** The call throws just that exception, not one that is derived from it. */
    static void fails(Class<?> due, Call call) {
        Object answer = outcome(call);
        if (!due.getName().equals(answer)) {
            fault("answered " + answer + ", due is " + due.getName());
        }
    }

    /**
     * Just beyond both ends of a range, and as far as can be, the call throws that exception; at the ends, and
     * halfway between them, it does not.
     */
    static void failsBeyond(int least, int most, Class<?> due, Numbered call) {
        for (int number : new int[] {least - 1, most + 1, least - 1000, Integer.MIN_VALUE, Integer.MAX_VALUE}) {
            fails(due, () -> call.make(number));
        }
        for (int number : new int[] {least, most, (least + most) / 2}) {
            if (due.getName().equals(outcome(() -> call.make(number)))) {
                fault(number + " answered " + due.getName());
            }
        }
    }

    static Object outcome(Call call) {
        try {
            return call.make();
        } catch (RuntimeException e) {
            return e.getClass().getName();
        }
    }

    /** The call is refused for that reason, told by a method, and changes nothing else. */
    static void refused(SkipArchive x, int reason, int detail, Call call) {
        String before = state(x);
        fails(UnsupportedOperationException.class, call);
        same(before, state(x));
        reason(x, reason, detail, 0);
    }

    /** The same for an archive of its own, as each has no more than 512 calls. */
    static void refused(SkipArchive x, int reason, int detail, Asked call) {
        refused(x, reason, detail, () -> call.make(x));
    }

    static void reason(SkipArchive x, int reason, int detail, int command) {
        same("" + reason + " " + detail + " " + command,
                outcome(() -> x.reason(0) + " " + x.reason(1) + " " + x.reason(2)));
    }

    /** All that can be undone, and what else the accounts tell. */
    static String state(SkipArchive x) {
        StringBuilder text = new StringBuilder();
        for (int what = 0; what < 10; what++) {
            text.append(x.account(what)).append(' ');
        }
        for (int rank = 0; rank < x.account(0); rank++) {
            int key = x.keyAt(rank);
            text.append(key).append('=').append(x.folderOf(key, 0)).append('^').append(x.folderOf(key, 1)).append(' ');
        }
        for (int level = 0; level < 5; level++) {
            text.append(x.isForgotten(level) ? '!' : '.');
        }
        return text.toString();
    }

    /** All that can be asked without a change, but for the characters in the text buffer. */
    static String everything(SkipArchive x) {
        StringBuilder text = new StringBuilder(state(x));
        text.append(" fault ").append(x.faultPosition()).append(" reason");
        for (int what = 0; what < 3; what++) {
            int number = what;
            text.append(' ').append(outcome(() -> x.reason(number)));
        }
        text.append(" line ");
        for (int index = 0; hasCharacter(x, index); index++) {
            text.append(x.character(index));
        }
        return text.toString();
    }

    private static boolean hasCharacter(SkipArchive x, int index) {
        return outcome(() -> x.character(index)) instanceof Character;
    }

    static void appendAll(SkipArchive x, String text) {
        for (int i = 0; i < text.length(); i++) {
            x.append(text.charAt(i));
        }
    }

    static int commands(SkipArchive x, String text) {
        appendAll(x, text);
        return x.commands();
    }

    static String writtenLine(SkipArchive x, int length) {
        StringBuilder text = new StringBuilder();
        for (int i = 0; i < length; i++) {
            text.append(x.character(i));
        }
        fails(IndexOutOfBoundsException.class, () -> x.character(length));
        return text.toString();
    }

    static String line(SkipArchive x, int level) {
        return writtenLine(x, x.line(level));
    }

    /** On two archives, the text has its fault there, and nothing of it is carried out. */
    static void fault(String text, int position) {
        for (SkipArchive x : new SkipArchive[] {new SkipArchive(), sample()}) {
            String before = state(x);
            fails(IllegalArgumentException.class, () -> commands(x, text));
            if (x.faultPosition() != position) {
                fault("fault position " + x.faultPosition() + " of " + text + ", due is " + position);
            }
            same(before, state(x));
        }
    }

    /** A text that tosses that many coins. */
    static String tosses(int times) {
        return "t;".repeat(times - 1) + "t";
    }

    static SkipArchive one(int key, int weight, int rungs) {
        SkipArchive x = new SkipArchive();
        x.fileTall(key, weight, rungs);
        return x;
    }

    /** An archive without folders, its levels 1 to 4 forgotten. */
    static SkipArchive allForgotten() {
        SkipArchive x = new SkipArchive();
        for (int level = 1; level < 5; level++) {
            x.forget(level);
        }
        return x;
    }

    /**
     * Level 0: 10 20 30 40 50 60, level 1: 20 30 50 60, level 2: 20 50, levels 3 and 4: 50;
     * filed in another order than that of the keys.
     */
    static SkipArchive sample() {
        SkipArchive x = new SkipArchive();
        x.fileTall(50, 99, 5);
        x.fileTall(10, 5, 1);
        x.fileTall(60, 7, 2);
        x.fileTall(30, 9, 2);
        x.fileTall(20, 9, 3);
        x.fileTall(40, 0, 1);
        return x;
    }

    /** As many folders as there can be, with the keys 0, 10 and so on to 230, and towers of 1 to 5 rungs in turn. */
    static SkipArchive full() {
        SkipArchive x = new SkipArchive();
        for (int i = 0; i < 24; i++) {
            x.fileTall(10 * i, i, 1 + i % 5);
        }
        return x;
    }

    /** As many folders as there can be, with the keys 0 to 23, all towers as high as they can be. */
    static SkipArchive tallest() {
        SkipArchive x = new SkipArchive();
        for (int key = 0; key < 24; key++) {
            x.fileTall(key, 1, 5);
        }
        return x;
    }

    static SkipArchive tossed(int times) {
        SkipArchive x = new SkipArchive();
        for (int i = 0; i < times; i++) {
            x.toss();
        }
        return x;
    }
}

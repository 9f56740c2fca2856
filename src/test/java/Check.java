import java.util.ArrayList;
import java.util.List;

/** What the tests of the promises have in common: checks, and the ladders that they begin with. */
final class Check {
    interface Call {
        Object make();
    }

    private static final List<String> FAULTS = new ArrayList<>();

    private Check() {
    }

    static int faults() {
        return FAULTS.size();
    }

    static void fault(String text) {
        FAULTS.add(text);
        StackTraceElement place = null;
        for (StackTraceElement element : new Throwable().getStackTrace()) {
            if (place == null && !element.getClassName().startsWith("Check")) {
                place = element;
            }
        }
        System.out.println("FAULT " + place + ": " + text);
    }

    static void same(Object due, Object answer) {
        if (!due.equals(answer)) {
            fault("answered " + answer + ", due is " + due);
        }
    }

    /** The call throws just that exception, not one that is derived from it. */
    static void fails(Class<?> due, Call call) {
        Object answer = outcome(call);
        if (!due.getName().equals(answer)) {
            fault("answered " + answer + ", due is " + due.getName());
        }
    }

    private static Object outcome(Call call) {
        try {
            return call.make();
        } catch (RuntimeException e) {
            return e.getClass().getName();
        }
    }

    /** The call is refused for that reason, told by a method, and changes nothing else. */
    static void refused(SkipArchive x, int reason, int detail, Call call) {
        String before = state(x);
        fails(UnsupportedOperationException.class, call);
        same(before, state(x));
        reason(x, reason, detail, 0);
    }

    static void reason(SkipArchive x, int reason, int detail, int command) {
        same("" + reason + " " + detail + " " + command,
                outcome(() -> x.reason(0) + " " + x.reason(1) + " " + x.reason(2)));
    }

    /** All that can be undone, and what else the accounts tell. */
    static String state(SkipArchive x) {
        StringBuilder text = new StringBuilder();
        for (int what = 0; what < 10; what++) {
            text.append(x.account(what)).append(' ');
        }
        for (int rank = 0; rank < x.account(0); rank++) {
            int key = x.keyAt(rank);
            text.append(key).append('=').append(x.folderOf(key, 0)).append('^').append(x.folderOf(key, 1)).append(' ');
        }
        for (int level = 0; level < 5; level++) {
            text.append(x.isForgotten(level) ? '!' : '.');
        }
        return text.toString();
    }

    static void appendAll(SkipArchive x, String text) {
        for (int i = 0; i < text.length(); i++) {
            x.append(text.charAt(i));
        }
    }

    static int commands(SkipArchive x, String text) {
        appendAll(x, text);
        return x.commands();
    }

    static String writtenLine(SkipArchive x, int length) {
        StringBuilder text = new StringBuilder();
        for (int i = 0; i < length; i++) {
            text.append(x.character(i));
        }
        fails(IndexOutOfBoundsException.class, () -> x.character(length));
        return text.toString();
    }

    /**
     * Level 0: 10 20 30 40 50 60, level 1: 20 30 50 60, level 2: 20 50, levels 3 and 4: 50;
     * filed in another order than that of the keys.
     */
    static SkipArchive sample() {
        SkipArchive x = new SkipArchive();
        x.fileTall(50, 99, 5);
        x.fileTall(10, 5, 1);
        x.fileTall(60, 7, 2);
        x.fileTall(30, 9, 2);
        x.fileTall(20, 9, 3);
        x.fileTall(40, 0, 1);
        return x;
    }

    /** As many folders as there can be, with the keys 0, 10 and so on to 230, and towers of 1 to 5 rungs in turn. */
    static SkipArchive full() {
        SkipArchive x = new SkipArchive();
        for (int i = 0; i < 24; i++) {
            x.fileTall(10 * i, i, 1 + i % 5);
        }
        return x;
    }

    static SkipArchive tossed(int times) {
        SkipArchive x = new SkipArchive();
        for (int i = 0; i < times; i++) {
            x.toss();
        }
        return x;
    }
}

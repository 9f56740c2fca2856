import java.util.regex.Pattern;

/** Fault positions, compared with those that a grammar tells by trying what could follow. */
final class FaultTest {
    private static final Pattern COMMAND = Pattern.compile(
            "\\+[0-9]{1,3}=[0-9]{1,2}(\\^[0-9])?|[-ud][0-9]{1,3}|[fr][0-9]|w[0-9]{1,3}=[0-9]{1,2}|t");
    /** Whatever begins like a text becomes one behind one of these. */
    private static final String[] ENDS = {"", "0", "=0", "0=0", "t"};

    private FaultTest() {
    }

    private static boolean isText(String text) {
        for (String part : text.split(";", -1)) {
            if (!COMMAND.matcher(part).matches()) {
                return false;
            }
        }
        return true;
    }

    private static boolean canContinue(String text) {
        for (String end : ENDS) {
            if (isText(text + end)) {
                return true;
            }
        }
        return false;
    }

    private static int due(String text) {
        if (isText(text)) {
            return -1;
        }
        int position = 0;
        while (position < text.length() && canContinue(text.substring(0, position + 1))) {
            position++;
        }
        return position;
    }

    /** Whether the answers are those that are due; false ends a loop over texts at its first fault. */
    private static boolean asDue(String text) {
        SkipArchive x = new SkipArchive();
        Check.appendAll(x, text);
        boolean refusedForFault = false;
        try {
            x.commands();
        } catch (IllegalArgumentException e) {
            refusedForFault = true;
        } catch (UnsupportedOperationException e) {
            refusedForFault = false;
        }
        int due = due(text);
        if (x.faultPosition() == due && refusedForFault == (due >= 0) && x.account(9) == 0) {
            return true;
        }
        Check.fault("due is " + due + " for '" + text + "', answered is " + x.faultPosition());
        return false;
    }

    private static boolean allBehind(String text, String signs, int more) {
        boolean same = asDue(text);
        for (int i = 0; same && more > 0 && i < signs.length(); i++) {
            same = allBehind(text + signs.charAt(i), signs, more - 1);
        }
        return same;
    }

    static void everyShortTextOfTheSignsOfFiling() {
        allBehind("", "+10=^;", 6);
    }

    static void everyShortTextOfTheOtherSigns() {
        allBehind("", "wudfrt-9=;", 5);
    }

    static void numbersOfEveryLength() {
        String[] beginnings = {"+", "-", "u", "d", "w", "f", "r", "t", "+1=", "w1=", "+1=1^", "+123=", "w123=", "+123=45^"};
        for (String beginning : beginnings) {
            allBehind(beginning, "09=;", 4);
            allBehind("t;" + beginning, "09=;", 4);
        }
    }

    static void everyCharacterInEveryPlaceOfACommand() {
        String[] beginnings = {"", "+", "+12", "+123", "+1=", "+1=2", "+1=23", "+1=2^", "+1=2^3", "-", "-1", "f", "f1",
            "w1=", "t", "t;"};
        boolean same = true;
        for (int character = 0; same && character <= Character.MAX_VALUE; character++) {
            boolean chosen = character < 1024 || character % 16 == 0 || Character.isDigit((char) character);
            for (int i = 0; same && chosen && i < beginnings.length; i++) {
                same = asDue(beginnings[i] + (char) character);
            }
        }
    }
}

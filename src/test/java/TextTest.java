/** Promises 32 to 37: the text buffer, its commands and faults, the reason and the line. */
final class TextTest {
    private static final Class<?> ILLEGAL = IllegalArgumentException.class;
    private static final Class<?> REFUSED = UnsupportedOperationException.class;
    private static final Class<?> NONE = java.util.NoSuchElementException.class;
    private static final Class<?> STATE = IllegalStateException.class;
    private static final Class<?> INDEX = IndexOutOfBoundsException.class;

    private TextTest() {
    }

    static void promise32Append() {
        SkipArchive x = new SkipArchive();
        for (int i = 1; i <= 60; i++) {
            Check.same(i, x.append((char) (i * 1000)));
            Check.same(i, x.account(9));
        }
        Check.fails(STATE, () -> x.append('t'));
        Check.same(60, x.account(9));
        Check.fails(ILLEGAL, x::commands);
        Check.same(0, x.account(9));
        Check.same(1, x.append('t'));
        Check.same(1, x.commands());
    }

    static void promise33CarriesOut() {
        SkipArchive x = new SkipArchive();
        Check.same(9, Check.commands(x, "+5=17^2;+999=0^5;+07=3;t;u5;d999;f2;w007=42;-5"));
        Check.same("2 5 42 6735 2 1 1 3 1 0 7=42^1 999=0^4 ..!..", Check.state(x));
        Check.same(1, Check.commands(x, "r2"));
        Check.same(false, x.isForgotten(2));
        Check.same(2, x.account(8));
        Check.fails(NONE, () -> x.reason(0));
    }

    static void promise33MostCommands() {
        SkipArchive x = new SkipArchive();
        Check.same(30, Check.commands(x, "t;t;t;t;t;t;t;t;t;t;t;t;t;t;t;t;t;t;t;t;t;t;t;t;t;t;t;t;t;t"));
        Check.same(30, x.account(4));
        Check.same(0, x.undo());
        Check.same(0, x.account(4));
        Check.same(1, x.account(3));
    }

    static void promise33TossesForFiling() {
        SkipArchive x = Check.tossed(4);
        Check.same(2, Check.commands(x, "+1=1;+2=2"));
        Check.same(3, x.folderOf(1, 1));
        Check.same(1, x.folderOf(2, 1));
        Check.same(8, x.account(4));
    }

    static void promise33AllOrNone() {
        SkipArchive x = Check.sample();
        x.toss();
        String before = Check.state(x);
        Check.fails(REFUSED, () -> Check.commands(x, "t;+1=1;-10;u20;d50;f1;w60=1;+99=9^4;-11;t"));
        Check.same(before, Check.state(x));
        Check.reason(x, 3, 11, 8);
        Check.same(-1, x.faultPosition());
        Check.same(6, x.undo());
        Check.same(1, x.account(3));
    }

    static void promise33RefusedKeepsAllThatCanBeUndone() {
        SkipArchive x = Check.tossed(8);
        Check.fails(REFUSED, () -> Check.commands(x, "t;t;d1"));
        for (int left = 7; left >= 0; left--) {
            Check.same(left, x.undo());
            Check.same(left, x.account(4));
        }
        Check.same(1, x.account(3));
    }

    private static void refusedText(String text, int reason, int detail, int command) {
        SkipArchive x = Check.sample();
        String before = Check.state(x);
        Check.fails(REFUSED, () -> Check.commands(x, text));
        Check.reason(x, reason, detail, command);
        Check.same(before, Check.state(x));
        Check.same(-1, x.faultPosition());
    }

    static void promise33Reasons() {
        refusedText("f0", 1, 0, 0);
        refusedText("f5", 1, 0, 0);
        refusedText("t;r9", 1, 0, 1);
        refusedText("+1=1^0", 1, 0, 0);
        refusedText("+10=1^6", 1, 0, 0);
        refusedText("+10=1^5", 4, 0, 0);
        refusedText("-10;-20;+30=1", 4, 0, 2);
        refusedText("+1=1;+60=1", 4, 6, 1);
        refusedText("-77", 3, 77, 0);
        refusedText("-10;-10", 3, 10, 1);
        refusedText("u999", 3, 999, 0);
        refusedText("u50", 5, 5, 0);
        refusedText("u30;u30;u30;u30", 5, 5, 3);
        refusedText("d10", 5, 1, 0);
        refusedText("t;t;r3", 6, 3, 2);
        refusedText("f3;f3", 6, 3, 1);
        refusedText("w10=5", 7, 5, 0);
        refusedText("w10=6;w10=06", 7, 6, 1);
        refusedText("w11=6", 3, 11, 0);
    }

    static void promise33RefusedWhenFull() {
        SkipArchive x = Check.full();
        Check.fails(REFUSED, () -> Check.commands(x, "-0;+1=1;+2=2"));
        Check.reason(x, 2, 24, 2);
        Check.same(0, x.keyAt(0));
        Check.same(2, Check.commands(x, "-0;+1=1"));
        Check.same(1, x.keyAt(0));
    }

    private static void fault(String text, int position) {
        SkipArchive x = Check.sample();
        x.fileTall(1, 1, 1);
        Check.fails(REFUSED, () -> x.drop(99));
        String before = Check.state(x);
        Check.fails(ILLEGAL, () -> Check.commands(x, text));
        Check.same(position, x.faultPosition());
        Check.same(before, Check.state(x));
        Check.reason(x, 3, 99, 0);
    }

    static void promise34FaultsThatEndTooEarly() {
        fault("", 0);
        fault("+", 1);
        fault("+1", 2);
        fault("+123", 4);
        fault("+1=", 3);
        fault("+1=1^", 5);
        fault("-", 1);
        fault("u", 1);
        fault("d", 1);
        fault("f", 1);
        fault("r", 1);
        fault("w", 1);
        fault("w1", 2);
        fault("w1=", 3);
        fault("t;", 2);
        fault("t;+1=1;", 7);
    }

    static void promise34FaultsAtACharacter() {
        fault("x", 0);
        fault(";", 0);
        fault(";t", 0);
        fault("^", 0);
        fault("=", 0);
        fault("1", 0);
        fault(" t", 0);
        fault("T", 0);
        fault("tt", 1);
        fault("t t", 1);
        fault("t;;t", 2);
        fault("+=1", 1);
        fault("+-1=1", 1);
        fault("+1234=1", 4);
        fault("+1;t", 2);
        fault("+1==1", 3);
        fault("+1=123", 5);
        fault("+1=1^^", 5);
        fault("+1=1^12", 6);
        fault("+1=^1", 3);
        fault("-1=1", 2);
        fault("-1234", 4);
        fault("u1^2", 2);
        fault("d;", 1);
        fault("f12", 2);
        fault("fx", 1);
        fault("r;", 1);
        fault("w1=1^1", 4);
        fault("w1=100", 5);
        fault("w1^1", 2);
        fault("t1", 1);
        fault("t;+9=9;f2;x", 10);
        fault("-1;-2;-3;-", 10);
    }

    static void promise34StrangeCharacters() {
        SkipArchive x = new SkipArchive();
        for (char character : new char[] {0, 127, 255, 256, 0x130 + '0', 0x660, 0xFF10, 0xFFFF}) {
            Check.appendAll(x, "t;-");
            x.append(character);
            Check.fails(ILLEGAL, x::commands);
            Check.same(3, x.faultPosition());
        }
        x.append((char) 0xFFFF);
        Check.fails(ILLEGAL, x::commands);
        Check.same(0, x.faultPosition());
        x.append('t');
        x.append((char) 0xFFFF);
        Check.fails(ILLEGAL, x::commands);
        Check.same(1, x.faultPosition());
        Check.same(0, x.account(4));
    }

    static void promise34IsOfTheLatestText() {
        SkipArchive x = new SkipArchive();
        Check.same(-1, x.faultPosition());
        Check.fails(ILLEGAL, () -> Check.commands(x, "t;t"
                + "t"));
        Check.same(3, x.faultPosition());
        Check.appendAll(x, "t;t");
        Check.same(3, x.faultPosition());
        Check.same(2, x.commands());
        Check.same(-1, x.faultPosition());
        Check.fails(ILLEGAL, () -> Check.commands(x, "f"));
        Check.same(1, x.faultPosition());
        x.undo();
        x.save();
        x.restore();
        Check.same(1, x.faultPosition());
        Check.fails(REFUSED, () -> Check.commands(x, "f7"));
        Check.same(-1, x.faultPosition());
    }

    static void promise34FullBuffer() {
        SkipArchive x = new SkipArchive();
        Check.fails(ILLEGAL, () -> Check.commands(x, "t;t;t;t;t;t;t;t;t;t;t;t;t;t;t;t;t;t;t;t;t;t;t;t;t;t;t;t;t;t;"));
        Check.same(60, x.faultPosition());
        Check.same(0, x.account(4));
    }

    static void promise35Reason() {
        SkipArchive x = new SkipArchive();
        Check.fails(NONE, () -> x.reason(2));
        Check.fails(ILLEGAL, () -> x.reason(-1));
        Check.fails(ILLEGAL, () -> x.reason(3));
        Check.fails(REFUSED, () -> Check.commands(x, "t;t;-123"));
        Check.reason(x, 3, 123, 2);
        x.toss();
        x.undo();
        x.save();
        x.restore();
        Check.same(1, Check.commands(x, "f3"));
        Check.reason(x, 3, 123, 2);
        Check.fails(ILLEGAL, () -> x.reason(3));
        Check.fails(ILLEGAL, () -> x.reason(Integer.MIN_VALUE));
        Check.fails(REFUSED, () -> x.forget(3));
        Check.reason(x, 6, 3, 0);
        Check.fails(REFUSED, () -> x.forget(-3));
        Check.reason(x, 1, 0, 0);
    }

    static void promise36Line() {
        SkipArchive x = Check.sample();
        Check.same(20, x.line(0));
        Check.same("0: 10 20 30 40 50 60", Check.writtenLine(x, 20));
        x.forget(2);
        Check.same(9, x.line(2));
        Check.same("2!: 20 50", Check.writtenLine(x, 9));
        x.recall(2);
        Check.same(8, x.line(2));
        Check.same("2: 20 50", Check.writtenLine(x, 8));
        x.lower(50);
        x.forget(4);
        Check.same(3, x.line(4));
        Check.same("4!:", Check.writtenLine(x, 3));
        for (int level : new int[] {-1, 5, Integer.MIN_VALUE, Integer.MAX_VALUE}) {
            Check.fails(INDEX, () -> x.line(level));
        }
        Check.same("4!:", Check.writtenLine(x, 3));
    }

    static void promise36LongestLine() {
        SkipArchive x = new SkipArchive();
        StringBuilder due = new StringBuilder("1!:");
        for (int i = 0; i < 24; i++) {
            x.fileTall(976 + i, 1, 2);
            due.append(' ').append(976 + i);
        }
        x.forget(1);
        Check.same(99, x.line(1));
        Check.same(due.toString(), Check.writtenLine(x, 99));
    }

    static void promise37Character() {
        SkipArchive x = new SkipArchive();
        Check.fails(INDEX, () -> x.character(0));
        x.fileTall(7, 1, 1);
        x.fileTall(0, 1, 1);
        Check.fails(INDEX, () -> x.character(0));
        Check.same(6, x.line(0));
        Check.same("0: 0 7", Check.writtenLine(x, 6));
        Check.fails(INDEX, () -> x.character(-1));
        Check.fails(INDEX, () -> x.character(Integer.MIN_VALUE));
        Check.fails(INDEX, () -> x.character(Integer.MAX_VALUE));
        x.drop(7);
        x.undo();
        x.save();
        x.drop(0);
        x.restore();
        Check.same("0: 0 7", Check.writtenLine(x, 6));
        x.line(3);
        Check.same("3:", Check.writtenLine(x, 2));
    }
}

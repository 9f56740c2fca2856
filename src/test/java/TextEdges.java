/** Promises 32 to 37: a test of its own for each sentence that names an edge. */
final class TextEdges {
    private static final Class<?> ILLEGAL = IllegalArgumentException.class;
    private static final Class<?> REFUSED = UnsupportedOperationException.class;
    private static final Class<?> NONE = java.util.NoSuchElementException.class;
    private static final Class<?> STATE = IllegalStateException.class;
    private static final Class<?> INDEX = IndexOutOfBoundsException.class;

    private TextEdges() {
    }

    @Says(promise = 32, value = {"Appends a character to the text buffer.", "Returns the new length of the buffer."})
    static void appendReturns1To60() {
        SkipArchive x = new SkipArchive();
        for (int length = 1; length <= 60; length++) {
            Check.same(length, x.append(length % 2 == 1 ? 't' : ';'));
            Check.same(length, x.account(9));
        }
        Check.fails(ILLEGAL, x::commands);
        Check.same(60, x.faultPosition());
    }

    @Says(promise = 32, value = "Throws IllegalStateException if the buffer contains 60 characters")
    static void appendToAFullBuffer() {
        SkipArchive x = new SkipArchive();
        Check.appendAll(x, Check.tosses(30));
        Check.same(60, x.append(';'));
        Check.fails(STATE, () -> x.append('t'));
        Check.fails(STATE, () -> x.append((char) 0));
        Check.fails(STATE, () -> x.append((char) 65535));
        Check.same(60, x.account(9));
        Check.fails(ILLEGAL, x::commands);
        Check.same(1, x.append('t'));
        Check.same(1, x.commands());
    }

    @Says(promise = 32, value = "Appends a character to the text buffer.")
    static void appendTakesAnyCharacter() {
        char[] characters = {0, '\n', ' ', 127, 128, 255, 256, 0x7FFF, 0x8000, 0xD800, 0xFFFF};
        for (char character : characters) {
            SkipArchive x = new SkipArchive();
            Check.same(1, x.append(character));
            Check.fails(ILLEGAL, x::commands);
            Check.same(0, x.faultPosition());
        }
    }

    @Says(promise = 33, value = {"Carries out the commands in the text buffer, one after the other; ",
        "Returns the number of commands."})
    static void commandsOneAfterTheOther() {
        SkipArchive x = new SkipArchive();
        Check.same(1, Check.commands(x, "+5=5^2"));
        Check.same(4, Check.commands(x, "-5;+5=6^4;u5;w5=7"));
        Check.same(7, x.folderOf(5, 0));
        Check.same(5, x.folderOf(5, 1));
        Check.same(4, Check.commands(x, "f2;r2;f2;r2"));
        Check.same(0, x.account(6));
    }

    @Says(promise = 33, value = "Returns the number of commands.")
    static void commandsReturns1To30() {
        SkipArchive x = new SkipArchive();
        Check.same(1, Check.commands(x, "t"));
        Check.same(30, Check.commands(x, Check.tosses(30)));
        Check.same(31, x.account(4));
        Check.same(15, Check.commands(x, "f1;r1;f2;r2;f3;r3;f4;r4;f1;f2;f3;f4;r1;r2;r3"));
        Check.same(1, x.account(6));
    }

    @Says(promise = 33, value = "if one is refused, none is carried out.")
    static void commandsOfWhichTheFirstOrTheLastIsRefused() {
        for (String text : new String[] {"-11;t;-10;f1", "t;-10;f1;+1=1;-11", "t;-11;-10", "-10;-10", "+1=1^0"}) {
            SkipArchive x = Check.sample();
            String before = Check.state(x);
            Check.fails(REFUSED, () -> Check.commands(x, text));
            Check.same(before, Check.state(x));
            Check.same(5, x.undo());
        }
    }

    @Says(promise = 33, value = "if one is refused, none is carried out.")
    static void commandsThatFillTheArchive() {
        SkipArchive x = Check.full();
        x.drop(0);
        x.drop(10);
        Check.fails(REFUSED, () -> Check.commands(x, "+1=1;+2=2;+3=3"));
        Check.reason(x, 2, 24, 2);
        Check.same(22, x.account(0));
        Check.same(0, x.account(4));
        Check.same(2, Check.commands(x, "+1=1;+2=2"));
        Check.same(24, x.account(0));
        Check.same(2, Check.commands(x, "-1;+3=3"));
        Check.same(24, x.account(0));
    }

    @Says(promise = 33, value = "The buffer is empty afterwards, ")
    static void theBufferIsEmptyBehindCommands() {
        SkipArchive x = new SkipArchive();
        Check.same(2, Check.commands(x, "t;t"));
        Check.same(0, x.account(9));
        Check.fails(ILLEGAL, x::commands);
        Check.same(0, x.faultPosition());
        Check.same(1, x.append('t'));
        Check.same(1, x.commands());
        Check.same(3, x.account(4));
    }

    @Says(promise = 33, value = "also if an exception is thrown.")
    static void theBufferIsEmptyBehindAnException() {
        SkipArchive x = new SkipArchive();
        Check.fails(ILLEGAL, () -> Check.commands(x, "t;x"));
        Check.same(0, x.account(9));
        Check.same(1, Check.commands(x, "t"));
        Check.fails(REFUSED, () -> Check.commands(x, "t;f5"));
        Check.same(0, x.account(9));
        Check.same(1, Check.commands(x, "t"));
        Check.same(2, x.account(4));
        Check.fails(ILLEGAL, x::commands);
        Check.same(0, x.account(9));
    }

    @Says(promise = 33, value = "Throws IllegalArgumentException if the text has a fault")
    static void commandsOfATextWithAFault() {
        for (String text : new String[] {"", ";", "t;", "x", "t;-10;x", "-10;-", "f0;x", "+10=1;+"}) {
            SkipArchive x = Check.sample();
            Check.fails(ILLEGAL, () -> Check.commands(x, text));
            Check.fails(NONE, () -> x.reason(0));
            Check.same(6, x.account(0));
            Check.same(0, x.account(4));
            Check.same(6, x.account(8));
        }
    }

    @Says(promise = 33, value = "Throws UnsupportedOperationException if a command is refused; the reason is kept")
    static void commandsThatAreRefusedKeepTheReason() {
        String[] texts = {"f0", "t;r5", "+1=1^6", "-11", "u50", "d10", "r1", "f4;f4", "w10=05", "t;t;+20=1^5"};
        int[][] due = {{1, 0, 0}, {1, 0, 1}, {1, 0, 0}, {3, 11, 0}, {5, 5, 0}, {5, 1, 0}, {6, 1, 0}, {6, 4, 1}, {7, 5, 0},
            {4, 1, 2}};
        for (int i = 0; i < texts.length; i++) {
            SkipArchive x = Check.sample();
            String text = texts[i];
            Check.fails(REFUSED, () -> Check.commands(x, text));
            Check.reason(x, due[i][0], due[i][1], due[i][2]);
            Check.same(-1, x.faultPosition());
        }
    }

    @Says(promise = 34, value = {"Returns the fault position of the text of the latest call of commands.",
        "Returns the fault position, "})
    static void faultPositionIsOfTheLatestText() {
        SkipArchive x = new SkipArchive();
        Check.fails(ILLEGAL, () -> Check.commands(x, "t;tt"));
        Check.same(3, x.faultPosition());
        Check.appendAll(x, "tx");
        Check.same(3, x.faultPosition());
        Check.fails(ILLEGAL, x::commands);
        Check.same(1, x.faultPosition());
        Check.fails(ILLEGAL, x::commands);
        Check.same(0, x.faultPosition());
        Check.fails(ILLEGAL, () -> Check.commands(x, Check.tosses(30) + ";"));
        Check.same(60, x.faultPosition());
    }

    @Says(promise = 34, value = "or -1 if that text had no fault ")
    static void faultPositionOfATextWithoutFault() {
        SkipArchive x = new SkipArchive();
        Check.fails(ILLEGAL, () -> Check.commands(x, "x"));
        Check.same(0, x.faultPosition());
        Check.commands(x, "t");
        Check.same(-1, x.faultPosition());
        Check.fails(ILLEGAL, () -> Check.commands(x, "tx"));
        Check.same(1, x.faultPosition());
        Check.fails(REFUSED, () -> Check.commands(x, "t;-5"));
        Check.same(-1, x.faultPosition());
    }

    @Says(promise = 34, value = "or there was no such call.")
    static void faultPositionWithoutSuchACall() {
        SkipArchive x = new SkipArchive();
        Check.same(-1, x.faultPosition());
        Check.appendAll(x, "x;");
        x.toss();
        x.undo();
        Check.same(-1, x.faultPosition());
    }

    @Says(promise = 35, value = {"Returns a number of the reason that is kept.",
        "what: 0 for the reason, 1 for its detail, 2 for the index of the command", "Returns the number."})
    static void reasonTellsThreeNumbersOfTheLatest() {
        SkipArchive x = new SkipArchive();
        Check.fails(REFUSED, () -> Check.commands(x, "t;t;-123"));
        Check.same(3, x.reason(0));
        Check.same(123, x.reason(1));
        Check.same(2, x.reason(2));
        Check.commands(x, "t");
        x.toss();
        Check.reason(x, 3, 123, 2);
        Check.fails(REFUSED, () -> x.recall(4));
        Check.reason(x, 6, 4, 0);
    }

    @Says(promise = 35, value = "Throws IllegalArgumentException if what is not from 0 to 2")
    static void reasonOfAnotherNumber() {
        SkipArchive x = new SkipArchive();
        Check.failsBeyond(0, 2, ILLEGAL, x::reason);
        Check.fails(REFUSED, () -> x.drop(5));
        Check.failsBeyond(0, 2, ILLEGAL, x::reason);
    }

    @Says(promise = 35, value = "Throws NoSuchElementException if nothing was refused")
    static void reasonIfNothingWasRefused() {
        SkipArchive x = Check.full();
        Check.fails(ILLEGAL, () -> Check.commands(x, "t;"));
        Check.fails(STATE, x::restore);
        Check.fails(NONE, () -> x.keyAt(24));
        for (int what = 0; what < 3; what++) {
            int number = what;
            Check.fails(NONE, () -> x.reason(number));
        }
        Check.fails(REFUSED, () -> x.file(-1, -1));
        Check.reason(x, 1, 0, 0);
    }

    @Says(promise = 36, value = {"Writes a level, ", "its number, '!' behind it if it is forgotten, ':', and for each of "
            + "its folders a blank and the key; as in '2!: 17 40'.", "Returns the length of the line."})
    static void lineOfAForgottenLevel() {
        SkipArchive x = new SkipArchive();
        x.fileTall(40, 1, 5);
        x.fileTall(20, 1, 2);
        x.fileTall(17, 1, 3);
        Check.same(8, x.line(2));
        Check.same("2: 17 40", Check.writtenLine(x, 8));
        x.forget(2);
        Check.same(9, x.line(2));
        Check.same("2!: 17 40", Check.writtenLine(x, 9));
        Check.same(11, x.line(1));
        Check.same("1: 17 20 40", Check.writtenLine(x, 11));
    }

    @Says(promise = 36, value = "and for each of its folders a blank and the key; ")
    static void lineOfALevelWithoutFolders() {
        SkipArchive x = new SkipArchive();
        for (int level = 0; level < 5; level++) {
            Check.same(2, x.line(level));
            Check.same(level + ":", Check.writtenLine(x, 2));
        }
        SkipArchive y = Check.allForgotten();
        for (int level = 1; level < 5; level++) {
            Check.same(3, y.line(level));
            Check.same(level + "!:", Check.writtenLine(y, 3));
        }
    }

    @Says(promise = 36, value = "Returns the length of the line.")
    static void lineOfAFullLevel() {
        SkipArchive x = new SkipArchive();
        StringBuilder due = new StringBuilder("4!:");
        for (int key = 976; key < 1000; key++) {
            x.fileTall(key, 1, 5);
            due.append(' ').append(key);
        }
        x.forget(4);
        Check.same(99, x.line(4));
        Check.same(due.toString(), Check.writtenLine(x, 99));
    }

    @Says(promise = 36, value = "in place of the line before: ")
    static void lineInPlaceOfALongerOne() {
        SkipArchive x = Check.sample();
        Check.same(20, x.line(0));
        Check.same(5, x.line(4));
        Check.same("4: 50", Check.writtenLine(x, 5));
        Check.same(20, x.line(0));
        Check.same("0: 10 20 30 40 50 60", Check.writtenLine(x, 20));
        x.drop(10);
        Check.same("0: 10 20 30 40 50 60", Check.writtenLine(x, 20));
    }

    @Says(promise = 36, value = "Throws IndexOutOfBoundsException if the level is not from 0 to 4")
    static void lineOfALevelOutOfRange() {
        SkipArchive x = new SkipArchive();
        Check.failsBeyond(0, 4, INDEX, x::line);
        x.line(3);
        Check.fails(INDEX, () -> x.line(5));
        Check.same("3:", Check.writtenLine(x, 2));
    }

    @Says(promise = 37, value = {"Returns a character of the line, which is empty at first.", "index: the index, from 0",
        "Returns the character."})
    static void theLineIsEmptyAtFirst() {
        SkipArchive x = Check.sample();
        Check.fails(INDEX, () -> x.character(0));
        x.line(1);
        Check.same('1', x.character(0));
        Check.same('0', x.character(13));
    }

    @Says(promise = 37, value = "Throws IndexOutOfBoundsException if there is no such index")
    static void characterAtNoSuchIndex() {
        SkipArchive x = Check.sample();
        for (int index : new int[] {0, -1, 1, Integer.MIN_VALUE, Integer.MAX_VALUE}) {
            Check.fails(INDEX, () -> x.character(index));
        }
        x.line(0);
        Check.failsBeyond(0, 19, INDEX, x::character);
        x.line(4);
        Check.failsBeyond(0, 4, INDEX, x::character);
    }
}

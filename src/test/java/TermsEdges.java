/** The terms of the document: a test of its own for each sentence that names an edge. */
final class TermsEdges {
    private static final Class<?> ILLEGAL = IllegalArgumentException.class;
    private static final Class<?> REFUSED = UnsupportedOperationException.class;
    private static final Class<?> NONE = java.util.NoSuchElementException.class;
    private static final Class<?> STATE = IllegalStateException.class;
    private static final Class<?> INDEX = IndexOutOfBoundsException.class;

    private TermsEdges() {
    }

    @Says("An object is used for at most 512 calls after it has been made; what later calls answer is free.")
    static void theLastOf512CallsIsAnswered() {
        SkipArchive x = Check.tossed(511);
        Check.same(511, x.account(4));
        SkipArchive y = Check.tossed(511);
        Check.same(7, y.undo());
    }

    @Says("Each rung above stands on one below.")
    static void aTowerStandsOnEveryLevelUpToItsHighest() {
        for (int rungs = 1; rungs <= 5; rungs++) {
            SkipArchive x = new SkipArchive();
            x.fileTall(7, 1, rungs);
            for (int level = 0; level < 5; level++) {
                Check.same(level < rungs ? 1 : 0, x.levelSize(level));
            }
        }
    }

    @Says("Divisions are rounded down, unless something else is told.")
    static void divisionsAreRoundedDown() {
        SkipArchive x = new SkipArchive();
        Check.same(0, x.toss());
        Check.same(92, x.account(3));
        x.toss();
        Check.same(0, x.toss());
        Check.same(1674, x.account(3));
        SkipArchive y = Check.tossed(149);
        Check.same(1, y.toss());
        Check.same(9995, y.account(3));
    }

    @Says("There are at most 24 folders, ")
    static void the24thFolderIsFiledAndThe25thIsNot() {
        SkipArchive x = Check.full();
        Check.same(24, x.account(0));
        Check.fails(REFUSED, () -> x.file(5, 5));
        Check.fails(REFUSED, () -> x.fileTall(5, 5, 5));
        Check.fails(REFUSED, () -> Check.commands(x, "+5=5"));
        Check.fails(REFUSED, () -> Check.commands(x, "+5=5^1"));
        Check.same(24, x.account(0));
        x.drop(230);
        x.file(5, 5);
        Check.same(24, x.account(0));
        Check.fails(REFUSED, () -> x.file(6, 5));
    }

    @Says("each with a key from 0 to 999, ")
    static void keysAreFrom0To999() {
        Check.failsBeyond(0, 999, REFUSED, key -> new SkipArchive().fileTall(key, 1, 1));
        Check.failsBeyond(0, 999, REFUSED, key -> new SkipArchive().file(key, 1));
    }

    @Says("which no other one has, ")
    static void noKeyTwice() {
        SkipArchive x = new SkipArchive();
        x.fileTall(0, 1, 1);
        x.fileTall(999, 1, 1);
        Check.fails(REFUSED, () -> x.file(0, 2));
        Check.fails(REFUSED, () -> x.fileTall(999, 2, 2));
        Check.fails(REFUSED, () -> Check.commands(x, "+000=2"));
        x.drop(0);
        Check.same(0, x.fileTall(0, 2, 2));
    }

    @Says("a weight from 0 to 99, ")
    static void weightsAreFrom0To99() {
        Check.failsBeyond(0, 99, REFUSED, weight -> new SkipArchive().file(5, weight));
        Check.failsBeyond(0, 99, REFUSED, weight -> new SkipArchive().fileTall(5, weight, 1));
        Check.failsBeyond(0, 99, REFUSED, weight -> Check.one(5, 50 + weight % 2, 1).weigh(5, weight));
    }

    @Says("and a tower of 1 to 5 rungs, on the levels 0, 1 and so on.")
    static void towersHave1To5Rungs() {
        Check.failsBeyond(1, 5, REFUSED, rungs -> new SkipArchive().fileTall(5, 1, rungs));
        Check.fails(REFUSED, () -> Check.one(5, 1, 5).raise(5));
        Check.same(5, Check.one(5, 1, 4).raise(5));
        Check.fails(REFUSED, () -> Check.one(5, 1, 1).lower(5));
        Check.same(1, Check.one(5, 1, 2).lower(5));
        Check.same(1, Check.one(5, 1, 5).levelSize(4));
        Check.same(1, Check.one(5, 1, 1).levelSize(0));
    }

    @Says("The folders of a level, in the order of their keys, are those with a rung on it.")
    static void aLevelHasTheFoldersWithARungInTheOrderOfKeys() {
        SkipArchive x = new SkipArchive();
        x.fileTall(999, 1, 2);
        x.fileTall(0, 1, 3);
        x.fileTall(500, 1, 1);
        x.fileTall(50, 1, 2);
        Check.same("0: 0 50 500 999", Check.line(x, 0));
        Check.same("1: 0 50 999", Check.line(x, 1));
        Check.same("2: 0", Check.line(x, 2));
        Check.same("3:", Check.line(x, 3));
    }

    @Says("There is a coin number from 0 to 9999, 1 at first.")
    static void theCoinNumberIs1AtFirstAndNeverOver9999() {
        SkipArchive x = new SkipArchive();
        Check.same(1, x.account(3));
        for (int i = 0; i < 250; i++) {
            x.toss();
            int number = x.account(3);
            Check.same(true, number >= 0 && number <= 9999);
        }
    }

    @Says("To toss a coin makes the coin number the remainder of 73 times itself and 19, together, by 10000; ")
    static void theCoinNumberWrapsAroundAt10000() {
        SkipArchive x = new SkipArchive();
        int[] numbers = {73 + 19, 73 * 92 + 19, 73 * 6735 + 19 - 490000, 73 * 1674 + 19 - 120000, 73 * 2221 + 19 - 160000};
        for (int number : numbers) {
            x.toss();
            Check.same(number, x.account(3));
        }
    }

    /** 101, 201, 1001 and 9995 are the numbers nearest to where a quotient begins or ends. */
    @Says("it shows heads if the quotient of the new number by 100 is odd.")
    static void headsAreShownForOddHundreds() {
        int[] times = {1, 3, 20, 150, 200, 220, 440};
        int[] numbers = {92, 1674, 9101, 9995, 1001, 101, 201};
        int[] heads = {0, 0, 1, 1, 0, 1, 0};
        for (int i = 0; i < times.length; i++) {
            SkipArchive x = Check.tossed(times[i] - 1);
            int before = x.account(5);
            Check.same(heads[i], x.toss());
            Check.same(numbers[i], x.account(3));
            Check.same(before + heads[i], x.account(5));
        }
    }

    @Says("The tower of a folder that is filed gets one rung, ")
    static void oneRungForTailsAtOnce() {
        SkipArchive x = new SkipArchive();
        Check.same(1, x.file(5, 5));
        Check.same(1, x.folderOf(5, 1));
        Check.same(1, x.account(4));
        Check.same(0, x.account(5));
    }

    @Says("and one more for each time that heads are shown, until tails are shown, ")
    static void oneRungMoreForEachHeads() {
        int[] tossed = {1, 4, 27};
        int[] rungs = {2, 3, 4};
        for (int i = 0; i < tossed.length; i++) {
            SkipArchive x = Check.tossed(tossed[i]);
            int heads = x.account(5);
            Check.same(rungs[i], x.file(5, 5));
            Check.same(rungs[i], x.folderOf(5, 1));
            Check.same(tossed[i] + rungs[i], x.account(4));
            Check.same(heads + rungs[i] - 1, x.account(5));
        }
    }

    /** Behind the 31st toss five heads would be shown, and behind the 26th four. */
    @Says("or it has 5 rungs; no coin is tossed behind that.")
    static void noCoinIsTossedBehindFiveRungs() {
        SkipArchive x = Check.tossed(31);
        Check.same(5, x.file(5, 5));
        Check.same(35, x.account(4));
        Check.same(394, x.account(3));
        Check.same(1, x.toss());
        SkipArchive y = Check.tossed(26);
        Check.same(5, y.file(5, 5));
        Check.same(30, y.account(4));
        Check.same(4595, y.account(3));
        Check.same(0, y.toss());
    }

    @Says("The levels 1 to 4 can be forgotten and recalled; ")
    static void theLevels1To4CanBeForgottenAndRecalled() {
        Check.failsBeyond(1, 4, REFUSED, level -> new SkipArchive().forget(level));
        Check.failsBeyond(1, 4, REFUSED, level -> Check.allForgotten().recall(level));
    }

    @Says("the level 0 is never forgotten.")
    static void theLevel0IsNeverForgotten() {
        SkipArchive x = Check.allForgotten();
        Check.same(4, x.account(6));
        Check.fails(REFUSED, () -> x.forget(0));
        Check.fails(REFUSED, () -> Check.commands(x, "f0"));
        Check.same(false, x.isForgotten(0));
        Check.same("0:", Check.line(x, 0));
    }

    @Says("Rungs on a forgotten level stay, ")
    static void rungsOnAForgottenLevelStay() {
        SkipArchive x = Check.sample();
        x.forget(1);
        x.forget(4);
        Check.same(14, x.account(1));
        Check.same(5, x.folderOf(50, 1));
        Check.same("1!: 20 30 50 60", Check.line(x, 1));
        x.fileTall(45, 1, 3);
        Check.same("1!: 20 30 45 50 60", Check.line(x, 1));
        x.recall(1);
        Check.same("1: 20 30 45 50 60", Check.line(x, 1));
    }

    @Says("but are not used by searches.")
    static void rungsOnAForgottenLevelAreNotUsed() {
        SkipArchive x = Check.sample();
        Check.same(20, x.placeOf(40, 1));
        Check.same(30, x.placeOf(40, 2));
        x.forget(2);
        x.forget(1);
        Check.same(10, x.placeOf(40, 1));
        Check.same(20, x.placeOf(40, 2));
        Check.same(30, x.placeOf(40, 3));
        Check.same(5, x.steps(40));
        Check.same(5, x.stepsAgain(40));
    }

    @Says("A search for a key, whether there is such a folder or not, begins at the head, which is ahead of all folders, ")
    static void everySearchBeginsAtTheHead() {
        SkipArchive x = Check.sample();
        for (int key : new int[] {0, 10, 45, 50, 999}) {
            Check.same(-1, x.placeOf(key, 0));
            Check.same(-1, new SkipArchive().placeOf(key, 0));
        }
        x.fileTall(0, 1, 5);
        Check.same(-1, x.placeOf(0, 0));
        Check.same(0, x.placeOf(1, 1));
    }

    @Says("on the highest level that is not forgotten and has a folder, ")
    static void aSearchBeginsOnTheHighestLevelThatIsUsedAndHasAFolder() {
        SkipArchive x = Check.one(5, 1, 3);
        Check.same(2, x.steps(5));
        x.forget(4);
        Check.same(2, x.steps(5));
        x.forget(2);
        Check.same(1, x.steps(5));
        x.recall(2);
        x.forget(1);
        Check.same(1, x.steps(5));
        x.recall(1);
        x.raise(5);
        Check.same(3, x.steps(5));
        x.raise(5);
        Check.same(3, x.steps(5));
        x.recall(4);
        Check.same(4, x.steps(5));
    }

    @Says("or on the level 0.")
    static void aSearchBeginsOnTheLevel0WithoutAnother() {
        SkipArchive x = new SkipArchive();
        Check.same(0, x.steps(999));
        Check.same(0, x.falls(999));
        Check.same(0, x.stepsAgain(999));
        Check.same(0, x.rank(999));
        SkipArchive y = Check.allForgotten();
        Check.same(0, y.steps(999));
        y.fileTall(5, 1, 5);
        Check.same(0, y.steps(5));
        Check.same(1, y.steps(6));
        Check.same(1, y.stepsAgain(6));
        Check.same(0, y.falls(6));
    }

    @Says("As long as the next folder on the level has a lower key than the one that is looked for, it goes to it, "
            + "which is a step.")
    static void aSearchGoesToLowerKeysAlone() {
        SkipArchive x = new SkipArchive();
        x.fileTall(10, 1, 1);
        x.fileTall(20, 1, 1);
        x.fileTall(30, 1, 1);
        Check.same(0, x.steps(10));
        Check.same(1, x.steps(11));
        Check.same(1, x.steps(20));
        Check.same(2, x.steps(21));
        Check.same(2, x.steps(30));
        Check.same(3, x.steps(31));
        Check.same(3, x.steps(999));
    }

    @Says("Otherwise it falls to the next lower level that is not forgotten, which is a step, too, ")
    static void aFallIsAStep() {
        SkipArchive x = Check.one(5, 1, 4);
        Check.same(3, x.steps(5));
        Check.same(4, x.steps(6));
        x.forget(2);
        Check.same(2, x.steps(5));
        Check.same(3, x.steps(6));
        Check.same(2, x.falls(6));
    }

    @Says("until it stands on the level 0 and cannot go on.")
    static void aSearchEndsOnTheLevel0() {
        SkipArchive x = Check.sample();
        Check.same(7, x.steps(45));
        Check.same(4, x.falls(45));
        Check.same(40, x.placeOf(45, 3));
        Check.fails(NONE, () -> x.placeOf(45, 4));
        Check.same(4, x.falls(0));
        Check.same(4, x.falls(999));
    }

    @Says("The places of the search are the head, as -1, and the keys to which it goes, in their order; "
            + "falls make no place.")
    static void fallsMakeNoPlace() {
        SkipArchive x = Check.one(5, 1, 5);
        Check.same(-1, x.placeOf(5, 0));
        Check.fails(NONE, () -> x.placeOf(5, 1));
        Check.same(5, x.placeOf(6, 1));
        Check.fails(NONE, () -> x.placeOf(6, 2));
        x.fileTall(3, 1, 1);
        x.fileTall(8, 1, 3);
        Check.same(5, x.placeOf(9, 1));
        Check.same(8, x.placeOf(9, 2));
        Check.fails(NONE, () -> x.placeOf(9, 3));
    }

    @Says("The span of a rung is how many folders further, on the level 0, the next folder on its level is; ")
    static void aSpanReachesToTheNextOnTheLevel() {
        SkipArchive x = Check.sample();
        Check.same(1, x.span(20, 0));
        Check.same(1, x.span(20, 1));
        Check.same(3, x.span(20, 2));
        Check.same(2, x.span(30, 1));
        x.fileTall(35, 1, 1);
        Check.same(4, x.span(20, 2));
        x.raise(35);
        Check.same(1, x.span(30, 1));
    }

    @Says("if there is none, how many folders come behind, and 1.")
    static void theLastSpanCountsWhatComesBehindAnd1() {
        SkipArchive x = Check.sample();
        Check.same(1, x.span(60, 0));
        Check.same(1, x.span(60, 1));
        Check.same(2, x.span(50, 2));
        Check.same(2, x.span(50, 4));
        x.drop(60);
        Check.same(1, x.span(50, 4));
        Check.same(5, Check.full().span(190, 4));
        SkipArchive y = Check.one(0, 1, 2);
        Check.same(1, y.span(0, 1));
        for (int key = 1; key < 24; key++) {
            y.fileTall(key, 1, 1);
        }
        Check.same(24, y.span(0, 1));
    }

    @Says("The rank of a folder is how many folders have lower keys.")
    static void ranksAreFrom0() {
        SkipArchive x = Check.full();
        Check.same(0, x.folderOf(0, 2));
        Check.same(1, x.folderOf(10, 2));
        Check.same(23, x.folderOf(230, 2));
        x.drop(0);
        Check.same(0, x.folderOf(10, 2));
        Check.same(22, x.folderOf(230, 2));
    }

    @Says({"The text buffer holds one or more commands with ';' between them: ",
        "and 't' to toss a coin."})
    static void oneOrMoreCommandsWithSemicolonsBetween() {
        Check.fault("", 0);
        Check.fault(";", 0);
        Check.fault("t;", 2);
        Check.fault(";t", 0);
        Check.fault("t;;t", 2);
        Check.fault("tt", 1);
        Check.fault("t t", 1);
        SkipArchive x = new SkipArchive();
        Check.same(1, Check.commands(x, "t"));
        Check.same(2, Check.commands(x, "t;t"));
        Check.same(30, Check.commands(x, Check.tosses(30)));
        Check.same(33, x.account(4));
    }

    @Says("'+', a key, '=' and a weight to file a folder, ")
    static void textThatFiles() {
        SkipArchive x = Check.tossed(4);
        Check.same(1, Check.commands(x, "+5=17"));
        Check.same(17, x.folderOf(5, 0));
        Check.same(3, x.folderOf(5, 1));
        Check.same(7, x.account(4));
        Check.fault("+", 1);
        Check.fault("+=17", 1);
        Check.fault("+5", 2);
        Check.fault("+5;t", 2);
        Check.fault("+5=", 3);
        Check.fault("+5=;t", 3);
    }

    @Says("and '^' and a number of rungs behind it if its tower is told; ")
    static void textThatFilesATallTower() {
        SkipArchive x = new SkipArchive();
        Check.same(2, Check.commands(x, "+5=17^1;+6=1^5"));
        Check.same(1, x.folderOf(5, 1));
        Check.same(5, x.folderOf(6, 1));
        Check.same(0, x.account(4));
        Check.fault("+5=1^", 5);
        Check.fault("+5=1^;t", 5);
        Check.fault("+5^1", 2);
        Check.fault("+5=^1", 3);
    }

    @Says("'-' and a key to drop a folder; ")
    static void textThatDrops() {
        SkipArchive x = Check.sample();
        Check.same(2, Check.commands(x, "-10;-060"));
        Check.same("0: 20 30 40 50", Check.line(x, 0));
        Check.fault("-", 1);
        Check.fault("-;t", 1);
        Check.fault("-10=1", 3);
    }

    @Says("'u' and a key to raise a tower; ")
    static void textThatRaises() {
        SkipArchive x = Check.sample();
        Check.same(2, Check.commands(x, "u10;u10"));
        Check.same(3, x.folderOf(10, 1));
        Check.fault("u", 1);
        Check.fault("u;t", 1);
        Check.fault("u10^2", 3);
    }

    @Says("'d' and a key to lower one; ")
    static void textThatLowers() {
        SkipArchive x = Check.sample();
        Check.same(2, Check.commands(x, "d50;d50"));
        Check.same(3, x.folderOf(50, 1));
        Check.fault("d", 1);
        Check.fault("d;t", 1);
        Check.fault("d50^2", 3);
    }

    @Says("'f' and a level to forget it; ")
    static void textThatForgets() {
        SkipArchive x = new SkipArchive();
        Check.same(2, Check.commands(x, "f1;f4"));
        Check.same(true, x.isForgotten(1));
        Check.same(true, x.isForgotten(4));
        Check.same(2, x.account(6));
        Check.fault("f", 1);
        Check.fault("f;t", 1);
    }

    @Says("'r' and a level to recall it; ")
    static void textThatRecalls() {
        SkipArchive x = Check.allForgotten();
        Check.same(2, Check.commands(x, "r1;r4"));
        Check.same(false, x.isForgotten(1));
        Check.same(false, x.isForgotten(4));
        Check.same(2, x.account(6));
        Check.fault("r", 1);
        Check.fault("r;t", 1);
    }

    @Says("'w', a key, '=' and a weight to weigh a folder; ")
    static void textThatWeighs() {
        SkipArchive x = Check.sample();
        Check.same(2, Check.commands(x, "w10=0;w20=99"));
        Check.same(0, x.folderOf(10, 0));
        Check.same(99, x.folderOf(20, 0));
        Check.fault("w", 1);
        Check.fault("w=1", 1);
        Check.fault("w10", 3);
        Check.fault("w10;t", 3);
        Check.fault("w10=", 4);
        Check.fault("w10=1^1", 5);
    }

    @Says("Keys have 1 to 3 digits, ")
    static void keysHave1To3Digits() {
        SkipArchive x = new SkipArchive();
        Check.same(4, Check.commands(x, "+0=1^1;+10=1^1;+999=1^1;+007=1^1"));
        Check.same("0: 0 7 10 999", Check.line(x, 0));
        Check.same(8, Check.commands(x, "w7=2;w07=3;u007;d07;-7;-000;-10;-999"));
        Check.same(0, x.account(0));
        Check.fault("+1000=1", 4);
        Check.fault("+0001=1", 4);
        Check.fault("-0001", 4);
        Check.fault("u1234", 4);
        Check.fault("d9999", 4);
        Check.fault("w0010=7", 4);
    }

    @Says("weights 1 or 2, ")
    static void weightsHave1Or2Digits() {
        SkipArchive x = new SkipArchive();
        Check.same(4, Check.commands(x, "+1=0^1;+2=99^1;+3=07;w1=09"));
        Check.same(9, x.folderOf(1, 0));
        Check.same(99, x.folderOf(2, 0));
        Check.same(7, x.folderOf(3, 0));
        Check.fault("+1=100", 5);
        Check.fault("+1=000^1", 5);
        Check.fault("w1=123", 5);
        Check.fault("w1=001", 5);
    }

    @Says("levels and rungs one.")
    static void levelsAndRungsHave1Digit() {
        Check.fault("f12", 2);
        Check.fault("f01", 2);
        Check.fault("r12", 2);
        Check.fault("r01", 2);
        Check.fault("+1=1^12", 6);
        Check.fault("+1=1^05", 6);
        SkipArchive x = new SkipArchive();
        for (String text : new String[] {"f0", "f5", "f9", "r0", "r5", "r9", "+1=1^0", "+1=1^6", "+1=1^9"}) {
            Check.fails(REFUSED, () -> Check.commands(x, text));
            Check.same(-1, x.faultPosition());
            Check.reason(x, 1, 0, 0);
        }
    }

    @Says("The fault position of a text is the index of its first character that cannot continue such a text, ")
    static void faultAtTheFirstCharacterThatCannotContinue() {
        Check.fault("x", 0);
        Check.fault("tx", 1);
        Check.fault("t;x", 2);
        Check.fault("t;+9=9;f2;x;y", 10);
        Check.fault("-10;-20;-1x", 10);
        Check.fault("+1==", 3);
        Check.fault("+1=1^^", 5);
        Check.fault("+1=1=", 4);
        Check.fault("T", 0);
        Check.fault("+-1=1", 1);
        Check.fault("t" + (char) 0, 1);
        Check.fault("t" + (char) 65535, 1);
        Check.fault("f" + (char) ('0' - 1), 1);
        Check.fault("f" + (char) ('9' + 1), 1);
        Check.fault("f" + (char) 0x661, 1);
        Check.fault("" + (char) ('t' + 256), 0);
        Check.fault(Check.tosses(29) + ";x-", 58);
        Check.fault(Check.tosses(30) + "t", 59);
    }

    @Says("or the length of the text if it ends too early.")
    static void faultAtTheEndOfATextThatEndsTooEarly() {
        String[] texts = {"", "+", "+1", "+123", "+123=", "+1=1^", "-", "u", "d", "f", "r", "w", "w1", "w1=", "t;",
            "t;+1=1;", Check.tosses(30) + ";", Check.tosses(29) + ";-"};
        for (String text : texts) {
            Check.fault(text, text.length());
        }
    }

    @Says("The commands are carried out as the methods would, ")
    static void commandsAreAsMethods() {
        SkipArchive x = Check.sample();
        SkipArchive y = Check.sample();
        Check.same(9, Check.commands(x, "+5=7;+25=3^4;-10;u30;d20;f2;t;w40=1;+7=7"));
        y.file(5, 7);
        y.fileTall(25, 3, 4);
        y.drop(10);
        y.raise(30);
        y.lower(20);
        y.forget(2);
        y.toss();
        y.weigh(40, 1);
        y.file(7, 7);
        x.save();
        x.restore();
        y.save();
        y.restore();
        Check.same(Check.state(y), Check.state(x));
    }

    @Says("all of them or none.")
    static void allCommandsOrNone() {
        SkipArchive x = Check.sample();
        String before = Check.state(x);
        Check.fails(REFUSED, () -> Check.commands(x, "t;+1=1;-10;u20;d50;f1;w60=1;+99=9^4;-11"));
        Check.same(before, Check.state(x));
        Check.fails(ILLEGAL, () -> Check.commands(x, "t;+1=1;-10;u20;d50;f1;w60=1;+99=9^4;-11x"));
        Check.same(before, Check.state(x));
        Check.same(8, Check.commands(x, "t;+1=1;-10;u20;d50;f1;w60=1;+99=9^4"));
        Check.same(true, x.isForgotten(1));
        Check.same("4:", Check.line(x, 4));
    }

    @Says("Something is refused for the first that applies of the reasons that its method names, in the order in "
            + "which it names them: ")
    static void theFirstReasonThatAppliesIsKept() {
        Check.refused(Check.full(), 1, 0, x -> x.file(10, 100));
        Check.refused(Check.full(), 4, 1, x -> x.file(10, 99));
        Check.refused(Check.full(), 2, 24, x -> x.file(11, 99));
        Check.refused(Check.full(), 1, 0, x -> x.fileTall(10, 1, 6));
        Check.refused(Check.full(), 4, 1, x -> x.fileTall(10, 1, 5));
        Check.refused(Check.full(), 1, 0, x -> x.weigh(11, 100));
        Check.refused(Check.full(), 3, 11, x -> x.weigh(11, 1));
        Check.refused(Check.full(), 1, 0, x -> x.recall(0));
    }

    @Says("1, a number is out of range; ")
    static void reason1HasTheDetail0() {
        SkipArchive x = Check.sample();
        Check.refused(x, 1, 0, () -> x.file(1000, 5));
        Check.refused(x, 1, 0, () -> x.file(5, 100));
        Check.refused(x, 1, 0, () -> x.fileTall(5, 5, 6));
        Check.refused(x, 1, 0, () -> x.drop(1000));
        Check.refused(x, 1, 0, () -> x.forget(5));
    }

    @Says("2, there would be more folders than there can be: how many there can be; ")
    static void reason2HasTheDetail24() {
        SkipArchive x = Check.full();
        Check.refused(x, 2, 24, () -> x.file(5, 5));
        Check.refused(x, 2, 24, () -> x.fileTall(999, 5, 5));
    }

    @Says("3, there is no folder with the key: the key; ")
    static void reason3HasTheKey() {
        SkipArchive x = Check.sample();
        Check.refused(x, 3, 0, () -> x.drop(0));
        Check.refused(x, 3, 999, () -> x.raise(999));
        Check.refused(x, 3, 11, () -> x.lower(11));
        Check.refused(x, 3, 61, () -> x.weigh(61, 7));
    }

    @Says("4, there is a folder with the key already: its rank; ")
    static void reason4HasTheRank() {
        SkipArchive x = Check.sample();
        Check.refused(x, 4, 0, () -> x.file(10, 5));
        Check.refused(x, 4, 5, () -> x.fileTall(60, 5, 1));
        x.drop(30);
        Check.refused(x, 4, 4, () -> x.file(60, 5));
    }

    @Says("5, the tower cannot become higher, or lower: its rungs; ")
    static void reason5HasTheRungs() {
        SkipArchive x = Check.sample();
        Check.refused(x, 5, 5, () -> x.raise(50));
        Check.refused(x, 5, 1, () -> x.lower(10));
    }

    @Says("6, the level is forgotten already, or not forgotten: the level; ")
    static void reason6HasTheLevel() {
        SkipArchive x = Check.sample();
        Check.refused(x, 6, 1, () -> x.recall(1));
        Check.refused(x, 6, 4, () -> x.recall(4));
        x.forget(4);
        Check.refused(x, 6, 4, () -> x.forget(4));
        x.recall(4);
        Check.refused(x, 6, 4, () -> x.recall(4));
    }

    @Says("7, the folder weighs so much already: the weight.")
    static void reason7HasTheWeight() {
        SkipArchive x = Check.sample();
        Check.refused(x, 7, 0, () -> x.weigh(40, 0));
        Check.refused(x, 7, 99, () -> x.weigh(50, 99));
        x.weigh(40, 98);
        Check.refused(x, 7, 98, () -> x.weigh(40, 98));
        Check.same(98, x.weigh(40, 0));
    }

    /** Behind a detail that is not 0, so that it would be seen if it stayed. */
    @Says("If nothing else is told, the detail is 0.")
    static void theDetailIs0AgainForReason1() {
        SkipArchive x = Check.sample();
        Check.refused(x, 3, 77, () -> x.drop(77));
        Check.refused(x, 1, 0, () -> x.drop(-1));
        Check.refused(x, 5, 5, () -> x.raise(50));
        Check.fails(REFUSED, () -> Check.commands(x, "t;f0"));
        Check.reason(x, 1, 0, 1);
    }

    @Says("The reason is kept with the index of the command of a text, from 0, or 0 for another call.")
    static void theReasonHasTheIndexOfTheCommand() {
        SkipArchive x = Check.sample();
        Check.fails(REFUSED, () -> Check.commands(x, "-77;t"));
        Check.reason(x, 3, 77, 0);
        Check.fails(REFUSED, () -> Check.commands(x, "t;-78;-79"));
        Check.reason(x, 3, 78, 1);
        Check.fails(REFUSED, () -> Check.commands(x, Check.tosses(28) + ";f7"));
        Check.reason(x, 1, 0, 28);
        Check.fails(REFUSED, () -> x.drop(80));
        Check.reason(x, 3, 80, 0);
    }

    @Says("What can be undone are the successful calls of file, fileTall, drop, raise, lower, forget, recall, weigh, "
            + "toss and commands.")
    static void everySuccessfulChangeCanBeUndone() {
        Runnable[] changes = new Runnable[10];
        SkipArchive x = Check.allForgotten();
        x.fileTall(10, 1, 2);
        x.save();
        x.restore();
        changes[0] = () -> x.file(5, 5);
        changes[1] = () -> x.fileTall(6, 5, 5);
        changes[2] = () -> x.drop(10);
        changes[3] = () -> x.raise(10);
        changes[4] = () -> x.lower(10);
        changes[5] = () -> x.forget(1);
        changes[6] = () -> x.recall(4);
        changes[7] = () -> x.weigh(10, 2);
        changes[8] = () -> x.toss();
        changes[9] = () -> Check.commands(x, "t;t");
        for (int i = 0; i < changes.length; i++) {
            if (i == 5) {
                x.recall(1);
                x.save();
                x.restore();
            }
            String before = Check.state(x);
            changes[i].run();
            Check.same(1, x.account(8));
            Check.same(0, x.undo());
            Check.same(before, Check.state(x));
        }
    }

    @Says("What can be undone are the successful calls of ")
    static void refusedCallsAndOthersCannotBeUndone() {
        SkipArchive x = Check.sample();
        x.save();
        x.restore();
        Check.fails(REFUSED, () -> x.file(10, 5));
        Check.fails(REFUSED, () -> x.fileTall(10, 5, 1));
        Check.fails(REFUSED, () -> x.drop(11));
        Check.fails(REFUSED, () -> x.raise(50));
        Check.fails(REFUSED, () -> x.lower(10));
        Check.fails(REFUSED, () -> x.forget(0));
        Check.fails(REFUSED, () -> x.recall(1));
        Check.fails(REFUSED, () -> x.weigh(10, 5));
        Check.fails(REFUSED, () -> Check.commands(x, "t;f0"));
        Check.fails(ILLEGAL, () -> Check.commands(x, "t;f"));
        x.append('t');
        x.line(1);
        x.save();
        x.restore();
        Check.same(0, x.account(8));
        Check.fails(STATE, x::undo);
    }

    @Says("What there was before each of the latest 8 is kept; ")
    static void theLatest8AreKept() {
        for (int changes = 7; changes <= 9; changes++) {
            SkipArchive x = Check.tossed(changes);
            int kept = Math.min(changes, 8);
            Check.same(kept, x.account(8));
            for (int left = kept - 1; left >= 0; left--) {
                Check.same(left, x.undo());
                Check.same(changes - kept + left, x.account(4));
            }
            Check.fails(STATE, x::undo);
        }
    }

    @Says("restore forgets it.")
    static void restoreForgetsWhatCouldBeUndone() {
        SkipArchive x = Check.tossed(9);
        x.save();
        Check.same(8, x.account(8));
        x.restore();
        Check.same(0, x.account(8));
        Check.fails(STATE, x::undo);
        Check.same(9, x.account(4));
        x.toss();
        Check.same(0, x.undo());
        Check.same(9, x.account(4));
    }

    private static SkipArchive withTextFaultReasonAndLine() {
        SkipArchive x = new SkipArchive();
        x.save();
        x.toss();
        Check.fails(REFUSED, () -> Check.commands(x, "t;-5"));
        Check.fails(ILLEGAL, () -> Check.commands(x, "tx"));
        x.line(3);
        Check.appendAll(x, "t;t");
        return x;
    }

    @Says("The text buffer, ")
    static void theTextBufferStays() {
        SkipArchive x = withTextFaultReasonAndLine();
        x.undo();
        Check.same(3, x.account(9));
        x.restore();
        Check.same(3, x.account(9));
        Check.same(2, x.commands());
        x.undo();
        Check.same(0, x.account(9));
        Check.fails(ILLEGAL, x::commands);
    }

    @Says("the fault position, ")
    static void theFaultPositionStays() {
        SkipArchive x = withTextFaultReasonAndLine();
        x.undo();
        Check.same(1, x.faultPosition());
        x.restore();
        Check.same(1, x.faultPosition());
    }

    @Says("the reason ")
    static void theReasonStays() {
        SkipArchive x = withTextFaultReasonAndLine();
        x.undo();
        Check.reason(x, 3, 5, 1);
        x.restore();
        Check.reason(x, 3, 5, 1);
    }

    @Says("and the line do not belong to it, and stay.")
    static void theLineStays() {
        SkipArchive x = withTextFaultReasonAndLine();
        x.undo();
        Check.same("3:", Check.writtenLine(x, 2));
        x.restore();
        Check.same("3:", Check.writtenLine(x, 2));
    }

    private static Check.Call[] callsThatThrow(SkipArchive x) {
        return new Check.Call[] {() -> x.folderOf(11, 0), () -> x.folderOf(10, 4), () -> x.folderOf(-1, 0),
            () -> x.rank(-1), () -> x.rankAgain(1000), () -> x.keyAt(6), () -> x.steps(-1), () -> x.stepsAgain(1000),
            () -> x.placeOf(45, 4), () -> x.placeOf(1000, 0), () -> x.falls(-1), () -> x.floor(9), () -> x.floor(-1),
            () -> x.ceiling(61), () -> x.ceiling(1000), () -> x.count(5, 4), () -> x.countAgain(5, 4),
            () -> x.weightIn(0, 1000), () -> x.heaviestIn(11, 19), () -> x.heaviestIn(-1, 5), () -> x.levelSize(5),
            () -> x.levelAt(5, 0), () -> x.levelAt(0, 6), () -> x.span(10, 5), () -> x.span(-1, 0),
            () -> x.span(10, 1), () -> x.headSpan(-1), () -> x.isForgotten(5), () -> x.reason(3), () -> x.line(5),
            () -> x.character(5), () -> x.account(10)};
    }

    @Says("A call that throws an exception leaves the state unchanged, unless stated otherwise.")
    static void questionsThatThrowLeaveTheStateUnchanged() {
        SkipArchive x = Check.sample();
        Check.fails(REFUSED, () -> Check.commands(x, "t;-5"));
        Check.fails(ILLEGAL, () -> Check.commands(x, "tx"));
        x.line(3);
        Check.appendAll(x, "u10");
        String before = Check.everything(x);
        for (Check.Call call : callsThatThrow(x)) {
            Check.same(true, Check.outcome(call) instanceof String);
        }
        Check.same(before, Check.everything(x));
        Check.same(1, x.commands());
        Check.same(2, x.folderOf(10, 1));
    }

    @Says("A call that throws an exception leaves the state unchanged, unless stated otherwise.")
    static void changesThatThrowLeaveTheRestUnchanged() {
        SkipArchive x = Check.sample();
        Check.fails(ILLEGAL, () -> Check.commands(x, "tx"));
        x.line(3);
        Check.appendAll(x, "u10");
        Check.fails(REFUSED, () -> x.drop(5));
        String before = Check.everything(x);
        Check.Call[] calls = {() -> x.file(10, 5), () -> x.fileTall(10, 5, 1), () -> x.raise(50), () -> x.lower(10),
            () -> x.forget(0), () -> x.recall(1), () -> x.weigh(10, 5)};
        for (Check.Call call : calls) {
            Check.fails(REFUSED, call);
        }
        Check.fails(REFUSED, () -> x.drop(5));
        Check.fails(STATE, x::restore);
        Check.same(before, Check.everything(x));
        for (int left = 5; left >= 0; left--) {
            Check.same(left, x.undo());
        }
        before = Check.everything(x);
        Check.fails(STATE, x::undo);
        Check.fails(ArithmeticException.class, x::meanSteps);
        Check.fails(ArithmeticException.class, x::meanRungs);
        Check.fails(NONE, x::longestSearch);
        Check.same(before, Check.everything(x));
    }

    @Says("A call that throws an exception leaves the state unchanged, unless stated otherwise.")
    static void appendingToAFullBufferLeavesItUnchanged() {
        SkipArchive x = new SkipArchive();
        Check.appendAll(x, "r1;" + Check.tosses(28) + ";t");
        Check.fails(STATE, () -> x.append('x'));
        Check.same(60, x.account(9));
        Check.fails(REFUSED, x::commands);
        Check.same(-1, x.faultPosition());
    }

    @Says("A call that throws an exception leaves the state unchanged, unless stated otherwise.")
    static void commandsThatThrowLeaveTheRestUnchanged() {
        SkipArchive x = Check.sample();
        x.line(1);
        Check.fails(REFUSED, () -> x.drop(5));
        String before = Check.everything(x);
        Check.fails(ILLEGAL, () -> Check.commands(x, "-10;f0;f"));
        Check.same(8, x.faultPosition());
        Check.same(before.replace("fault -1", "fault 8"), Check.everything(x));
        Check.fails(REFUSED, () -> Check.commands(x, "-10;+1=1;f1;-5"));
        Check.same(before.replace("reason 3 5 0", "reason 3 5 3"), Check.everything(x));
        for (int left = 5; left >= 0; left--) {
            Check.same(left, x.undo());
        }
        Check.same("0 0 0 1 0 0 0 -1 0 0 .....", Check.state(x));
    }

    @Says("If several conditions of a method are fulfilled, the one that is listed first determines the exception.")
    static void theFirstConditionDeterminesTheException() {
        SkipArchive x = Check.sample();
        Check.fails(INDEX, () -> x.span(1000, 5));
        Check.fails(INDEX, () -> x.span(-1, -1));
        Check.fails(INDEX, () -> x.span(11, 5));
        Check.fails(ILLEGAL, () -> x.span(1000, 4));
        Check.fails(INDEX, () -> x.levelAt(5, 99));
        Check.fails(INDEX, () -> x.levelAt(-1, -1));
        Check.fails(ILLEGAL, () -> x.folderOf(11, 4));
        Check.fails(ILLEGAL, () -> x.folderOf(1000, 0));
        Check.fails(ILLEGAL, () -> x.placeOf(1000, 99));
        Check.fails(ILLEGAL, () -> x.placeOf(-1, -1));
        Check.fails(ILLEGAL, () -> new SkipArchive().floor(-1));
        Check.fails(ILLEGAL, () -> new SkipArchive().ceiling(1000));
        Check.fails(ILLEGAL, () -> new SkipArchive().heaviestIn(5, 4));
        Check.fails(ILLEGAL, () -> new SkipArchive().reason(3));
        Check.fails(ILLEGAL, () -> Check.commands(x, "f0;x"));
        Check.fails(NONE, () -> x.reason(0));
    }

    @Says("A fall over several forgotten levels is one step.")
    static void aFallOverForgottenLevelsIsOneStep() {
        SkipArchive x = Check.one(5, 1, 5);
        x.forget(1);
        Check.same(3, x.steps(5));
        x.forget(2);
        Check.same(2, x.steps(5));
        x.forget(3);
        Check.same(1, x.steps(5));
        Check.same(1, x.falls(5));
        Check.same(1, x.stepsAgain(5));
        Check.same(2, x.steps(6));
        Check.same(2, x.stepsAgain(6));
    }

    @Says("Folders of a forgotten level are told as those of any other one, ")
    static void foldersOfAForgottenLevelAreTold() {
        SkipArchive x = Check.sample();
        x.forget(1);
        x.forget(2);
        Check.same(4, x.levelSize(1));
        Check.same(60, x.levelAt(1, 3));
        Check.same(3, x.span(20, 2));
        Check.same(2, x.headSpan(2));
        Check.same("2!: 20 50", Check.line(x, 2));
        Check.same(4, x.recall(1));
        Check.same(4, x.forget(1));
    }

    @Says("and it can be the highest level that has a folder.")
    static void aForgottenLevelCanBeTheHighest() {
        SkipArchive x = Check.allForgotten();
        Check.same(-1, x.account(7));
        x.fileTall(5, 1, 5);
        Check.same(4, x.account(7));
        x.lower(5);
        Check.same(3, x.account(7));
    }

    @Says("Coins are not tossed if a folder is refused.")
    static void noCoinIsTossedForARefusedFolder() {
        SkipArchive x = Check.full();
        x.toss();
        Check.fails(REFUSED, () -> x.file(5, 5));
        Check.fails(REFUSED, () -> x.file(10, 5));
        Check.fails(REFUSED, () -> x.file(10, 100));
        Check.fails(REFUSED, () -> x.file(-1, 5));
        Check.fails(REFUSED, () -> Check.commands(x, "+5=5"));
        Check.fails(REFUSED, () -> Check.commands(x, "-0;+5=5;+6=6"));
        Check.same(92, x.account(3));
        Check.same(1, x.account(4));
        Check.same(0, x.account(5));
    }
}

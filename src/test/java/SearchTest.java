/** Promises 11 to 31: what is asked of the ladder and told by searches. */
final class SearchTest {
    private static final Class<?> ILLEGAL = IllegalArgumentException.class;
    private static final Class<?> NONE = java.util.NoSuchElementException.class;
    private static final Class<?> INDEX = IndexOutOfBoundsException.class;
    private static final int[] WRONG_KEYS = {-1, 1000, Integer.MIN_VALUE, Integer.MAX_VALUE};
    private static final int[] WRONG_LEVELS = {-1, 5, 32, Integer.MIN_VALUE, Integer.MAX_VALUE};

    private SearchTest() {
    }

    private static void sameForKeys(int[] keys, int[] due, java.util.function.IntUnaryOperator call) {
        for (int i = 0; i < keys.length; i++) {
            Check.same(due[i], call.applyAsInt(keys[i]));
        }
    }

    private static void failsForWrongKeys(java.util.function.IntUnaryOperator call) {
        for (int key : WRONG_KEYS) {
            Check.fails(ILLEGAL, () -> call.applyAsInt(key));
        }
    }

    private static void failsForWrongLevels(java.util.function.IntUnaryOperator call) {
        for (int level : WRONG_LEVELS) {
            Check.fails(INDEX, () -> call.applyAsInt(level));
        }
    }

    private static void failsForWrongRanges(SkipArchive x, java.util.function.IntBinaryOperator call) {
        Check.fails(ILLEGAL, () -> call.applyAsInt(-1, 30));
        Check.fails(ILLEGAL, () -> call.applyAsInt(0, 1000));
        Check.fails(ILLEGAL, () -> call.applyAsInt(1000, 1000));
        Check.fails(ILLEGAL, () -> call.applyAsInt(-5, -2));
        Check.fails(ILLEGAL, () -> call.applyAsInt(30, 29));
        Check.fails(ILLEGAL, () -> call.applyAsInt(0, Integer.MAX_VALUE));
        Check.fails(ILLEGAL, () -> call.applyAsInt(Integer.MIN_VALUE, 0));
    }

    static void promise11FolderOf() {
        SkipArchive x = Check.sample();
        Check.same(99, x.folderOf(50, 0));
        Check.same(5, x.folderOf(50, 1));
        Check.same(4, x.folderOf(50, 2));
        Check.same(7, x.folderOf(50, 3));
        Check.same(0, x.folderOf(10, 2));
        Check.same(4, x.folderOf(10, 3));
        x.forget(1);
        Check.same(6, x.folderOf(50, 3));
        Check.same(5, x.folderOf(50, 1));
        failsForWrongKeys(key -> x.folderOf(key, 0));
        Check.fails(ILLEGAL, () -> x.folderOf(50, -1));
        Check.fails(ILLEGAL, () -> x.folderOf(50, 4));
        Check.fails(ILLEGAL, () -> x.folderOf(51, 4));
        Check.fails(NONE, () -> x.folderOf(51, 0));
        Check.fails(NONE, () -> x.folderOf(0, 3));
        Check.fails(NONE, () -> x.folderOf(999, 1));
    }

    static void promise12Rank() {
        SkipArchive x = Check.sample();
        int[] keys = {0, 10, 11, 30, 31, 50, 60, 61, 999};
        int[] ranks = {0, 0, 1, 2, 3, 4, 5, 6, 6};
        sameForKeys(keys, ranks, x::rank);
        x.forget(4);
        x.forget(1);
        sameForKeys(keys, ranks, x::rank);
        failsForWrongKeys(x::rank);
    }

    static void promise13RankAgain() {
        SkipArchive x = Check.sample();
        sameForKeys(new int[] {0, 10, 11, 30, 31, 50, 60, 61, 999}, new int[] {0, 0, 1, 2, 3, 4, 5, 6, 6}, x::rankAgain);
        failsForWrongKeys(x::rankAgain);
    }

    static void promise13FullLadder() {
        SkipArchive x = Check.full();
        sameForKeys(new int[] {0, 1, 229, 230, 231}, new int[] {0, 1, 23, 23, 24}, x::rankAgain);
        sameForKeys(new int[] {0, 1, 229, 230, 231}, new int[] {0, 1, 23, 23, 24}, x::rank);
    }

    static void promise14KeyAt() {
        SkipArchive x = Check.sample();
        sameForKeys(new int[] {0, 1, 2, 3, 4, 5}, new int[] {10, 20, 30, 40, 50, 60}, x::keyAt);
        Check.fails(NONE, () -> x.keyAt(6));
        Check.fails(NONE, () -> x.keyAt(-1));
        Check.fails(NONE, () -> x.keyAt(24));
        Check.fails(NONE, () -> x.keyAt(Integer.MAX_VALUE));
        Check.fails(NONE, () -> x.keyAt(Integer.MIN_VALUE));
        x.drop(60);
        Check.fails(NONE, () -> x.keyAt(5));
        Check.same(230, Check.full().keyAt(23));
        Check.fails(NONE, () -> Check.full().keyAt(24));
    }

    private static final int[] KEYS = {0, 10, 11, 20, 30, 40, 45, 50, 51, 60, 61, 999};
    private static final int[] STEPS = {4, 4, 5, 5, 5, 6, 7, 7, 5, 5, 6, 6};
    private static final int[] FALLS = {4, 4, 4, 4, 4, 4, 4, 4, 4, 4, 4, 4};
    /** With the levels 2 and 4 forgotten: the search begins on the level 3 and falls to 1. */
    private static final int[] STEPS_FEWER = {2, 2, 3, 3, 3, 4, 5, 5, 3, 3, 4, 4};

    static void promise15Steps() {
        SkipArchive x = Check.sample();
        sameForKeys(KEYS, STEPS, x::steps);
        x.forget(4);
        x.forget(2);
        sameForKeys(KEYS, STEPS_FEWER, x::steps);
        x.forget(3);
        Check.same(3, x.steps(40));
        x.forget(1);
        sameForKeys(new int[] {0, 10, 40, 60, 999}, new int[] {0, 0, 3, 5, 6}, x::steps);
        failsForWrongKeys(x::steps);
    }

    static void promise15BeginsWhereFoldersAre() {
        SkipArchive x = new SkipArchive();
        x.fileTall(5, 1, 3);
        x.fileTall(6, 1, 1);
        Check.same(2, x.steps(5));
        Check.same(3, x.steps(6));
        x.lower(5);
        Check.same(1, x.steps(5));
        x.drop(5);
        Check.same(0, x.steps(6));
        Check.same(1, x.steps(7));
    }

    static void promise16StepsAgain() {
        SkipArchive x = Check.sample();
        sameForKeys(KEYS, STEPS, x::stepsAgain);
        x.forget(4);
        x.forget(2);
        sameForKeys(KEYS, STEPS_FEWER, x::stepsAgain);
        x.forget(3);
        Check.same(3, x.stepsAgain(40));
        x.forget(1);
        sameForKeys(new int[] {0, 10, 40, 60, 999}, new int[] {0, 0, 3, 5, 6}, x::stepsAgain);
        failsForWrongKeys(x::stepsAgain);
    }

    static void promise17PlaceOf() {
        SkipArchive x = Check.sample();
        Check.same(-1, x.placeOf(45, 0));
        Check.same(20, x.placeOf(45, 1));
        Check.same(30, x.placeOf(45, 2));
        Check.same(40, x.placeOf(45, 3));
        Check.fails(NONE, () -> x.placeOf(45, 4));
        Check.fails(NONE, () -> x.placeOf(45, -1));
        Check.fails(NONE, () -> x.placeOf(45, Integer.MAX_VALUE));
        Check.fails(NONE, () -> x.placeOf(45, Integer.MIN_VALUE));
        Check.same(50, x.placeOf(999, 1));
        Check.same(60, x.placeOf(999, 2));
        Check.fails(NONE, () -> x.placeOf(999, 3));
        Check.same(-1, x.placeOf(10, 0));
        Check.fails(NONE, () -> x.placeOf(10, 1));
        failsForWrongKeys(key -> x.placeOf(key, 0));
        Check.fails(ILLEGAL, () -> x.placeOf(-1, -1));
    }

    /** The most steps there can be: over all folders on the highest level, and then down. */
    static void promise15TallestLadder() {
        SkipArchive x = new SkipArchive();
        for (int key = 0; key < 24; key++) {
            x.fileTall(key, 1, 5);
        }
        Check.same(28, x.steps(999));
        Check.same(28, x.stepsAgain(999));
        Check.same(4, x.falls(999));
        Check.same(24, x.rank(999));
        Check.same(23, x.placeOf(999, 24));
        Check.fails(NONE, () -> x.placeOf(999, 25));
        Check.same(23, x.longestSearch());
        x.forget(4);
        x.forget(2);
        Check.same(26, x.steps(999));
        Check.same(26, x.stepsAgain(999));
    }

    static void promise17AllOnTheLowestLevel() {
        SkipArchive x = Check.full();
        x.forget(1);
        x.forget(2);
        x.forget(3);
        x.forget(4);
        Check.same(-1, x.placeOf(999, 0));
        Check.same(0, x.placeOf(999, 1));
        Check.same(230, x.placeOf(999, 24));
        Check.fails(NONE, () -> x.placeOf(999, 25));
        Check.same(24, x.steps(999));
        Check.same(24, x.stepsAgain(999));
        Check.same(24, x.rank(999));
    }

    static void promise18Falls() {
        SkipArchive x = Check.sample();
        sameForKeys(KEYS, FALLS, x::falls);
        x.forget(2);
        x.forget(3);
        Check.same(2, x.falls(40));
        x.forget(4);
        Check.same(1, x.falls(999));
        x.forget(1);
        Check.same(0, x.falls(999));
        failsForWrongKeys(x::falls);
    }

    static void promise19Floor() {
        SkipArchive x = Check.sample();
        sameForKeys(new int[] {10, 19, 20, 59, 60, 999}, new int[] {10, 10, 20, 50, 60, 60}, x::floor);
        Check.fails(NONE, () -> x.floor(9));
        Check.fails(NONE, () -> x.floor(0));
        failsForWrongKeys(x::floor);
        SkipArchive y = new SkipArchive();
        Check.fails(NONE, () -> y.floor(999));
        y.fileTall(999, 1, 1);
        Check.same(999, y.floor(999));
        Check.fails(NONE, () -> y.floor(998));
    }

    static void promise20Ceiling() {
        SkipArchive x = Check.sample();
        sameForKeys(new int[] {0, 10, 11, 20, 51, 60}, new int[] {10, 10, 20, 20, 60, 60}, x::ceiling);
        Check.fails(NONE, () -> x.ceiling(61));
        Check.fails(NONE, () -> x.ceiling(999));
        failsForWrongKeys(x::ceiling);
        SkipArchive y = new SkipArchive();
        Check.fails(NONE, () -> y.ceiling(0));
        y.fileTall(0, 1, 1);
        Check.same(0, y.ceiling(0));
        Check.fails(NONE, () -> y.ceiling(1));
        Check.fails(NONE, () -> Check.full().ceiling(231));
    }

    static void promise21Count() {
        SkipArchive x = Check.sample();
        Check.same(6, x.count(0, 999));
        Check.same(3, x.count(20, 40));
        Check.same(1, x.count(21, 39));
        Check.same(1, x.count(60, 60));
        Check.same(0, x.count(61, 999));
        Check.same(0, x.count(0, 9));
        x.fileTall(999, 1, 1);
        x.fileTall(0, 1, 1);
        Check.same(8, x.count(0, 999));
        Check.same(1, x.count(999, 999));
        Check.same(1, x.count(0, 0));
        failsForWrongRanges(x, x::count);
    }

    static void promise22CountAgain() {
        SkipArchive x = Check.sample();
        Check.same(6, x.countAgain(0, 999));
        Check.same(3, x.countAgain(20, 40));
        Check.same(1, x.countAgain(21, 39));
        Check.same(1, x.countAgain(60, 60));
        Check.same(0, x.countAgain(61, 999));
        Check.same(0, x.countAgain(0, 9));
        x.fileTall(999, 1, 1);
        x.fileTall(0, 1, 1);
        Check.same(8, x.countAgain(0, 999));
        Check.same(1, x.countAgain(999, 999));
        Check.same(1, x.countAgain(0, 0));
        failsForWrongRanges(x, x::countAgain);
    }

    static void promise23WeightIn() {
        SkipArchive x = Check.sample();
        Check.same(129, x.weightIn(0, 999));
        Check.same(18, x.weightIn(20, 40));
        Check.same(9, x.weightIn(21, 39));
        Check.same(18, x.weightIn(20, 30));
        Check.same(7, x.weightIn(60, 60));
        Check.same(0, x.weightIn(40, 40));
        Check.same(0, x.weightIn(61, 999));
        Check.same(7, x.weightIn(60, 999));
        failsForWrongRanges(x, x::weightIn);
    }

    static void promise24HeaviestIn() {
        SkipArchive x = Check.sample();
        Check.same(50, x.heaviestIn(0, 999));
        Check.same(20, x.heaviestIn(0, 49));
        Check.same(30, x.heaviestIn(21, 49));
        Check.same(40, x.heaviestIn(31, 49));
        Check.same(60, x.heaviestIn(60, 60));
        Check.fails(NONE, () -> x.heaviestIn(41, 49));
        Check.fails(NONE, () -> x.heaviestIn(61, 999));
        Check.fails(NONE, () -> new SkipArchive().heaviestIn(0, 999));
        failsForWrongRanges(x, x::heaviestIn);
    }

    static void promise25LevelSize() {
        SkipArchive x = Check.sample();
        int[] levels = {0, 1, 2, 3, 4};
        sameForKeys(levels, new int[] {6, 4, 2, 1, 1}, x::levelSize);
        x.forget(1);
        sameForKeys(levels, new int[] {6, 4, 2, 1, 1}, x::levelSize);
        failsForWrongLevels(x::levelSize);
    }

    static void promise26LevelAt() {
        SkipArchive x = Check.sample();
        x.forget(1);
        Check.same(10, x.levelAt(0, 0));
        Check.same(60, x.levelAt(0, 5));
        Check.fails(NONE, () -> x.levelAt(0, 6));
        Check.same(20, x.levelAt(1, 0));
        Check.same(30, x.levelAt(1, 1));
        Check.same(50, x.levelAt(1, 2));
        Check.same(60, x.levelAt(1, 3));
        Check.fails(NONE, () -> x.levelAt(1, 4));
        Check.same(50, x.levelAt(4, 0));
        Check.fails(NONE, () -> x.levelAt(4, 1));
        Check.fails(NONE, () -> x.levelAt(0, -1));
        Check.fails(NONE, () -> x.levelAt(0, Integer.MAX_VALUE));
        Check.fails(NONE, () -> x.levelAt(0, Integer.MIN_VALUE));
        failsForWrongLevels(level -> x.levelAt(level, -1));
    }

    static void promise27Span() {
        SkipArchive x = Check.sample();
        Check.same(1, x.span(20, 0));
        Check.same(1, x.span(20, 1));
        Check.same(3, x.span(20, 2));
        Check.same(2, x.span(30, 1));
        Check.same(1, x.span(50, 1));
        Check.same(2, x.span(50, 4));
        Check.same(1, x.span(60, 0));
        Check.same(1, x.span(60, 1));
        x.forget(2);
        Check.same(3, x.span(20, 2));
        Check.fails(NONE, () -> x.span(20, 3));
        Check.fails(NONE, () -> x.span(10, 1));
        Check.fails(NONE, () -> x.span(25, 0));
        failsForWrongKeys(key -> x.span(key, 4));
        failsForWrongLevels(level -> x.span(-1, level));
        failsForWrongLevels(level -> x.span(20, level));
    }

    static void promise28HeadSpan() {
        SkipArchive x = Check.sample();
        int[] levels = {0, 1, 2, 3, 4};
        sameForKeys(levels, new int[] {1, 2, 2, 5, 5}, x::headSpan);
        x.drop(50);
        sameForKeys(levels, new int[] {1, 2, 2, 6, 6}, x::headSpan);
        failsForWrongLevels(x::headSpan);
        SkipArchive y = new SkipArchive();
        sameForKeys(levels, new int[] {1, 1, 1, 1, 1}, y::headSpan);
    }

    static void promise29IsForgotten() {
        SkipArchive x = new SkipArchive();
        x.forget(1);
        x.forget(4);
        Check.same(false, x.isForgotten(0));
        Check.same(true, x.isForgotten(1));
        Check.same(false, x.isForgotten(2));
        Check.same(false, x.isForgotten(3));
        Check.same(true, x.isForgotten(4));
        x.recall(1);
        Check.same(false, x.isForgotten(1));
        failsForWrongLevels(level -> x.isForgotten(level) ? 1 : 0);
    }

    static void promise30LongestSearch() {
        SkipArchive x = Check.sample();
        Check.same(50, x.longestSearch());
        x.drop(50);
        Check.same(60, x.longestSearch());
        SkipArchive y = new SkipArchive();
        Check.fails(NONE, y::longestSearch);
        y.fileTall(5, 1, 1);
        Check.same(5, y.longestSearch());
        y.fileTall(7, 1, 3);
        y.fileTall(9, 1, 3);
        y.fileTall(11, 1, 1);
        Check.same(11, y.longestSearch());
        y.drop(11);
        Check.same(7, y.longestSearch());
    }

    static void promise31NextRungs() {
        int[] due = {1, 2, 1, 1, 3, 2, 1, 1, 1, 1, 2};
        SkipArchive x = new SkipArchive();
        for (int rungs : due) {
            String before = Check.state(x);
            Check.same(rungs, x.nextRungs());
            Check.same(before, Check.state(x));
            x.toss();
        }
        Check.same(5, Check.tossed(26).nextRungs());
        Check.same(5, Check.tossed(31).nextRungs());
        Check.same(4, Check.tossed(27).nextRungs());
        Check.same(1, Check.full().nextRungs());
    }
}

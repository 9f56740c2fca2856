/** Promises 1 to 10: a test of its own for each sentence that names an edge. */
final class ChangesEdges {
    private static final Class<?> REFUSED = UnsupportedOperationException.class;
    private static final Class<?> NONE = java.util.NoSuchElementException.class;

    private ChangesEdges() {
    }

    /** Numbers just beyond a range and as far from it as can be. */
    private static int[] beyond(int least, int most) {
        return new int[] {least - 1, most + 1, Integer.MIN_VALUE, Integer.MAX_VALUE};
    }

    @Says(promise = 1, value = "Creates an archive without folders.")
    static void aNewArchiveHasNoFolders() {
        SkipArchive x = new SkipArchive();
        Check.same("0 0 0 1 0 0 0 -1 0 0 .....", Check.state(x));
        for (int level = 0; level < 5; level++) {
            Check.same(0, x.levelSize(level));
        }
        Check.fails(NONE, () -> x.keyAt(0));
        Check.fails(NONE, () -> x.floor(999));
        Check.fails(NONE, () -> x.ceiling(0));
        Check.same(0, x.count(0, 999));
    }

    @Says(promise = 2, value = {"Files a folder, whose tower is told by coins.", "Returns the rungs of its tower."})
    static void fileReturnsTheRungsThatCoinsTell() {
        int[] tossed = {0, 1, 4, 27, 26};
        for (int i = 0; i < tossed.length; i++) {
            SkipArchive x = Check.tossed(tossed[i]);
            Check.same(i + 1, x.file(500, 50));
            Check.same(i + 1, x.folderOf(500, 1));
            Check.same(50, x.folderOf(500, 0));
            Check.same(tossed[i] + Math.min(i + 1, 4), x.account(4));
        }
    }

    @Says(promise = 2, value = "Returns the rungs of its tower.")
    static void fileTakesTheLeastAndTheGreatestNumbers() {
        SkipArchive x = new SkipArchive();
        Check.same(1, x.file(0, 0));
        Check.same(2, x.file(999, 99));
        Check.same("2 3 99 1674 3 1 0 1 2 0 0=0^1 999=99^2 .....", Check.state(x));
    }

    @Says(promise = 2, value = "Throws UnsupportedOperationException if it is refused for the reason 1")
    static void fileRefusesAKeyOutOfRange() {
        SkipArchive x = Check.sample();
        for (int key : beyond(0, 999)) {
            Check.fails(REFUSED, () -> x.drop(77));
            Check.refused(x, 1, 0, () -> x.file(key, 5));
        }
    }

    @Says(promise = 2, value = "Throws UnsupportedOperationException if it is refused for the reason 1")
    static void fileRefusesAWeightOutOfRange() {
        SkipArchive x = Check.sample();
        for (int weight : beyond(0, 99)) {
            Check.fails(REFUSED, () -> x.drop(77));
            Check.refused(x, 1, 0, () -> x.file(11, weight));
        }
        Check.refused(x, 1, 0, () -> x.file(10, 100));
    }

    @Says(promise = 2, value = ", 4 or")
    static void fileRefusesAKeyThatThereIs() {
        SkipArchive x = Check.sample();
        Check.refused(x, 4, 0, () -> x.file(10, 5));
        Check.refused(x, 4, 3, () -> x.file(40, 99));
        Check.refused(x, 4, 5, () -> x.file(60, 0));
    }

    @Says(promise = 2, value = "2; the reason is kept")
    static void fileRefusesA25thFolder() {
        Check.refused(Check.full(), 2, 24, x -> x.file(11, 5));
        Check.refused(Check.full(), 4, 23, x -> x.file(230, 5));
        Check.refused(Check.full(), 1, 0, x -> x.file(11, -1));
        SkipArchive x = Check.full();
        x.drop(120);
        x.file(11, 5);
        Check.refused(x, 2, 24, () -> x.file(120, 5));
    }

    @Says(promise = 3, value = {"Files a folder with a tower that is told; no coin is tossed.", "Returns its rank."})
    static void fileTallReturnsTheRankAndTossesNoCoin() {
        SkipArchive x = new SkipArchive();
        Check.same(0, x.fileTall(500, 50, 5));
        Check.same(1, x.fileTall(999, 99, 2));
        Check.same(0, x.fileTall(0, 0, 1));
        Check.same(1, x.fileTall(7, 1, 3));
        Check.same("4 11 150 1 0 0 0 4 4 0 0=0^1 7=1^3 500=50^5 999=99^2 .....", Check.state(x));
    }

    @Says(promise = 3, value = "Returns its rank.")
    static void fileTallReturnsTheRank23OfTheLastThatFits() {
        SkipArchive x = new SkipArchive();
        for (int key = 0; key < 24; key++) {
            Check.same(key, x.fileTall(key, 1, 1));
        }
        x.drop(0);
        Check.same(23, x.fileTall(999, 1, 1));
        x.drop(999);
        Check.same(0, x.fileTall(0, 1, 1));
    }

    @Says(promise = 3, value = "Throws UnsupportedOperationException if it is refused for the reason 1")
    static void fileTallRefusesAKeyOutOfRange() {
        SkipArchive x = Check.sample();
        for (int key : beyond(0, 999)) {
            Check.fails(REFUSED, () -> x.drop(77));
            Check.refused(x, 1, 0, () -> x.fileTall(key, 5, 1));
        }
    }

    @Says(promise = 3, value = "Throws UnsupportedOperationException if it is refused for the reason 1")
    static void fileTallRefusesAWeightOutOfRange() {
        SkipArchive x = Check.sample();
        for (int weight : beyond(0, 99)) {
            Check.fails(REFUSED, () -> x.drop(77));
            Check.refused(x, 1, 0, () -> x.fileTall(11, weight, 1));
        }
    }

    @Says(promise = 3, value = "Throws UnsupportedOperationException if it is refused for the reason 1")
    static void fileTallRefusesRungsOutOfRange() {
        SkipArchive x = Check.sample();
        for (int rungs : beyond(1, 5)) {
            Check.fails(REFUSED, () -> x.drop(77));
            Check.refused(x, 1, 0, () -> x.fileTall(11, 5, rungs));
        }
        Check.refused(x, 1, 0, () -> x.fileTall(10, 5, 6));
    }

    @Says(promise = 3, value = ", 4 or")
    static void fileTallRefusesAKeyThatThereIs() {
        SkipArchive x = Check.sample();
        Check.refused(x, 4, 0, () -> x.fileTall(10, 5, 1));
        Check.refused(x, 4, 5, () -> x.fileTall(60, 99, 5));
    }

    @Says(promise = 3, value = "2; the reason is kept")
    static void fileTallRefusesA25thFolder() {
        Check.refused(Check.full(), 2, 24, x -> x.fileTall(11, 5, 1));
        Check.refused(Check.full(), 4, 0, x -> x.fileTall(0, 5, 1));
        Check.refused(Check.full(), 1, 0, x -> x.fileTall(11, 5, 0));
    }

    @Says(promise = 4, value = {"Drops a folder with its tower.", "Returns how many folders there are then."})
    static void dropTakesTheTowerAway() {
        SkipArchive x = Check.sample();
        Check.same(5, x.drop(50));
        Check.same(0, x.levelSize(4));
        Check.same("1: 20 30 60", Check.line(x, 1));
        Check.same("5 9 30 1 0 0 0 2 7 0 10=5^1 20=9^3 30=9^2 40=0^1 60=7^2 .....", Check.state(x));
    }

    @Says(promise = 4, value = "Returns how many folders there are then.")
    static void dropReturns23OfAFullArchiveAnd0OfTheLast() {
        SkipArchive x = Check.full();
        for (int left = 23; left >= 0; left--) {
            Check.same(left, x.drop(x.keyAt(left / 2)));
        }
        Check.same(-1, x.account(7));
        Check.refused(x, 3, 0, () -> x.drop(0));
    }

    @Says(promise = 4, value = "Throws UnsupportedOperationException if it is refused for the reason 1 or")
    static void dropRefusesAKeyOutOfRange() {
        SkipArchive x = Check.sample();
        for (int key : beyond(0, 999)) {
            Check.fails(REFUSED, () -> x.raise(77));
            Check.refused(x, 1, 0, () -> x.drop(key));
        }
    }

    @Says(promise = 4, value = "3; the reason is kept")
    static void dropRefusesAKeyThatThereIsNot() {
        SkipArchive x = Check.sample();
        for (int key : new int[] {0, 9, 11, 61, 999}) {
            Check.refused(x, 3, key, () -> x.drop(key));
        }
        x.drop(10);
        Check.refused(x, 3, 10, () -> x.drop(10));
    }

    @Says(promise = 5, value = {"Raises a tower by a rung.", "Returns its rungs then."})
    static void raiseGoesUpTo5Rungs() {
        SkipArchive x = Check.sample();
        for (int rungs = 2; rungs <= 5; rungs++) {
            Check.same(rungs, x.raise(10));
            Check.same(rungs, x.folderOf(10, 1));
            Check.same(10, x.levelAt(rungs - 1, 0));
        }
        Check.same(5, x.folderOf(10, 0));
    }

    @Says(promise = 5, value = "Throws UnsupportedOperationException if it is refused for the reason 1")
    static void raiseRefusesAKeyOutOfRange() {
        SkipArchive x = Check.sample();
        for (int key : beyond(0, 999)) {
            Check.fails(REFUSED, () -> x.drop(77));
            Check.refused(x, 1, 0, () -> x.raise(key));
        }
    }

    @Says(promise = 5, value = ", 3 or")
    static void raiseRefusesAKeyThatThereIsNot() {
        SkipArchive x = Check.sample();
        for (int key : new int[] {0, 49, 51, 999}) {
            Check.refused(x, 3, key, () -> x.raise(key));
        }
    }

    @Says(promise = 5, value = "5; the reason is kept")
    static void raiseRefusesA6thRung() {
        SkipArchive x = Check.one(7, 1, 4);
        Check.same(5, x.raise(7));
        Check.refused(x, 5, 5, () -> x.raise(7));
        Check.same(1, x.levelSize(4));
    }

    @Says(promise = 6, value = {"Lowers a tower by its highest rung.", "Returns its rungs then."})
    static void lowerTakesTheHighestRung() {
        SkipArchive x = Check.sample();
        for (int rungs = 4; rungs >= 1; rungs--) {
            int before = x.levelSize(rungs);
            Check.same(rungs, x.lower(50));
            Check.same(rungs, x.folderOf(50, 1));
            Check.same(before - 1, x.levelSize(rungs));
        }
        Check.same(99, x.folderOf(50, 0));
    }

    @Says(promise = 6, value = "Throws UnsupportedOperationException if it is refused for the reason 1")
    static void lowerRefusesAKeyOutOfRange() {
        SkipArchive x = Check.sample();
        for (int key : beyond(0, 999)) {
            Check.fails(REFUSED, () -> x.drop(77));
            Check.refused(x, 1, 0, () -> x.lower(key));
        }
    }

    @Says(promise = 6, value = ", 3 or")
    static void lowerRefusesAKeyThatThereIsNot() {
        SkipArchive x = Check.sample();
        for (int key : new int[] {0, 49, 51, 999}) {
            Check.refused(x, 3, key, () -> x.lower(key));
        }
    }

    @Says(promise = 6, value = "5; the reason is kept")
    static void lowerRefusesTheLastRung() {
        SkipArchive x = Check.one(7, 1, 2);
        Check.same(1, x.lower(7));
        Check.refused(x, 5, 1, () -> x.lower(7));
        Check.same(1, x.levelSize(0));
    }

    @Says(promise = 7, value = {"Forgets a level.", "level: the level, 1 to 4", "Returns how many folders it has."})
    static void forgetReturnsTheFoldersOfTheLevel() {
        SkipArchive x = Check.sample();
        int[] folders = {6, 4, 2, 1, 1};
        for (int level = 1; level <= 4; level++) {
            Check.same(folders[level], x.forget(level));
            Check.same(true, x.isForgotten(level));
            Check.same(level, x.account(6));
        }
        Check.same(0, new SkipArchive().forget(1));
    }

    @Says(promise = 7, value = "Throws UnsupportedOperationException if it is refused for the reason 1 or")
    static void forgetRefusesALevelOutOfRange() {
        for (int level : new int[] {0, 5, -1, 32, 33, -31, Integer.MIN_VALUE, Integer.MAX_VALUE}) {
            SkipArchive x = Check.sample();
            Check.fails(REFUSED, () -> x.drop(77));
            Check.refused(x, 1, 0, () -> x.forget(level));
        }
    }

    @Says(promise = 7, value = "6; the reason is kept")
    static void forgetRefusesALevelThatIsForgotten() {
        SkipArchive x = Check.allForgotten();
        for (int level = 1; level <= 4; level++) {
            int twice = level;
            Check.refused(x, 6, level, () -> x.forget(twice));
        }
    }

    @Says(promise = 8, value = {"Recalls a level.", "level: the level, 1 to 4", "Returns how many folders it has."})
    static void recallReturnsTheFoldersOfTheLevel() {
        SkipArchive x = Check.sample();
        int[] folders = {6, 4, 2, 1, 1};
        for (int level = 1; level <= 4; level++) {
            x.forget(level);
            Check.same(folders[level], x.recall(level));
            Check.same(false, x.isForgotten(level));
            Check.same(0, x.account(6));
        }
        Check.same(0, Check.allForgotten().recall(4));
    }

    @Says(promise = 8, value = "Throws UnsupportedOperationException if it is refused for the reason 1 or")
    static void recallRefusesALevelOutOfRange() {
        SkipArchive x = Check.allForgotten();
        for (int level : new int[] {0, 5, -1, 32, 33, -31, Integer.MIN_VALUE, Integer.MAX_VALUE}) {
            Check.fails(REFUSED, () -> x.drop(77));
            Check.refused(x, 1, 0, () -> x.recall(level));
        }
    }

    @Says(promise = 8, value = "6; the reason is kept")
    static void recallRefusesALevelThatIsNotForgotten() {
        SkipArchive x = Check.sample();
        for (int level = 1; level <= 4; level++) {
            int notForgotten = level;
            Check.refused(x, 6, level, () -> x.recall(notForgotten));
        }
        x.forget(2);
        x.recall(2);
        Check.refused(x, 6, 2, () -> x.recall(2));
    }

    @Says(promise = 9, value = {"Gives a folder another weight.", "Returns its weight before."})
    static void weighReturnsTheWeightBefore() {
        SkipArchive x = Check.sample();
        Check.same(9, x.weigh(30, 0));
        Check.same(0, x.weigh(30, 99));
        Check.same(99, x.weigh(30, 1));
        Check.same("6 14 121 1 0 0 0 4 8 0 10=5^1 20=9^3 30=1^2 40=0^1 50=99^5 60=7^2 .....", Check.state(x));
    }

    @Says(promise = 9, value = "Throws UnsupportedOperationException if it is refused for the reason 1")
    static void weighRefusesAKeyOutOfRange() {
        SkipArchive x = Check.sample();
        for (int key : beyond(0, 999)) {
            Check.fails(REFUSED, () -> x.drop(77));
            Check.refused(x, 1, 0, () -> x.weigh(key, 5));
        }
    }

    @Says(promise = 9, value = "Throws UnsupportedOperationException if it is refused for the reason 1")
    static void weighRefusesAWeightOutOfRange() {
        for (int weight : beyond(0, 99)) {
            SkipArchive x = Check.sample();
            Check.fails(REFUSED, () -> x.drop(77));
            Check.refused(x, 1, 0, () -> x.weigh(10, weight));
            Check.refused(x, 1, 0, () -> x.weigh(11, weight));
        }
    }

    @Says(promise = 9, value = ", 3 or")
    static void weighRefusesAKeyThatThereIsNot() {
        SkipArchive x = Check.sample();
        for (int key : new int[] {0, 49, 51, 999}) {
            Check.refused(x, 3, key, () -> x.weigh(key, 0));
        }
    }

    @Says(promise = 9, value = "7; the reason is kept")
    static void weighRefusesTheSameWeight() {
        SkipArchive x = Check.sample();
        Check.refused(x, 7, 5, () -> x.weigh(10, 5));
        Check.refused(x, 7, 0, () -> x.weigh(40, 0));
        Check.refused(x, 7, 99, () -> x.weigh(50, 99));
        x.weigh(50, 0);
        Check.refused(x, 7, 0, () -> x.weigh(50, 0));
    }

    @Says(promise = 10, value = {"Tosses a coin that tells nothing.", "Returns 1 for heads, 0 for tails."})
    static void tossReturns1ForHeadsAnd0ForTails() {
        SkipArchive x = Check.sample();
        int[] heads = {0, 1, 0, 0, 1, 1, 0};
        for (int shown : heads) {
            Check.same(shown, x.toss());
        }
        Check.same("6 14 129 9414 7 3 0 4 8 0 10=5^1 20=9^3 30=9^2 40=0^1 50=99^5 60=7^2 .....", Check.state(x));
    }
}

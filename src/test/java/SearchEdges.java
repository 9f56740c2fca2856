/** Promises 11 to 31: a test of its own for each sentence that names an edge. */
final class SearchEdges {
    private static final Class<?> ILLEGAL = IllegalArgumentException.class;
    private static final Class<?> NONE = java.util.NoSuchElementException.class;
    private static final Class<?> INDEX = IndexOutOfBoundsException.class;

    private interface Range {
        int ask(int from, int to);
    }

    private SearchEdges() {
    }

    /** The keys 0 and 999 alone, with towers of 2 rungs and 1. */
    private static SkipArchive ends() {
        SkipArchive x = new SkipArchive();
        x.fileTall(999, 9, 1);
        x.fileTall(0, 3, 2);
        return x;
    }

    private static void failsForWrongKeys(Range range) {
        Check.failsBeyond(0, 999, ILLEGAL, from -> range.ask(from, 999));
        Check.failsBeyond(0, 999, ILLEGAL, to -> range.ask(0, to));
        Check.fails(ILLEGAL, () -> range.ask(-2, -1));
        Check.fails(ILLEGAL, () -> range.ask(1000, 1001));
    }

    private static void failsForTurnedRanges(Range range) {
        Check.fails(ILLEGAL, () -> range.ask(1, 0));
        Check.fails(ILLEGAL, () -> range.ask(30, 29));
        Check.fails(ILLEGAL, () -> range.ask(999, 0));
        Check.fails(ILLEGAL, () -> range.ask(999, 998));
    }

    @Says(promise = 11, value = {"Returns a number of a folder.", "what: 0 for its weight, 1 for the rungs of its tower, "
            + "2 for its rank, 3 for the steps of a search for it", "Returns the number."})
    static void folderOfTellsFourNumbers() {
        SkipArchive x = Check.sample();
        int[] due = {99, 5, 4, 7};
        for (int what = 0; what < 4; what++) {
            Check.same(due[what], x.folderOf(50, what));
        }
        x.forget(4);
        x.forget(3);
        Check.same(5, x.folderOf(50, 3));
        Check.same(0, ends().folderOf(0, 2));
        Check.same(1, ends().folderOf(999, 2));
        Check.same(2, ends().folderOf(999, 3));
    }

    @Says(promise = 11, value = "Throws IllegalArgumentException if the key is not from 0 to 999, ")
    static void folderOfOfAKeyOutOfRange() {
        for (int what = 0; what < 4; what++) {
            int number = what;
            Check.failsBeyond(0, 999, ILLEGAL, key -> ends().folderOf(key, number));
        }
    }

    @Says(promise = 11, value = "or what not from 0 to 3")
    static void folderOfOfAnotherNumber() {
        Check.failsBeyond(0, 3, ILLEGAL, what -> ends().folderOf(999, what));
        Check.failsBeyond(0, 3, ILLEGAL, what -> ends().folderOf(500, what));
    }

    @Says(promise = 11, value = "Throws NoSuchElementException if there is no folder with the key")
    static void folderOfWithoutAFolder() {
        for (int key : new int[] {1, 500, 998}) {
            Check.fails(NONE, () -> ends().folderOf(key, 0));
            Check.fails(NONE, () -> ends().folderOf(key, 3));
        }
        Check.fails(NONE, () -> new SkipArchive().folderOf(0, 1));
        Check.fails(NONE, () -> new SkipArchive().folderOf(999, 2));
    }

    @Says(promise = 12, value = {"Returns how many folders have lower keys than a key, whether there is such a folder "
            + "or not, by the spans of the rungs over which a search for it goes.", "Returns how many."})
    static void rankIsFrom0To24() {
        SkipArchive x = Check.full();
        Check.same(0, x.rank(0));
        Check.same(1, x.rank(1));
        Check.same(1, x.rank(10));
        Check.same(23, x.rank(230));
        Check.same(24, x.rank(231));
        Check.same(24, x.rank(999));
        Check.same(0, new SkipArchive().rank(999));
        Check.same(1, ends().rank(999));
        Check.same(0, ends().rank(0));
    }

    @Says(promise = 12, value = "Throws IllegalArgumentException if the key is not from 0 to 999")
    static void rankOfAKeyOutOfRange() {
        Check.failsBeyond(0, 999, ILLEGAL, key -> ends().rank(key));
        Check.failsBeyond(0, 999, ILLEGAL, key -> new SkipArchive().rank(key));
    }

    @Says(promise = 13, value = {"Returns the same by a second way: folder by folder, on the level 0.",
        "Returns how many."})
    static void rankAgainIsFrom0To24() {
        SkipArchive x = Check.full();
        Check.same(0, x.rankAgain(0));
        Check.same(1, x.rankAgain(1));
        Check.same(1, x.rankAgain(10));
        Check.same(23, x.rankAgain(230));
        Check.same(24, x.rankAgain(231));
        Check.same(24, x.rankAgain(999));
        Check.same(0, new SkipArchive().rankAgain(999));
        Check.same(1, ends().rankAgain(999));
        Check.same(0, ends().rankAgain(0));
    }

    @Says(promise = 13, value = "Throws IllegalArgumentException if the key is not from 0 to 999")
    static void rankAgainOfAKeyOutOfRange() {
        Check.failsBeyond(0, 999, ILLEGAL, key -> ends().rankAgain(key));
        Check.failsBeyond(0, 999, ILLEGAL, key -> new SkipArchive().rankAgain(key));
    }

    @Says(promise = 14, value = {"Returns the key of the folder with a rank.", "Returns the key."})
    static void keyAtTheFirstAndTheLastRank() {
        Check.same(0, Check.full().keyAt(0));
        Check.same(230, Check.full().keyAt(23));
        Check.same(0, ends().keyAt(0));
        Check.same(999, ends().keyAt(1));
    }

    @Says(promise = 14, value = "Throws NoSuchElementException if there is no such rank")
    static void keyAtNoSuchRank() {
        Check.failsBeyond(0, 1, NONE, rank -> ends().keyAt(rank));
        Check.failsBeyond(0, 23, NONE, rank -> Check.full().keyAt(rank));
        for (int rank : new int[] {-1, 0, 1, 23, 24}) {
            Check.fails(NONE, () -> new SkipArchive().keyAt(rank));
        }
        SkipArchive x = ends();
        x.drop(0);
        Check.fails(NONE, () -> x.keyAt(1));
        Check.same(999, x.keyAt(0));
    }

    @Says(promise = 15, value = {"Returns the steps of a search for a key: from the head, down.", "Returns how many."})
    static void stepsFrom0To28() {
        Check.same(0, new SkipArchive().steps(0));
        Check.same(0, Check.one(5, 1, 1).steps(5));
        Check.same(1, Check.one(5, 1, 1).steps(6));
        SkipArchive x = Check.tallest();
        Check.same(4, x.steps(0));
        Check.same(27, x.steps(23));
        Check.same(28, x.steps(24));
        Check.same(28, x.steps(999));
    }

    @Says(promise = 15, value = "Throws IllegalArgumentException if the key is not from 0 to 999")
    static void stepsOfAKeyOutOfRange() {
        Check.failsBeyond(0, 999, ILLEGAL, key -> ends().steps(key));
        Check.failsBeyond(0, 999, ILLEGAL, key -> new SkipArchive().steps(key));
    }

    @Says(promise = 16, value = {"Returns the same by a second way: back from the last folder with a lower key, or the "
            + "head, on the level 0: up whenever there is a rung on the next higher level that a search uses, or at the "
            + "head, and otherwise to the folder before on the level, until the place is reached where a search begins.",
        "Returns how many."})
    static void stepsAgainFrom0To28() {
        Check.same(0, new SkipArchive().stepsAgain(0));
        Check.same(0, Check.one(5, 1, 1).stepsAgain(5));
        Check.same(1, Check.one(5, 1, 1).stepsAgain(6));
        SkipArchive x = Check.tallest();
        Check.same(4, x.stepsAgain(0));
        Check.same(27, x.stepsAgain(23));
        Check.same(28, x.stepsAgain(24));
        Check.same(28, x.stepsAgain(999));
        x.forget(4);
        x.forget(1);
        Check.same(26, x.stepsAgain(999));
        Check.same(2, x.stepsAgain(0));
    }

    @Says(promise = 16, value = "Throws IllegalArgumentException if the key is not from 0 to 999")
    static void stepsAgainOfAKeyOutOfRange() {
        Check.failsBeyond(0, 999, ILLEGAL, key -> ends().stepsAgain(key));
        Check.failsBeyond(0, 999, ILLEGAL, key -> new SkipArchive().stepsAgain(key));
    }

    @Says(promise = 17, value = {"Returns a place of a search for a key.", "place: the number of the place, from 0",
        "Returns the key there, -1 for the head."})
    static void placeOfTheHeadIsMinus1() {
        Check.same(-1, new SkipArchive().placeOf(0, 0));
        Check.same(-1, Check.full().placeOf(999, 0));
        Check.same(0, ends().placeOf(999, 1));
        Check.same(0, ends().placeOf(1, 1));
        Check.same(23, Check.tallest().placeOf(999, 24));
        Check.same(22, Check.tallest().placeOf(23, 23));
    }

    @Says(promise = 17, value = "Throws IllegalArgumentException if the key is not from 0 to 999")
    static void placeOfOfAKeyOutOfRange() {
        Check.failsBeyond(0, 999, ILLEGAL, key -> ends().placeOf(key, 0));
        Check.failsBeyond(0, 999, ILLEGAL, key -> ends().placeOf(key, 9));
    }

    @Says(promise = 17, value = "Throws NoSuchElementException if there is no such place")
    static void placeOfNoSuchPlace() {
        Check.failsBeyond(0, 0, NONE, place -> new SkipArchive().placeOf(999, place));
        Check.failsBeyond(0, 0, NONE, place -> ends().placeOf(0, place));
        Check.failsBeyond(0, 1, NONE, place -> ends().placeOf(999, place));
        Check.failsBeyond(0, 24, NONE, place -> Check.tallest().placeOf(999, place));
        Check.failsBeyond(0, 23, NONE, place -> Check.tallest().placeOf(23, place));
    }

    @Says(promise = 18, value = {"Returns how often a search for a key falls.", "Returns how often."})
    static void fallsFrom0To4() {
        Check.same(0, new SkipArchive().falls(500));
        for (int rungs = 1; rungs <= 5; rungs++) {
            Check.same(rungs - 1, Check.one(500, 1, rungs).falls(0));
            Check.same(rungs - 1, Check.one(500, 1, rungs).falls(999));
        }
        SkipArchive x = Check.allForgotten();
        x.fileTall(500, 1, 5);
        Check.same(0, x.falls(500));
    }

    @Says(promise = 18, value = "Throws IllegalArgumentException if the key is not from 0 to 999")
    static void fallsOfAKeyOutOfRange() {
        Check.failsBeyond(0, 999, ILLEGAL, key -> ends().falls(key));
        Check.failsBeyond(0, 999, ILLEGAL, key -> new SkipArchive().falls(key));
    }

    @Says(promise = 19, value = {"Returns the greatest key of a folder that is not greater than a key.",
        "Returns the key of the folder."})
    static void floorTakesTheKeyItself() {
        Check.same(0, ends().floor(0));
        Check.same(0, ends().floor(998));
        Check.same(999, ends().floor(999));
        Check.same(230, Check.full().floor(999));
        Check.same(220, Check.full().floor(229));
        Check.same(230, Check.full().floor(230));
    }

    @Says(promise = 19, value = "Throws IllegalArgumentException if the key is not from 0 to 999")
    static void floorOfAKeyOutOfRange() {
        Check.failsBeyond(0, 999, ILLEGAL, key -> ends().floor(key));
        Check.failsBeyond(0, 999, ILLEGAL, key -> new SkipArchive().floor(key));
    }

    @Says(promise = 19, value = "Throws NoSuchElementException if there is none")
    static void floorBelowAllFolders() {
        for (int key : new int[] {0, 500, 999}) {
            Check.fails(NONE, () -> new SkipArchive().floor(key));
        }
        Check.fails(NONE, () -> Check.one(1, 1, 1).floor(0));
        Check.fails(NONE, () -> Check.one(999, 1, 1).floor(998));
        SkipArchive x = ends();
        x.drop(0);
        Check.fails(NONE, () -> x.floor(0));
    }

    @Says(promise = 20, value = {"Returns the least key of a folder that is not less than a key.",
        "Returns the key of the folder."})
    static void ceilingTakesTheKeyItself() {
        Check.same(0, ends().ceiling(0));
        Check.same(999, ends().ceiling(1));
        Check.same(999, ends().ceiling(999));
        Check.same(0, Check.full().ceiling(0));
        Check.same(230, Check.full().ceiling(221));
        Check.same(230, Check.full().ceiling(230));
    }

    @Says(promise = 20, value = "Throws IllegalArgumentException if the key is not from 0 to 999")
    static void ceilingOfAKeyOutOfRange() {
        Check.failsBeyond(0, 999, ILLEGAL, key -> ends().ceiling(key));
        Check.failsBeyond(0, 999, ILLEGAL, key -> new SkipArchive().ceiling(key));
    }

    @Says(promise = 20, value = "Throws NoSuchElementException if there is none")
    static void ceilingAboveAllFolders() {
        for (int key : new int[] {0, 500, 999}) {
            Check.fails(NONE, () -> new SkipArchive().ceiling(key));
        }
        Check.fails(NONE, () -> Check.one(998, 1, 1).ceiling(999));
        Check.fails(NONE, () -> Check.one(0, 1, 1).ceiling(1));
        Check.fails(NONE, () -> Check.full().ceiling(231));
    }

    private static void countsFoldersOfARange(Range range, Range rangeOfFull) {
        Check.same(2, range.ask(0, 999));
        Check.same(1, range.ask(0, 998));
        Check.same(1, range.ask(1, 999));
        Check.same(0, range.ask(1, 998));
        Check.same(1, range.ask(0, 0));
        Check.same(1, range.ask(999, 999));
        Check.same(0, range.ask(998, 998));
        Check.same(24, rangeOfFull.ask(0, 999));
        Check.same(24, rangeOfFull.ask(0, 230));
        Check.same(22, rangeOfFull.ask(1, 229));
        Check.same(2, rangeOfFull.ask(220, 999));
        Check.same(0, rangeOfFull.ask(231, 999));
    }

    @Says(promise = 21, value = {"Returns how many folders have keys in a range: by ranks.", "Returns how many."})
    static void countHasBothEndsOfTheRange() {
        countsFoldersOfARange(ends()::count, Check.full()::count);
        Check.same(0, new SkipArchive().count(0, 999));
    }

    @Says(promise = 21, value = "Throws IllegalArgumentException if a key is not from 0 to 999, ")
    static void countOfAKeyOutOfRange() {
        failsForWrongKeys((from, to) -> ends().count(from, to));
    }

    @Says(promise = 21, value = "or the last one is below the first one")
    static void countOfATurnedRange() {
        failsForTurnedRanges((from, to) -> ends().count(from, to));
    }

    @Says(promise = 22, value = {"Returns the same by a second way: by a stroll from the first folder of the range on.",
        "Returns how many."})
    static void countAgainHasBothEndsOfTheRange() {
        countsFoldersOfARange(ends()::countAgain, Check.full()::countAgain);
        Check.same(0, new SkipArchive().countAgain(0, 999));
    }

    @Says(promise = 22, value = "Throws IllegalArgumentException if a key is not from 0 to 999, ")
    static void countAgainOfAKeyOutOfRange() {
        failsForWrongKeys((from, to) -> ends().countAgain(from, to));
    }

    @Says(promise = 22, value = "or the last one is below the first one")
    static void countAgainOfATurnedRange() {
        failsForTurnedRanges((from, to) -> ends().countAgain(from, to));
    }

    @Says(promise = 23, value = {"Returns the weights of the folders with keys in a range together.", "Returns the sum."})
    static void weightInHasBothEndsOfTheRange() {
        SkipArchive x = ends();
        Check.same(12, x.weightIn(0, 999));
        Check.same(3, x.weightIn(0, 998));
        Check.same(9, x.weightIn(1, 999));
        Check.same(0, x.weightIn(1, 998));
        Check.same(3, x.weightIn(0, 0));
        Check.same(9, x.weightIn(999, 999));
        Check.same(0, new SkipArchive().weightIn(0, 999));
        SkipArchive y = new SkipArchive();
        for (int key = 0; key < 24; key++) {
            y.fileTall(key, 99, 1);
        }
        Check.same(24 * 99, y.weightIn(0, 999));
    }

    @Says(promise = 23, value = "Throws IllegalArgumentException if a key is not from 0 to 999, ")
    static void weightInOfAKeyOutOfRange() {
        failsForWrongKeys((from, to) -> ends().weightIn(from, to));
    }

    @Says(promise = 23, value = "or the last one is below the first one")
    static void weightInOfATurnedRange() {
        failsForTurnedRanges((from, to) -> ends().weightIn(from, to));
    }

    @Says(promise = 24, value = {"Returns the heaviest folder with a key in a range, ", "Returns its key."})
    static void heaviestInHasBothEndsOfTheRange() {
        SkipArchive x = ends();
        Check.same(999, x.heaviestIn(0, 999));
        Check.same(0, x.heaviestIn(0, 998));
        Check.same(999, x.heaviestIn(1, 999));
        Check.same(0, x.heaviestIn(0, 0));
        Check.same(999, x.heaviestIn(999, 999));
        Check.same(5, Check.one(5, 0, 1).heaviestIn(0, 999));
    }

    @Says(promise = 24, value = "of several the one with the least key.")
    static void heaviestInOfSeveralHasTheLeastKey() {
        SkipArchive x = ends();
        x.weigh(0, 9);
        x.fileTall(500, 9, 5);
        Check.same(0, x.heaviestIn(0, 999));
        Check.same(500, x.heaviestIn(1, 999));
        x.weigh(999, 10);
        Check.same(999, x.heaviestIn(0, 999));
        SkipArchive y = new SkipArchive();
        y.fileTall(8, 0, 1);
        y.fileTall(7, 0, 1);
        Check.same(7, y.heaviestIn(0, 999));
    }

    @Says(promise = 24, value = "Throws IllegalArgumentException if a key is not from 0 to 999, ")
    static void heaviestInOfAKeyOutOfRange() {
        failsForWrongKeys((from, to) -> ends().heaviestIn(from, to));
    }

    @Says(promise = 24, value = "or the last one is below the first one")
    static void heaviestInOfATurnedRange() {
        failsForTurnedRanges((from, to) -> ends().heaviestIn(from, to));
    }

    @Says(promise = 24, value = "Throws NoSuchElementException if there is none")
    static void heaviestInOfARangeWithoutFolders() {
        Check.fails(NONE, () -> new SkipArchive().heaviestIn(0, 999));
        Check.fails(NONE, () -> ends().heaviestIn(1, 998));
        Check.fails(NONE, () -> ends().heaviestIn(500, 500));
        Check.fails(NONE, () -> Check.full().heaviestIn(231, 999));
        Check.fails(NONE, () -> Check.full().heaviestIn(221, 229));
    }

    @Says(promise = 25, value = {"Returns how many folders a level has.", "Returns how many."})
    static void levelSizeFrom0To24() {
        for (int level = 0; level < 5; level++) {
            Check.same(0, new SkipArchive().levelSize(level));
            Check.same(24, Check.tallest().levelSize(level));
        }
        int[] sizes = {24, 19, 14, 9, 4};
        for (int level = 0; level < 5; level++) {
            Check.same(sizes[level], Check.full().levelSize(level));
        }
    }

    @Says(promise = 25, value = "Throws IndexOutOfBoundsException if the level is not from 0 to 4")
    static void levelSizeOfALevelOutOfRange() {
        Check.failsBeyond(0, 4, INDEX, level -> ends().levelSize(level));
    }

    @Says(promise = 26, value = {"Returns a folder of a level.", "place: its place on the level, from 0",
        "Returns its key."})
    static void levelAtTheFirstAndTheLastPlace() {
        SkipArchive x = Check.full();
        int[] firsts = {0, 10, 20, 30, 40};
        int[] lasts = {230, 230, 230, 230, 190};
        int[] sizes = {24, 19, 14, 9, 4};
        for (int level = 0; level < 5; level++) {
            Check.same(firsts[level], x.levelAt(level, 0));
            Check.same(lasts[level], x.levelAt(level, sizes[level] - 1));
        }
    }

    @Says(promise = 26, value = "Throws IndexOutOfBoundsException if the level is not from 0 to 4")
    static void levelAtOfALevelOutOfRange() {
        Check.failsBeyond(0, 4, INDEX, level -> ends().levelAt(level, 0));
        Check.failsBeyond(0, 4, INDEX, level -> ends().levelAt(level, -1));
    }

    @Says(promise = 26, value = "Throws NoSuchElementException if there is no such place")
    static void levelAtNoSuchPlace() {
        Check.failsBeyond(0, 1, NONE, place -> ends().levelAt(0, place));
        Check.failsBeyond(0, 0, NONE, place -> ends().levelAt(1, place));
        Check.failsBeyond(0, 23, NONE, place -> Check.full().levelAt(0, place));
        Check.failsBeyond(0, 3, NONE, place -> Check.full().levelAt(4, place));
        Check.fails(NONE, () -> ends().levelAt(2, 0));
        Check.fails(NONE, () -> new SkipArchive().levelAt(0, 0));
    }

    @Says(promise = 27, value = {"Returns the span of a rung.", "Returns the span."})
    static void spanFrom1On() {
        Check.same(1, ends().span(0, 0));
        Check.same(2, ends().span(0, 1));
        Check.same(1, ends().span(999, 0));
        Check.same(1, Check.one(5, 1, 5).span(5, 4));
        Check.same(5, Check.full().span(40, 4));
        Check.same(5, Check.full().span(190, 4));
    }

    @Says(promise = 27, value = "Throws IndexOutOfBoundsException if the level is not from 0 to 4")
    static void spanOfALevelOutOfRange() {
        Check.failsBeyond(0, 4, INDEX, level -> Check.one(5, 1, 5).span(5, level));
        Check.failsBeyond(0, 4, INDEX, level -> ends().span(1000, level));
        Check.failsBeyond(0, 4, INDEX, level -> ends().span(500, level));
    }

    @Says(promise = 27, value = "Throws IllegalArgumentException if the key is not from 0 to 999")
    static void spanOfAKeyOutOfRange() {
        Check.failsBeyond(0, 999, ILLEGAL, key -> ends().span(key, 0));
        Check.failsBeyond(0, 999, ILLEGAL, key -> ends().span(key, 4));
    }

    @Says(promise = 27, value = "Throws NoSuchElementException if there is no folder with the key, ")
    static void spanWithoutAFolder() {
        Check.fails(NONE, () -> ends().span(1, 0));
        Check.fails(NONE, () -> ends().span(998, 4));
        Check.fails(NONE, () -> new SkipArchive().span(0, 0));
    }

    @Says(promise = 27, value = "or it has no rung on the level")
    static void spanWithoutARung() {
        Check.fails(NONE, () -> ends().span(999, 1));
        Check.fails(NONE, () -> ends().span(0, 2));
        Check.fails(NONE, () -> ends().span(0, 4));
        SkipArchive x = ends();
        x.lower(0);
        Check.fails(NONE, () -> x.span(0, 1));
    }

    @Says(promise = 28, value = {"Returns the span of the head on a level, as if it was a folder with a rung on each "
            + "level, ahead of all.", "Returns the span, with the first folder of the level counted in."})
    static void headSpanFrom1To25() {
        SkipArchive x = Check.full();
        for (int level = 0; level < 5; level++) {
            Check.same(1, new SkipArchive().headSpan(level));
            Check.same(level + 1, x.headSpan(level));
        }
        SkipArchive y = new SkipArchive();
        for (int key = 0; key < 24; key++) {
            y.fileTall(key, 1, 1);
        }
        Check.same(1, y.headSpan(0));
        Check.same(25, y.headSpan(1));
        y.raise(23);
        Check.same(24, y.headSpan(1));
        y.forget(1);
        Check.same(24, y.headSpan(1));
    }

    @Says(promise = 28, value = "Throws IndexOutOfBoundsException if the level is not from 0 to 4")
    static void headSpanOfALevelOutOfRange() {
        Check.failsBeyond(0, 4, INDEX, level -> ends().headSpan(level));
    }

    @Says(promise = 29, value = {"Returns whether a level is forgotten.", "Returns whether it is so."})
    static void isForgottenOfEachLevel() {
        for (int forgotten = 1; forgotten < 5; forgotten++) {
            SkipArchive x = new SkipArchive();
            x.forget(forgotten);
            for (int level = 0; level < 5; level++) {
                Check.same(level == forgotten, x.isForgotten(level));
                Check.same(level > 0, Check.allForgotten().isForgotten(level));
                Check.same(false, new SkipArchive().isForgotten(level));
            }
        }
    }

    @Says(promise = 29, value = "Throws IndexOutOfBoundsException if the level is not from 0 to 4")
    static void isForgottenOfALevelOutOfRange() {
        Check.failsBeyond(0, 4, INDEX, level -> Check.allForgotten().isForgotten(level));
    }

    @Says(promise = 30, value = {"Returns the folder whose search has the most steps, ", "Returns its key."})
    static void longestSearchOfOneFolderAndOfAll() {
        Check.same(0, Check.one(0, 1, 1).longestSearch());
        Check.same(999, ends().longestSearch());
        Check.same(23, Check.tallest().longestSearch());
        SkipArchive x = Check.sample();
        Check.same(50, x.longestSearch());
        x.forget(1);
        x.forget(2);
        x.forget(3);
        Check.same(50, x.longestSearch());
        x.forget(4);
        Check.same(60, x.longestSearch());
    }

    @Says(promise = 30, value = "of several the one with the least key.")
    static void longestSearchOfSeveralHasTheLeastKey() {
        SkipArchive x = new SkipArchive();
        x.fileTall(30, 1, 1);
        x.fileTall(20, 1, 2);
        x.fileTall(10, 1, 1);
        x.fileTall(25, 1, 2);
        Check.same(2, x.steps(25));
        Check.same(2, x.steps(20));
        Check.same(3, x.steps(30));
        Check.same(30, x.longestSearch());
        x.drop(30);
        Check.same(20, x.longestSearch());
    }

    @Says(promise = 30, value = "Throws NoSuchElementException if there are no folders")
    static void longestSearchWithoutFolders() {
        Check.fails(NONE, () -> new SkipArchive().longestSearch());
        SkipArchive x = ends();
        x.drop(0);
        Check.same(999, x.longestSearch());
        x.drop(999);
        Check.fails(NONE, x::longestSearch);
    }

    @Says(promise = 31, value = {"Returns how many rungs the tower of a folder would get that was filed now.",
        "Returns how many."})
    static void nextRungsFrom1To5WithoutATossedCoin() {
        int[] tossed = {0, 1, 4, 27, 26, 31};
        int[] rungs = {1, 2, 3, 4, 5, 5};
        for (int i = 0; i < tossed.length; i++) {
            SkipArchive x = Check.tossed(tossed[i]);
            String before = Check.everything(x);
            Check.same(rungs[i], x.nextRungs());
            Check.same(rungs[i], x.nextRungs());
            Check.same(before, Check.everything(x));
            Check.same(rungs[i], x.file(5, 5));
        }
    }
}

/** Promises 38 to 43: a test of its own for each sentence that names an edge. */
final class AccountsEdges {
    private static final Class<?> ILLEGAL = IllegalArgumentException.class;
    private static final Class<?> REFUSED = UnsupportedOperationException.class;
    private static final Class<?> STATE = IllegalStateException.class;
    private static final Class<?> ARITHMETIC = ArithmeticException.class;

    private AccountsEdges() {
    }

    @Says(promise = 38, value = {"Returns the mean number of steps of the searches for all folders: the sum divided by "
            + "their number, both as doubles.", "Returns the mean."})
    static void meanStepsIsADouble() {
        Check.same(0.0, Check.one(5, 1, 1).meanSteps());
        Check.same(4.0, Check.one(5, 1, 5).meanSteps());
        SkipArchive x = new SkipArchive();
        x.fileTall(1, 1, 1);
        x.fileTall(2, 1, 1);
        Check.same(0.5, x.meanSteps());
        x.fileTall(3, 1, 1);
        Check.same(1.0, x.meanSteps());
        x.raise(2);
        Check.same(5.0 / 3.0, x.meanSteps());
        Check.same((24 * 4 + 23 * 12) / 24.0, Check.tallest().meanSteps());
    }

    @Says(promise = 38, value = "Throws ArithmeticException if there are none")
    static void meanStepsWithoutFolders() {
        Check.fails(ARITHMETIC, () -> new SkipArchive().meanSteps());
        SkipArchive x = Check.one(5, 1, 5);
        x.drop(5);
        Check.fails(ARITHMETIC, x::meanSteps);
        x.undo();
        Check.same(4.0, x.meanSteps());
    }

    @Says(promise = 39, value = {"Returns the mean number of rungs of the towers, both numbers as floats.",
        "Returns the mean."})
    static void meanRungsIsAFloat() {
        Check.same(1.0f, Check.one(5, 1, 1).meanRungs());
        Check.same(5.0f, Check.tallest().meanRungs());
        SkipArchive x = new SkipArchive();
        x.fileTall(1, 1, 1);
        x.fileTall(2, 1, 2);
        Check.same(1.5f, x.meanRungs());
        x.fileTall(3, 1, 1);
        Check.same(4.0f / 3.0f, x.meanRungs());
        Check.same(70.0f / 24.0f, Check.full().meanRungs());
    }

    @Says(promise = 39, value = "Throws ArithmeticException if there are none")
    static void meanRungsWithoutFolders() {
        Check.fails(ARITHMETIC, () -> new SkipArchive().meanRungs());
        SkipArchive x = Check.one(5, 1, 5);
        x.drop(5);
        Check.fails(ARITHMETIC, x::meanRungs);
        x.undo();
        Check.same(5.0f, x.meanRungs());
    }

    private static void accounts(SkipArchive x, int... due) {
        for (int what = 0; what < 10; what++) {
            Check.same(due[what], x.account(what));
        }
    }

    @Says(promise = 40, value = {"Returns an account.", "what: 0 for the folders, 1 for all rungs, 2 for the weights "
            + "together, 3 for the coin number, 4 for the coins tossed so far, 5 for the heads among them, 6 for the "
            + "levels that are forgotten, ", "8 for the changes that can be undone, 9 for the characters in the text "
            + "buffer", "Returns the account."})
    static void accountsOfAnEmptyAndAFullArchive() {
        accounts(new SkipArchive(), 0, 0, 0, 1, 0, 0, 0, -1, 0, 0);
        SkipArchive x = Check.allForgotten();
        for (int key = 0; key < 24; key++) {
            x.fileTall(key, 99, 5);
        }
        Check.appendAll(x, Check.tosses(30) + ";");
        accounts(x, 24, 24 * 5, 24 * 99, 1, 0, 0, 4, 4, 8, 60);
        SkipArchive y = Check.tossed(4);
        y.file(5, 7);
        accounts(y, 1, 3, 7, 9414, 7, 3, 0, 2, 5, 0);
    }

    @Says(promise = 40, value = "7 for the highest level that has a folder, or -1, ")
    static void theHighestLevelOrMinus1() {
        SkipArchive x = new SkipArchive();
        Check.same(-1, x.account(7));
        for (int rungs = 1; rungs <= 5; rungs++) {
            Check.same(rungs - 1, Check.one(5, 1, rungs).account(7));
        }
        x.fileTall(5, 1, 3);
        x.fileTall(6, 1, 1);
        Check.same(2, x.account(7));
        x.drop(5);
        Check.same(0, x.account(7));
        x.drop(6);
        Check.same(-1, x.account(7));
    }

    @Says(promise = 40, value = "4 for the coins tossed so far, 5 for the heads among them, ")
    static void coinsAreTossedBackByUndo() {
        SkipArchive x = Check.tossed(4);
        x.file(5, 7);
        x.undo();
        Check.same(2221, x.account(3));
        Check.same(4, x.account(4));
        Check.same(1, x.account(5));
        Check.same(3, x.file(5, 7));
    }

    @Says(promise = 40, value = "Throws IllegalArgumentException if what is not from 0 to 9")
    static void accountOfAnotherNumber() {
        Check.failsBeyond(0, 9, ILLEGAL, what -> new SkipArchive().account(what));
        Check.failsBeyond(0, 9, ILLEGAL, what -> Check.full().account(what));
    }

    @Says(promise = 41, value = {"Undoes the latest call that can be undone.",
        "Returns the number of calls that can still be undone."})
    static void undoReturns7To0() {
        SkipArchive x = Check.tossed(8);
        for (int left = 7; left >= 0; left--) {
            Check.same(left, x.undo());
            Check.same(left, x.account(8));
            Check.same(left, x.account(4));
        }
        SkipArchive y = Check.tossed(1);
        Check.same(0, y.undo());
    }

    /** Often enough for what is kept to go round several times. */
    @Says(promise = 41, value = "Undoes the latest call that can be undone.")
    static void undoAndChangeInTurns() {
        SkipArchive x = new SkipArchive();
        int tossed = 0;
        int kept = 0;
        for (int turn = 0; turn < 40; turn++) {
            for (int i = 0; i < 3 + turn % 4; i++) {
                x.toss();
                tossed++;
                kept = Math.min(kept + 1, 8);
            }
            for (int i = 0; i < turn % 5; i++) {
                kept--;
                tossed--;
                Check.same(kept, x.undo());
            }
            Check.same(tossed, x.account(4));
            Check.same(kept, x.account(8));
        }
    }

    @Says(promise = 41, value = "Throws IllegalStateException if there is none")
    static void undoWithoutAChange() {
        Check.fails(STATE, () -> new SkipArchive().undo());
        SkipArchive x = Check.tossed(10);
        for (int i = 0; i < 8; i++) {
            x.undo();
        }
        Check.fails(STATE, x::undo);
        Check.fails(STATE, x::undo);
        Check.same(2, x.account(4));
        SkipArchive y = new SkipArchive();
        Check.fails(REFUSED, () -> y.drop(5));
        Check.fails(STATE, y::undo);
    }

    @Says(promise = 42, value = {"Saves all that can be undone, ", "Returns the number of folders."})
    static void saveOfAnEmptyAndAFullArchive() {
        SkipArchive x = new SkipArchive();
        Check.same(0, x.save());
        x.fileTall(5, 5, 5);
        x.toss();
        x.forget(1);
        Check.same(0, x.restore());
        Check.same("0 0 0 1 0 0 0 -1 0 0 .....", Check.state(x));
        SkipArchive y = Check.full();
        y.toss();
        y.forget(4);
        String before = Check.state(y).replace(" 8 0 0=", " 0 0 0=");
        Check.same(24, y.save());
        y.drop(0);
        y.weigh(10, 99);
        y.raise(20);
        y.lower(30);
        y.toss();
        y.recall(4);
        Check.same(24, y.restore());
        Check.same(before, Check.state(y));
    }

    @Says(promise = 42, value = "in place of an earlier snapshot.")
    static void saveInPlaceOfAnEarlierSnapshot() {
        SkipArchive x = Check.one(5, 5, 5);
        Check.same(1, x.save());
        x.drop(5);
        x.fileTall(6, 6, 1);
        x.fileTall(7, 7, 2);
        Check.same(2, x.save());
        x.drop(6);
        Check.same(2, x.restore());
        Check.same("0: 6 7", Check.line(x, 0));
    }

    @Says(promise = 43, value = {"Restores what was saved; ", "Returns the number of folders."})
    static void restoreReturnsTheNumberOfSavedFolders() {
        SkipArchive x = Check.full();
        x.save();
        for (int rank = 23; rank >= 0; rank--) {
            x.drop(x.keyAt(rank));
        }
        Check.same(0, x.account(0));
        Check.same(24, x.restore());
        Check.same(24, x.account(0));
        Check.same(70, x.account(1));
        Check.same(23 * 12, x.account(2));
    }

    @Says(promise = 43, value = "the snapshot is kept.")
    static void theSnapshotIsKept() {
        SkipArchive x = Check.one(5, 5, 2);
        x.save();
        for (int times = 0; times < 3; times++) {
            x.weigh(5, 6);
            x.raise(5);
            x.toss();
            x.forget(3);
            x.file(9, 9);
            Check.same(1, x.restore());
            Check.same("1 2 5 1 0 0 0 1 0 0 5=5^2 .....", Check.state(x));
        }
        x.raise(5);
        Check.same(0, x.undo());
        Check.same(1, x.restore());
    }

    @Says(promise = 43, value = "Throws IllegalStateException if there is no snapshot")
    static void restoreWithoutASnapshot() {
        Check.fails(STATE, () -> new SkipArchive().restore());
        SkipArchive x = Check.full();
        Check.fails(STATE, x::restore);
        Check.same(24, x.account(0));
        Check.same(8, x.account(8));
        x.save();
        Check.same(24, x.restore());
    }
}

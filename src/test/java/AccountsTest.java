/** Promises 38 to 43: means, accounts, undo and the snapshot. */
final class AccountsTest {
    private static final Class<?> ILLEGAL = IllegalArgumentException.class;
    private static final Class<?> REFUSED = UnsupportedOperationException.class;
    private static final Class<?> STATE = IllegalStateException.class;
    private static final Class<?> ARITHMETIC = ArithmeticException.class;

    private AccountsTest() {
    }

    static void promise38MeanSteps() {
        SkipArchive x = Check.sample();
        Check.same(32.0 / 6.0, x.meanSteps());
        x.forget(4);
        x.forget(2);
        Check.same(20.0 / 6.0, x.meanSteps());
        SkipArchive y = new SkipArchive();
        Check.fails(ARITHMETIC, y::meanSteps);
        y.fileTall(3, 3, 1);
        Check.same(0.0, y.meanSteps());
        y.drop(3);
        Check.fails(ARITHMETIC, y::meanSteps);
    }

    static void promise39MeanRungs() {
        SkipArchive x = Check.sample();
        Check.same(14.0f / 6.0f, x.meanRungs());
        x.forget(1);
        Check.same(14.0f / 6.0f, x.meanRungs());
        SkipArchive y = new SkipArchive();
        Check.fails(ARITHMETIC, y::meanRungs);
        y.fileTall(3, 3, 5);
        Check.same(5.0f, y.meanRungs());
        y.drop(3);
        Check.fails(ARITHMETIC, y::meanRungs);
    }

    static void promise40Account() {
        SkipArchive x = Check.sample();
        x.toss();
        x.toss();
        x.forget(3);
        x.forget(4);
        Check.appendAll(x, "abc");
        int[] due = {6, 14, 129, 6735, 2, 1, 2, 4, 8, 3};
        for (int what = 0; what < due.length; what++) {
            Check.same(due[what], x.account(what));
        }
        Check.fails(ILLEGAL, () -> x.account(-1));
        Check.fails(ILLEGAL, () -> x.account(10));
        Check.fails(ILLEGAL, () -> x.account(Integer.MIN_VALUE));
        Check.fails(ILLEGAL, () -> x.account(Integer.MAX_VALUE));
    }

    static void promise40HighestLevel() {
        SkipArchive x = new SkipArchive();
        Check.same(-1, x.account(7));
        x.forget(1);
        Check.same(-1, x.account(7));
        x.fileTall(1, 1, 1);
        Check.same(0, x.account(7));
        x.raise(1);
        Check.same(1, x.account(7));
        x.drop(1);
        Check.same(-1, x.account(7));
    }

    static void promise41UndoesEveryChange() {
        String[] states = new String[9];
        changedEightTimes(states);
        SkipArchive x = changedEightTimes(new String[0]);
        for (int left = 7; left >= 0; left--) {
            Check.same(left, x.undo());
            Check.same(states[left], Check.state(x));
        }
        Check.fails(STATE, x::undo);
        Check.same(states[0], Check.state(x));
    }

    /** Fills in what there was at first and behind each of the changes, as far as there is room for it. */
    private static SkipArchive changedEightTimes(String[] states) {
        SkipArchive x = Check.sample();
        x.save();
        x.restore();
        Runnable[] changes = {() -> x.file(5, 5), () -> x.fileTall(45, 4, 4), () -> x.drop(10), () -> x.raise(60),
            () -> x.lower(50), () -> x.weigh(40, 98), () -> x.forget(2), () -> Check.commands(x, "r2;t;-20")};
        for (int i = 0; i <= changes.length; i++) {
            if (i < states.length) {
                states[i] = Check.state(x);
            }
            if (i < changes.length) {
                changes[i].run();
            }
        }
        return x;
    }

    static void promise41UndoesTossAndRecall() {
        SkipArchive x = new SkipArchive();
        x.forget(1);
        x.toss();
        x.toss();
        x.recall(1);
        Check.same(3, x.undo());
        Check.same(true, x.isForgotten(1));
        Check.same(2, x.undo());
        Check.same("0 0 0 92 1 0 1 -1 2 0 .!...", Check.state(x));
        Check.same(1, x.toss());
        Check.same(2, x.undo());
        Check.same(1, x.undo());
        Check.same(0, x.undo());
        Check.same("0 0 0 1 0 0 0 -1 0 0 .....", Check.state(x));
    }

    static void promise41OnlyTheLatestEight() {
        SkipArchive x = Check.tossed(20);
        Check.same(8, x.account(8));
        for (int left = 7; left >= 0; left--) {
            Check.same(left, x.undo());
        }
        Check.same(12, x.account(4));
        Check.fails(STATE, x::undo);
        x.toss();
        Check.same(1, x.account(8));
        Check.same(0, x.undo());
        Check.same(12, x.account(4));
    }

    static void promise41WhatStays() {
        SkipArchive x = new SkipArchive();
        x.toss();
        Check.fails(REFUSED, () -> x.drop(5));
        Check.fails(ILLEGAL, () -> Check.commands(x, "tx"));
        x.line(3);
        Check.appendAll(x, "t;t");
        Check.same(0, x.undo());
        Check.same(3, x.account(9));
        Check.same(1, x.faultPosition());
        Check.reason(x, 3, 5, 0);
        Check.same("3:", Check.writtenLine(x, 2));
        Check.same(2, x.commands());
        Check.same(0, x.undo());
        Check.same(0, x.account(9));
    }

    static void promise41NoChangeByQuestions() {
        SkipArchive x = Check.sample();
        int before = x.account(8);
        x.steps(30);
        x.line(0);
        x.append('t');
        x.nextRungs();
        x.save();
        Check.fails(REFUSED, () -> x.drop(5));
        Check.same(before, x.account(8));
    }

    static void promise42Save() {
        SkipArchive x = new SkipArchive();
        Check.same(0, x.save());
        x.fileTall(1, 1, 1);
        x.fileTall(2, 2, 2);
        Check.same(2, x.save());
        Check.same(2, x.account(8));
        x.drop(1);
        Check.same(1, x.undo() - 1);
        x.drop(2);
        x.drop(1);
        Check.same(2, x.restore());
        Check.same("2 3 3 1 0 0 0 1 0 0 1=1^1 2=2^2 .....", Check.state(x));
    }

    static void promise43Restore() {
        SkipArchive x = Check.sample();
        Check.fails(STATE, x::restore);
        x.toss();
        x.toss();
        x.forget(2);
        x.save();
        x.forget(3);
        x.recall(2);
        x.drop(50);
        x.weigh(10, 6);
        x.raise(20);
        x.file(1, 1);
        Check.appendAll(x, "xy");
        Check.same(6, x.restore());
        String due = "6 14 129 6735 2 1 1 4 0 2 10=5^1 20=9^3 30=9^2 40=0^1 50=99^5 60=7^2 ..!..";
        Check.same(due, Check.state(x));
        Check.fails(STATE, x::undo);
        x.drop(60);
        x.toss();
        Check.same(6, x.restore());
        Check.same(due, Check.state(x));
    }

    static void promise43WhatStays() {
        SkipArchive x = new SkipArchive();
        x.save();
        Check.fails(REFUSED, () -> x.drop(5));
        Check.fails(ILLEGAL, () -> Check.commands(x, "tx"));
        x.line(3);
        Check.appendAll(x, "t;t");
        Check.same(0, x.restore());
        Check.same(3, x.account(9));
        Check.same(1, x.faultPosition());
        Check.reason(x, 3, 5, 0);
        Check.same("3:", Check.writtenLine(x, 2));
    }

    static void promise43NoSnapshot() {
        SkipArchive x = Check.tossed(2);
        Check.fails(STATE, x::restore);
        Check.same(2, x.account(8));
        Check.same(2, x.account(4));
    }
}

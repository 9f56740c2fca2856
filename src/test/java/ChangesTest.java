/** Promises 1 to 10: a new object, and what changes it. */
final class ChangesTest {
    private static final Class<?> ILLEGAL = IllegalArgumentException.class;
    private static final Class<?> NONE = java.util.NoSuchElementException.class;
    private static final Class<?> STATE = IllegalStateException.class;
    private static final Class<?> INDEX = IndexOutOfBoundsException.class;

    private ChangesTest() {
    }

    static void promise01NewObject() {
        SkipArchive x = new SkipArchive();
        Check.same("0 0 0 1 0 0 0 -1 0 0 .....", Check.state(x));
        Check.same(-1, x.faultPosition());
        Check.fails(NONE, () -> x.reason(0));
        Check.fails(INDEX, () -> x.character(0));
        Check.fails(STATE, x::undo);
        Check.fails(STATE, x::restore);
        Check.fails(NONE, () -> x.keyAt(0));
        Check.fails(NONE, x::longestSearch);
        Check.fails(ArithmeticException.class, x::meanSteps);
        Check.fails(ArithmeticException.class, x::meanRungs);
        Check.same(0, x.steps(500));
        Check.same(0, x.stepsAgain(500));
        Check.same(-1, x.placeOf(500, 0));
        Check.fails(NONE, () -> x.placeOf(500, 1));
        Check.same(0, x.rank(999));
        Check.same(1, x.headSpan(0));
        Check.same(1, x.headSpan(4));
        Check.same(0, x.levelSize(0));
        Check.same(2, x.line(0));
        Check.fails(ILLEGAL, x::commands);
    }

    static void promise01TwoObjectsAreApart() {
        SkipArchive x = Check.sample();
        SkipArchive y = new SkipArchive();
        Check.same("0 0 0 1 0 0 0 -1 0 0 .....", Check.state(y));
        y.forget(1);
        Check.same(false, x.isForgotten(1));
    }

    static void promise02FilesByCoins() {
        SkipArchive x = Check.tossed(3);
        Check.same(1, x.file(40, 7));
        Check.same(3, x.file(999, 0));
        Check.same(1, x.file(0, 99));
        Check.same("3 5 106 7241 8 3 0 2 6 0 0=99^1 40=7^1 999=0^3 .....", Check.state(x));
    }

    static void promise02NoCoinBehindFiveRungs() {
        SkipArchive x = Check.tossed(26);
        Check.same(5, x.file(1, 1));
        Check.same(30, x.account(4));
        SkipArchive y = Check.tossed(31);
        Check.same(5, y.file(1, 1));
        Check.same(35, y.account(4));
    }

    static void promise02Refused() {
        SkipArchive x = Check.sample();
        Check.refused(x, 1, 0, () -> x.file(-1, 5));
        Check.refused(x, 4, 2, () -> x.file(30, 5));
        Check.refused(x, 1, 0, () -> x.file(1000, 5));
        Check.refused(x, 4, 0, () -> x.file(10, 99));
        Check.refused(x, 1, 0, () -> x.file(30, -1));
        Check.refused(x, 1, 0, () -> x.file(30, 100));
    }

    static void promise02RefusedExtremes() {
        SkipArchive x = new SkipArchive();
        Check.refused(x, 1, 0, () -> x.file(Integer.MIN_VALUE, 0));
        Check.refused(x, 1, 0, () -> x.file(Integer.MAX_VALUE, 0));
        Check.refused(x, 1, 0, () -> x.file(0, Integer.MIN_VALUE));
        Check.refused(x, 1, 0, () -> x.file(0, Integer.MAX_VALUE));
    }

    static void promise02RefusedWhenFull() {
        Check.refused(Check.full(), 2, 24, x -> x.file(5, 5));
        Check.refused(Check.full(), 4, 23, x -> x.file(230, 5));
        Check.refused(Check.full(), 1, 0, x -> x.file(5, 100));
        SkipArchive x = Check.full();
        x.drop(0);
        Check.same(1, x.file(5, 5));
        Check.same(24, x.account(0));
    }

    static void promise03FilesTall() {
        SkipArchive x = new SkipArchive();
        Check.same(0, x.fileTall(500, 50, 5));
        Check.same(0, x.fileTall(0, 0, 1));
        Check.same(2, x.fileTall(999, 99, 2));
        Check.same(1, x.fileTall(7, 1, 3));
        Check.same("4 11 150 1 0 0 0 4 4 0 0=0^1 7=1^3 500=50^5 999=99^2 .....", Check.state(x));
    }

    static void promise03Refused() {
        Check.refused(Check.sample(), 1, 0, x -> x.fileTall(-1, 5, 1));
        Check.refused(Check.sample(), 4, 5, x -> x.fileTall(60, 5, 5));
        Check.refused(Check.sample(), 1, 0, x -> x.fileTall(1000, 5, 1));
        Check.refused(Check.sample(), 1, 0, x -> x.fileTall(60, -1, 1));
        Check.refused(Check.sample(), 1, 0, x -> x.fileTall(60, 100, 1));
        Check.refused(Check.sample(), 1, 0, x -> x.fileTall(60, 5, 0));
        Check.refused(Check.sample(), 1, 0, x -> x.fileTall(5, 5, 6));
    }

    static void promise03RefusedWhenFull() {
        Check.refused(Check.full(), 2, 24, x -> x.fileTall(999, 5, 1));
        Check.refused(Check.full(), 4, 1, x -> x.fileTall(10, 5, 1));
        Check.refused(Check.full(), 1, 0, x -> x.fileTall(5, 5, Integer.MIN_VALUE));
    }

    static void promise04Drops() {
        SkipArchive x = Check.sample();
        Check.same(5, x.drop(50));
        Check.same("5 9 30 1 0 0 0 2 7 0 10=5^1 20=9^3 30=9^2 40=0^1 60=7^2 .....", Check.state(x));
        Check.same(4, x.drop(10));
        Check.same(3, x.drop(60));
        Check.same(2, x.drop(30));
        Check.same(1, x.drop(20));
        Check.same(0, x.drop(40));
        Check.same("0 0 0 1 0 0 0 -1 8 0 .....", Check.state(x));
        Check.same(0, x.fileTall(40, 1, 1));
    }

    static void promise04Refused() {
        SkipArchive x = Check.sample();
        Check.refused(x, 3, 41, () -> x.drop(41));
        Check.refused(x, 1, 0, () -> x.drop(-1));
        Check.refused(x, 3, 999, () -> x.drop(999));
        Check.refused(x, 1, 0, () -> x.drop(1000));
        Check.refused(x, 3, 0, () -> x.drop(0));
    }

    static void promise05Raises() {
        SkipArchive x = Check.sample();
        Check.same(2, x.raise(10));
        Check.same(3, x.raise(10));
        Check.same(4, x.raise(10));
        Check.same(5, x.raise(10));
        Check.same("6 18 129 1 0 0 0 4 8 0 10=5^5 20=9^3 30=9^2 40=0^1 50=99^5 60=7^2 .....", Check.state(x));
        Check.same(10, x.levelAt(4, 0));
        Check.refused(x, 5, 5, () -> x.raise(10));
    }

    static void promise05Refused() {
        SkipArchive x = Check.sample();
        Check.refused(x, 1, 0, () -> x.raise(-1));
        Check.refused(x, 3, 999, () -> x.raise(999));
        Check.refused(x, 1, 0, () -> x.raise(1000));
        Check.refused(x, 5, 5, () -> x.raise(50));
        Check.refused(x, 3, 0, () -> x.raise(0));
    }

    static void promise05RaisesToForgottenLevel() {
        SkipArchive x = Check.sample();
        x.forget(1);
        Check.same(2, x.raise(10));
        Check.same(5, x.levelSize(1));
        Check.same(1, x.lower(10));
        Check.same(4, x.levelSize(1));
    }

    static void promise06Lowers() {
        SkipArchive x = Check.sample();
        Check.same(4, x.lower(50));
        Check.same(3, x.lower(50));
        Check.same(2, x.lower(50));
        Check.same(1, x.lower(50));
        Check.same("6 10 129 1 0 0 0 2 8 0 10=5^1 20=9^3 30=9^2 40=0^1 50=99^1 60=7^2 .....", Check.state(x));
        Check.refused(x, 5, 1, () -> x.lower(50));
    }

    static void promise06Refused() {
        SkipArchive x = Check.sample();
        Check.refused(x, 5, 1, () -> x.lower(10));
        Check.refused(x, 1, 0, () -> x.lower(-1));
        Check.refused(x, 3, 11, () -> x.lower(11));
        Check.refused(x, 1, 0, () -> x.lower(1000));
    }

    static void promise07Forgets() {
        SkipArchive x = Check.sample();
        Check.same(2, x.forget(2));
        Check.same(1, x.forget(4));
        Check.same("6 14 129 1 0 0 2 4 8 0 10=5^1 20=9^3 30=9^2 40=0^1 50=99^5 60=7^2 ..!.!", Check.state(x));
        Check.same(4, x.forget(1));
        Check.same(1, x.forget(3));
        Check.same(4, x.account(6));
        Check.same(0, new SkipArchive().forget(4));
    }

    static void promise07Refused() {
        SkipArchive x = Check.sample();
        x.forget(3);
        Check.refused(x, 6, 3, () -> x.forget(3));
        Check.refused(x, 1, 0, () -> x.forget(0));
        Check.refused(x, 1, 0, () -> x.forget(5));
        Check.refused(x, 1, 0, () -> x.forget(-1));
        Check.refused(x, 1, 0, () -> x.forget(32 + 3));
        Check.refused(x, 1, 0, () -> x.forget(Integer.MIN_VALUE));
    }

    static void promise08Recalls() {
        SkipArchive x = Check.sample();
        x.forget(1);
        x.forget(2);
        Check.same(4, x.recall(1));
        Check.same("6 14 129 1 0 0 1 4 8 0 10=5^1 20=9^3 30=9^2 40=0^1 50=99^5 60=7^2 ..!..", Check.state(x));
        Check.same(2, x.recall(2));
        Check.same(0, x.account(6));
    }

    static void promise08Refused() {
        SkipArchive x = Check.sample();
        x.forget(3);
        Check.refused(x, 6, 2, () -> x.recall(2));
        Check.refused(x, 1, 0, () -> x.recall(0));
        Check.refused(x, 6, 4, () -> x.recall(4));
        Check.refused(x, 1, 0, () -> x.recall(5));
        Check.refused(x, 1, 0, () -> x.recall(-1));
        Check.refused(x, 1, 0, () -> x.recall(Integer.MAX_VALUE));
    }

    static void promise09Weighs() {
        SkipArchive x = Check.sample();
        Check.same(9, x.weigh(30, 0));
        Check.same(0, x.weigh(30, 99));
        Check.same(99, x.weigh(50, 98));
        Check.same("6 14 218 1 0 0 0 4 8 0 10=5^1 20=9^3 30=99^2 40=0^1 50=98^5 60=7^2 .....", Check.state(x));
    }

    static void promise09Refused() {
        Check.refused(Check.sample(), 7, 9, x -> x.weigh(30, 9));
        Check.refused(Check.sample(), 1, 0, x -> x.weigh(30, 100));
        Check.refused(Check.sample(), 3, 31, x -> x.weigh(31, 9));
        Check.refused(Check.sample(), 1, 0, x -> x.weigh(31, -1));
        Check.refused(Check.sample(), 7, 0, x -> x.weigh(40, 0));
        Check.refused(Check.sample(), 1, 0, x -> x.weigh(-1, 9));
        Check.refused(Check.sample(), 7, 99, x -> x.weigh(50, 99));
        Check.refused(Check.sample(), 1, 0, x -> x.weigh(1000, 9));
    }

    static void promise10Tosses() {
        SkipArchive x = new SkipArchive();
        int[] numbers = {92, 6735, 1674, 2221, 2152, 7115, 9414};
        int[] heads = {0, 1, 0, 0, 1, 1, 0};
        int sum = 0;
        for (int i = 0; i < numbers.length; i++) {
            Check.same(heads[i], x.toss());
            sum += heads[i];
            Check.same(numbers[i], x.account(3));
            Check.same(i + 1, x.account(4));
            Check.same(sum, x.account(5));
        }
        Check.same(7, x.account(8));
    }
}

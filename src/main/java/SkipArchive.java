import java.util.NoSuchElementException;

/** A skip ladder of an archive: folders with keys and towers of rungs, found by searches that fall. */
public final class SkipArchive {
    private static final int MOST_FOLDERS = 24;
    private static final int MOST_KEY = 999;
    private static final int MOST_WEIGHT = 99;
    private static final int LEVELS = 5;
    private static final int MOST_CHARACTERS = 60;
    private static final int MOST_UNDO = 8;

    /** Stands far above the steps of any search: 24 folders and 4 falls. */
    private static final int MORE_THAN_STEPS = 1000;

    /** The place ahead of all folders; the document tells it as the key -1. */
    private static final int HEAD = -1;
    private static final int NOWHERE = -1;

    /** The signs of the orders are those of the texts; a told tower has a sign of its own. */
    private static final char FILE = '+';
    private static final char FILE_TALL = '^';
    private static final char DROP = '-';
    private static final char RAISE = 'u';
    private static final char LOWER = 'd';
    private static final char FORGET = 'f';
    private static final char RECALL = 'r';
    private static final char WEIGH = 'w';
    private static final char TOSS = 't';

    private final Ladder ladder;
    private final Search search;
    private final Clerk clerk;
    private final Order order;
    private final Reader reader;
    private final History history;
    /** What there was before the commands of a text, should one of them be refused. */
    private final Ladder before;
    private final Ladder snapshot;
    private boolean saved;
    private int latestFault;
    private final StringBuilder written;

    public SkipArchive() {
        ladder = new Ladder();
        search = new Search(ladder);
        clerk = new Clerk(ladder);
        order = new Order();
        reader = new Reader();
        history = new History();
        before = new Ladder();
        snapshot = new Ladder();
        saved = false;
        latestFault = NOWHERE;
        written = new StringBuilder();
    }

    public int file(int key, int weight) throws UnsupportedOperationException {
        order.tell(FILE, key, weight, 1);
        return change();
    }

    public int fileTall(int key, int weight, int rungs) throws UnsupportedOperationException {
        order.tell(FILE_TALL, key, weight, rungs);
        return change();
    }

    public int drop(int key) throws UnsupportedOperationException {
        order.tell(DROP, key, 0, 1);
        return change();
    }

    public int raise(int key) throws UnsupportedOperationException {
        order.tell(RAISE, key, 0, 1);
        return change();
    }

    public int lower(int key) throws UnsupportedOperationException {
        order.tell(LOWER, key, 0, 1);
        return change();
    }

    public int forget(int level) throws UnsupportedOperationException {
        order.tell(FORGET, level, 0, 1);
        return change();
    }

    public int recall(int level) throws UnsupportedOperationException {
        order.tell(RECALL, level, 0, 1);
        return change();
    }

    public int weigh(int key, int weight) throws UnsupportedOperationException {
        order.tell(WEIGH, key, weight, 1);
        return change();
    }

    public int toss() {
        order.tell(TOSS, 0, 0, 1);
        return change();
    }

    public int folderOf(int key, int what) throws IllegalArgumentException, NoSuchElementException {
        demandKey(key);
        if (what < 0 || what > 3) {
            throw new IllegalArgumentException();
        }
        int place = demandFolder(key);
        switch (what) {
            case 0:
                return ladder.weightOf(place);
            case 1:
                return ladder.rungsOf(place);
            case 2:
                return place;
            default:
                return search.stepsTo(key);
        }
    }

    public int rank(int key) throws IllegalArgumentException {
        demandKey(key);
        return search.spansTo(key);
    }

    public int rankAgain(int key) throws IllegalArgumentException {
        demandKey(key);
        return ladder.lowerKeys(key);
    }

    public int keyAt(int rank) throws NoSuchElementException {
        return keyOrNone(rank);
    }

    public int steps(int key) throws IllegalArgumentException {
        demandKey(key);
        return search.stepsTo(key);
    }

    public int stepsAgain(int key) throws IllegalArgumentException {
        demandKey(key);
        return search.stepsBackFrom(key);
    }

    public int placeOf(int key, int place) throws IllegalArgumentException, NoSuchElementException {
        demandKey(key);
        if (place < 0 || !search.reaches(key, place)) {
            throw new NoSuchElementException();
        }
        return ladder.keyOf(search.place());
    }

    public int falls(int key) throws IllegalArgumentException {
        demandKey(key);
        return search.fallsTo(key);
    }

    public int floor(int key) throws IllegalArgumentException, NoSuchElementException {
        demandKey(key);
        return keyOrNone(ladder.lowerKeys(key + 1) - 1);
    }

    public int ceiling(int key) throws IllegalArgumentException, NoSuchElementException {
        demandKey(key);
        return keyOrNone(ladder.lowerKeys(key));
    }

    public int count(int from, int to) throws IllegalArgumentException {
        demandRange(from, to);
        return search.spansTo(to + 1) - search.spansTo(from);
    }

    public int countAgain(int from, int to) throws IllegalArgumentException {
        demandRange(from, to);
        int folders = 0;
        for (int place = ladder.lowerKeys(from); place < ladder.size() && ladder.keyOf(place) <= to; place++) {
            folders++;
        }
        return folders;
    }

    public int weightIn(int from, int to) throws IllegalArgumentException {
        demandRange(from, to);
        int sum = 0;
        for (int place = ladder.lowerKeys(from); place < ladder.size() && ladder.keyOf(place) <= to; place++) {
            sum += ladder.weightOf(place);
        }
        return sum;
    }

    public int heaviestIn(int from, int to) throws IllegalArgumentException, NoSuchElementException {
        demandRange(from, to);
        int heaviest = NOWHERE;
        for (int place = ladder.lowerKeys(from); place < ladder.size() && ladder.keyOf(place) <= to; place++) {
            if (heaviest == NOWHERE || ladder.weightOf(place) > ladder.weightOf(heaviest)) {
                heaviest = place;
            }
        }
        return keyOrNone(heaviest);
    }

    public int levelSize(int level) throws IndexOutOfBoundsException {
        demandLevel(level);
        return ladder.foldersOn(level);
    }

    public int levelAt(int level, int place) throws IndexOutOfBoundsException, NoSuchElementException {
        demandLevel(level);
        if (place < 0 || place >= ladder.foldersOn(level)) {
            throw new NoSuchElementException();
        }
        int folder = ladder.nextOn(level, HEAD);
        for (int passed = 0; passed < place; passed++) {
            folder = ladder.nextOn(level, folder);
        }
        return ladder.keyOf(folder);
    }

    public int span(int key, int level)
            throws IndexOutOfBoundsException, IllegalArgumentException, NoSuchElementException {
        demandLevel(level);
        demandKey(key);
        int place = demandFolder(key);
        if (!ladder.hasRung(place, level)) {
            throw new NoSuchElementException();
        }
        return ladder.spanFrom(place, level);
    }

    public int headSpan(int level) throws IndexOutOfBoundsException {
        demandLevel(level);
        return ladder.spanFrom(HEAD, level);
    }

    public boolean isForgotten(int level) throws IndexOutOfBoundsException {
        demandLevel(level);
        return ladder.isHidden(level);
    }

    public int longestSearch() throws NoSuchElementException {
        int longest = NOWHERE;
        int most = 0;
        for (int place = 0; place < ladder.size(); place++) {
            int length = search.stepsTo(ladder.keyOf(place));
            if (longest == NOWHERE || length > most) {
                longest = place;
                most = length;
            }
        }
        return keyOrNone(longest);
    }

    public int nextRungs() {
        return ladder.coin().towerAhead();
    }

    public int append(char character) throws IllegalStateException {
        if (!reader.take(character)) {
            throw new IllegalStateException();
        }
        return reader.length();
    }

    public int commands() throws IllegalArgumentException, UnsupportedOperationException {
        latestFault = reader.findFault(order);
        if (latestFault != NOWHERE) {
            reader.clear();
            throw new IllegalArgumentException();
        }
        before.copyFrom(ladder);
        int orders = carryOutText();
        reader.clear();
        if (orders == NOWHERE) {
            ladder.copyFrom(before);
            throw new UnsupportedOperationException();
        }
        history.keep(before);
        return orders;
    }

    public int faultPosition() {
        return latestFault;
    }

    public int reason(int what) throws IllegalArgumentException, NoSuchElementException {
        if (what < 0 || what > 2) {
            throw new IllegalArgumentException();
        }
        if (!clerk.hasRefused()) {
            throw new NoSuchElementException();
        }
        switch (what) {
            case 0:
                return clerk.keptReason();
            case 1:
                return clerk.keptDetail();
            default:
                return clerk.keptIndex();
        }
    }

    public int line(int level) throws IndexOutOfBoundsException {
        demandLevel(level);
        written.setLength(0);
        written.append(level);
        if (ladder.isHidden(level)) {
            written.append('!');
        }
        written.append(':');
        for (int place = 0; place < ladder.size(); place++) {
            if (ladder.hasRung(place, level)) {
                written.append(' ');
                written.append(ladder.keyOf(place));
            }
        }
        return written.length();
    }

    public char character(int index) throws IndexOutOfBoundsException {
        if (index < 0 || index >= written.length()) {
            throw new IndexOutOfBoundsException();
        }
        return written.charAt(index);
    }

    public double meanSteps() throws ArithmeticException {
        if (ladder.size() == 0) {
            throw new ArithmeticException();
        }
        int sum = 0;
        for (int place = 0; place < ladder.size(); place++) {
            sum += search.stepsTo(ladder.keyOf(place));
        }
        return (double) sum / (double) ladder.size();
    }

    public float meanRungs() throws ArithmeticException {
        if (ladder.size() == 0) {
            throw new ArithmeticException();
        }
        return (float) ladder.allRungs() / (float) ladder.size();
    }

    public int account(int what) throws IllegalArgumentException {
        switch (what) {
            case 0:
                return ladder.size();
            case 1:
                return ladder.allRungs();
            case 2:
                return ladder.allWeights();
            case 3:
                return ladder.coin().number();
            case 4:
                return ladder.coin().tossed();
            case 5:
                return ladder.coin().heads();
            case 6:
                return ladder.hiddenLevels();
            case 7:
                return ladder.highestLevel();
            case 8:
                return history.amount();
            case 9:
                return reader.length();
            default:
                throw new IllegalArgumentException();
        }
    }

    public int undo() throws IllegalStateException {
        if (!history.takeBack(ladder)) {
            throw new IllegalStateException();
        }
        return history.amount();
    }

    public int save() {
        snapshot.copyFrom(ladder);
        saved = true;
        return ladder.size();
    }

    public int restore() throws IllegalStateException {
        if (!saved) {
            throw new IllegalStateException();
        }
        ladder.copyFrom(snapshot);
        history.clear();
        return ladder.size();
    }

    /** Carries out the order that has been told, as a change that can be undone. */
    private int change() {
        if (clerk.refuses(order, 0)) {
            throw new UnsupportedOperationException();
        }
        history.keep(ladder);
        return clerk.carryOut(order);
    }

    /** Carries out a text without a fault; answers NOWHERE, with some orders carried out, if one is refused. */
    private int carryOutText() {
        int orders = 0;
        reader.rewind();
        for (boolean more = true; more && orders < MOST_CHARACTERS; more = reader.passSeparator()) {
            reader.readOrder(order);
            if (clerk.refuses(order, orders)) {
                return NOWHERE;
            }
            clerk.carryOut(order);
            orders++;
        }
        return orders;
    }

    private static void demandKey(int key) {
        if (key < 0 || key > MOST_KEY) {
            throw new IllegalArgumentException();
        }
    }

    private static void demandRange(int from, int to) {
        demandKey(from);
        demandKey(to);
        if (to < from) {
            throw new IllegalArgumentException();
        }
    }

    private static void demandLevel(int level) {
        if (level < 0 || level >= LEVELS) {
            throw new IndexOutOfBoundsException();
        }
    }

    private int demandFolder(int key) {
        int place = ladder.placeWith(key);
        if (place == NOWHERE) {
            throw new NoSuchElementException();
        }
        return place;
    }

    private int keyOrNone(int place) {
        if (!ladder.holds(place)) {
            throw new NoSuchElementException();
        }
        return ladder.keyOf(place);
    }

    static final class Coin {
        private int number = 1;
        private int tossed = 0;
        private int heads = 0;

        int number() {
            return number;
        }

        int tossed() {
            return tossed;
        }

        int heads() {
            return heads;
        }

        void copyFrom(Coin other) {
            number = other.number;
            tossed = other.tossed;
            heads = other.heads;
        }

        boolean throwIt() {
            number = following(number);
            tossed++;
            boolean shown = showsHeads(number);
            if (shown) {
                heads++;
            }
            return shown;
        }

        int throwTower() {
            int tower = 1;
            while (tower < LEVELS && throwIt()) {
                tower++;
            }
            return tower;
        }

        /** The tower that throwTower would tell, with no coin tossed. */
        int towerAhead() {
            int ahead = following(number);
            int tower = 1;
            while (tower < LEVELS && showsHeads(ahead)) {
                ahead = following(ahead);
                tower++;
            }
            return tower;
        }

        private static int following(int number) {
            return (73 * number + 19) % 10000;
        }

        private static boolean showsHeads(int number) {
            return number / 100 % 2 == 1;
        }
    }

    /** All that can be undone: the folders in the order of their keys, the forgotten levels and the coin. */
    static final class Ladder {
        private final int[] keys = new int[MOST_FOLDERS];
        private final int[] weights = new int[MOST_FOLDERS];
        private final int[] towers = new int[MOST_FOLDERS];
        private final Coin coin = new Coin();
        private int size = 0;
        /** A bit for each level. */
        private int hidden = 0;

        int size() {
            return size;
        }

        Coin coin() {
            return coin;
        }

        void copyFrom(Ladder other) {
            System.arraycopy(other.keys, 0, keys, 0, MOST_FOLDERS);
            System.arraycopy(other.weights, 0, weights, 0, MOST_FOLDERS);
            System.arraycopy(other.towers, 0, towers, 0, MOST_FOLDERS);
            coin.copyFrom(other.coin);
            size = other.size;
            hidden = other.hidden;
        }

        boolean holds(int place) {
            return place >= 0 && place < size && place < MOST_FOLDERS;
        }

        int keyOf(int place) {
            return holds(place) ? keys[place] : HEAD;
        }

        int weightOf(int place) {
            return holds(place) ? weights[place] : 0;
        }

        int rungsOf(int place) {
            return holds(place) ? towers[place] : 0;
        }

        boolean hasRung(int place, int level) {
            return holds(place) && towers[place] > level;
        }

        boolean hasLowerKey(int place, int key) {
            return holds(place) && keys[place] < key;
        }

        int lowerKeys(int key) {
            int place = 0;
            while (place < size && place < MOST_FOLDERS && keys[place] < key) {
                place++;
            }
            return place;
        }

        int placeWith(int key) {
            int place = lowerKeys(key);
            return holds(place) && keys[place] == key ? place : NOWHERE;
        }

        boolean isFull() {
            return size >= MOST_FOLDERS;
        }

        void insert(int key, int weight, int tower) {
            if (isFull()) {
                return;
            }
            int place = lowerKeys(key);
            size++;
            for (int to = size - 1; to > place; to--) {
                put(to, keyOf(to - 1), weightOf(to - 1), rungsOf(to - 1));
            }
            put(place, key, weight, tower);
        }

        void remove(int place) {
            if (!holds(place)) {
                return;
            }
            for (int to = place; to < size - 1; to++) {
                put(to, keyOf(to + 1), weightOf(to + 1), rungsOf(to + 1));
            }
            size--;
        }

        void put(int place, int key, int weight, int tower) {
            if (holds(place)) {
                keys[place] = key;
                weights[place] = weight;
                towers[place] = tower;
            }
        }

        /** The place of the next folder on a level, or the place behind all folders. */
        int nextOn(int level, int place) {
            int next = place + 1;
            while (next < size && !hasRung(next, level)) {
                next++;
            }
            return next;
        }

        int previousOn(int level, int place) {
            int previous = place - 1;
            while (previous > HEAD && !hasRung(previous, level)) {
                previous--;
            }
            return previous;
        }

        int spanFrom(int place, int level) {
            return nextOn(level, place) - place;
        }

        int foldersOn(int level) {
            int folders = 0;
            for (int place = 0; place < size; place++) {
                if (hasRung(place, level)) {
                    folders++;
                }
            }
            return folders;
        }

        int highestLevel() {
            int most = 0;
            for (int place = 0; place < size; place++) {
                most = Math.max(most, rungsOf(place));
            }
            return most - 1;
        }

        int allRungs() {
            int sum = 0;
            for (int place = 0; place < size; place++) {
                sum += rungsOf(place);
            }
            return sum;
        }

        int allWeights() {
            int sum = 0;
            for (int place = 0; place < size; place++) {
                sum += weightOf(place);
            }
            return sum;
        }

        boolean isHidden(int level) {
            return (hidden >> level & 1) == 1;
        }

        void hide(int level) {
            hidden |= 1 << level;
        }

        void show(int level) {
            hidden &= ~(1 << level);
        }

        int hiddenLevels() {
            return Integer.bitCount(hidden);
        }

        /** The level where a search begins. */
        int beginning() {
            return usedUpTo(highestLevel());
        }

        /** The highest level up to this one that a search uses; the level 0 always is one. */
        int usedUpTo(int level) {
            int used = level;
            while (used > 0 && isHidden(used)) {
                used--;
            }
            return Math.max(used, 0);
        }

        /** The next higher level that a search uses, or LEVELS. */
        int usedAbove(int level) {
            int used = level + 1;
            while (used < LEVELS && isHidden(used)) {
                used++;
            }
            return used;
        }
    }

    /** A search on a ladder; one object makes all searches, each from the head anew. */
    static final class Search {
        private final Ladder ladder;
        private int place = HEAD;
        private int level = 0;
        private int gone = 0;
        private int fallen = 0;
        private int spanned = 0;

        Search(Ladder ladder) {
            this.ladder = ladder;
        }

        int place() {
            return place;
        }

        int stepsTo(int key) {
            reaches(key, MOST_FOLDERS + 1);
            return gone + fallen;
        }

        int fallsTo(int key) {
            reaches(key, MOST_FOLDERS + 1);
            return fallen;
        }

        int spansTo(int key) {
            reaches(key, MOST_FOLDERS + 1);
            return spanned;
        }

        /** Searches until it has gone so often; whether it ever does. */
        boolean reaches(int key, int goings) {
            place = HEAD;
            level = ladder.beginning();
            gone = 0;
            fallen = 0;
            spanned = 0;
            boolean going = true;
            for (int i = 0; i < MORE_THAN_STEPS && going && gone < goings; i++) {
                going = step(key);
            }
            return gone >= goings;
        }

        private boolean step(int key) {
            int next = ladder.nextOn(level, place);
            if (ladder.hasLowerKey(next, key)) {
                spanned += next - place;
                place = next;
                gone++;
                return true;
            }
            if (level == 0) {
                return false;
            }
            level = ladder.usedUpTo(level - 1);
            fallen++;
            return true;
        }

        int stepsBackFrom(int key) {
            int beginning = ladder.beginning();
            int at = ladder.lowerKeys(key) - 1;
            int on = 0;
            int steps = 0;
            while ((at != HEAD || on != beginning) && steps < MORE_THAN_STEPS) {
                int above = ladder.usedAbove(on);
                if (at == HEAD || ladder.hasRung(at, above)) {
                    on = above;
                } else {
                    at = ladder.previousOn(on, at);
                }
                steps++;
            }
            return steps;
        }
    }

    /** What a method or a command asks for; number is a key or a level. */
    static final class Order {
        private char sign = TOSS;
        private int number = 0;
        private int weight = 0;
        private int rungs = 1;

        void tell(char sign, int number, int weight, int rungs) {
            this.sign = sign;
            this.number = number;
            this.weight = weight;
            this.rungs = rungs;
        }

        char sign() {
            return sign;
        }

        int number() {
            return number;
        }

        int weight() {
            return weight;
        }

        int rungs() {
            return rungs;
        }
    }

    /** Refuses orders or carries them out, and keeps the reason of the latest refusal. */
    static final class Clerk {
        private static final int ALLOWED = 0;
        private static final int OUT_OF_RANGE = 1;
        private static final int TOO_MANY = 2;
        private static final int NO_FOLDER = 3;
        private static final int FOLDER_ALREADY = 4;
        private static final int TOWER_AT_END = 5;
        private static final int LEVEL_ALREADY = 6;
        private static final int WEIGHT_ALREADY = 7;

        private final Ladder ladder;
        private int detail = 0;
        private int keptReason = ALLOWED;
        private int keptDetail = 0;
        private int keptIndex = 0;

        Clerk(Ladder ladder) {
            this.ladder = ladder;
        }

        boolean hasRefused() {
            return keptReason != ALLOWED;
        }

        int keptReason() {
            return keptReason;
        }

        int keptDetail() {
            return keptDetail;
        }

        int keptIndex() {
            return keptIndex;
        }

        boolean refuses(Order order, int index) {
            detail = 0;
            int reason = reasonAgainst(order);
            if (reason == ALLOWED) {
                return false;
            }
            keptReason = reason;
            keptDetail = detail;
            keptIndex = index;
            return true;
        }

        private int reasonAgainst(Order order) {
            switch (order.sign()) {
                case FILE:
                case FILE_TALL:
                    return againstFiling(order);
                case DROP:
                case RAISE:
                case LOWER:
                case WEIGH:
                    return againstFolder(order);
                case FORGET:
                case RECALL:
                    return againstLevel(order);
                default:
                    return ALLOWED;
            }
        }

        private int againstFiling(Order order) {
            if (outside(order.number(), 0, MOST_KEY) || outside(order.weight(), 0, MOST_WEIGHT)
                    || outside(order.rungs(), 1, LEVELS)) {
                return OUT_OF_RANGE;
            }
            int place = ladder.placeWith(order.number());
            if (place != NOWHERE) {
                return refusal(FOLDER_ALREADY, place);
            }
            return ladder.isFull() ? refusal(TOO_MANY, MOST_FOLDERS) : ALLOWED;
        }

        private int againstFolder(Order order) {
            if (outside(order.number(), 0, MOST_KEY) || outside(order.weight(), 0, MOST_WEIGHT)) {
                return OUT_OF_RANGE;
            }
            int place = ladder.placeWith(order.number());
            if (place == NOWHERE) {
                return refusal(NO_FOLDER, order.number());
            }
            if (order.sign() == WEIGH) {
                return againstWeight(order.weight(), ladder.weightOf(place));
            }
            return againstTower(order.sign(), ladder.rungsOf(place));
        }

        private int againstWeight(int weight, int earlier) {
            return weight == earlier ? refusal(WEIGHT_ALREADY, weight) : ALLOWED;
        }

        private int againstTower(char sign, int rungs) {
            boolean atEnd = sign == RAISE && rungs >= LEVELS || sign == LOWER && rungs <= 1;
            return atEnd ? refusal(TOWER_AT_END, rungs) : ALLOWED;
        }

        private int againstLevel(Order order) {
            int level = order.number();
            if (outside(level, 1, LEVELS - 1)) {
                return OUT_OF_RANGE;
            }
            boolean already = ladder.isHidden(level) == (order.sign() == FORGET);
            return already ? refusal(LEVEL_ALREADY, level) : ALLOWED;
        }

        private static boolean outside(int number, int least, int most) {
            return number < least || number > most;
        }

        private int refusal(int reason, int reasonDetail) {
            detail = reasonDetail;
            return reason;
        }

        /** Carries out an order that is not refused; answers what its method does. */
        int carryOut(Order order) {
            int place = ladder.placeWith(order.number());
            switch (order.sign()) {
                case FILE:
                    return insertByCoins(order);
                case FILE_TALL:
                    ladder.insert(order.number(), order.weight(), order.rungs());
                    return ladder.lowerKeys(order.number());
                case DROP:
                    ladder.remove(place);
                    return ladder.size();
                case RAISE:
                    return changeTower(place, 1);
                case LOWER:
                    return changeTower(place, -1);
                case FORGET:
                    ladder.hide(order.number());
                    return ladder.foldersOn(order.number());
                case RECALL:
                    ladder.show(order.number());
                    return ladder.foldersOn(order.number());
                case WEIGH:
                    return changeWeight(place, order.weight());
                default:
                    return ladder.coin().throwIt() ? 1 : 0;
            }
        }

        private int insertByCoins(Order order) {
            int tower = ladder.coin().throwTower();
            ladder.insert(order.number(), order.weight(), tower);
            return tower;
        }

        private int changeTower(int place, int more) {
            int tower = ladder.rungsOf(place) + more;
            ladder.put(place, ladder.keyOf(place), ladder.weightOf(place), tower);
            return tower;
        }

        private int changeWeight(int place, int weight) {
            int earlier = ladder.weightOf(place);
            ladder.put(place, ladder.keyOf(place), weight, ladder.rungsOf(place));
            return earlier;
        }
    }

    /** The text buffer, and the reading of its commands one behind the other. */
    static final class Reader {
        private static final int END = -1;

        /** No StringBuilder, as the characters that are appended may be beyond 255. */
        private final char[] text = new char[MOST_CHARACTERS];
        private int length = 0;
        private int at = 0;
        /** Once set, nothing is read any more, and at stays where the fault is. */
        private boolean faulty = false;

        int length() {
            return length;
        }

        void clear() {
            length = 0;
        }

        boolean take(char character) {
            if (length < 0 || length >= MOST_CHARACTERS) {
                return false;
            }
            text[length] = character;
            length++;
            return true;
        }

        void rewind() {
            at = 0;
            faulty = false;
        }

        int findFault(Order order) {
            rewind();
            boolean more = true;
            for (int i = 0; more && i < MOST_CHARACTERS; i++) {
                readOrder(order);
                more = passSeparator();
            }
            return faulty ? at : NOWHERE;
        }

        /** Whether another command is due; what is neither a separator nor the end is a fault. */
        boolean passSeparator() {
            if (faulty || look() == END) {
                return false;
            }
            return pass(';');
        }

        void readOrder(Order order) {
            int sign = look();
            switch (sign) {
                case FILE:
                    readFiling(order);
                    break;
                case WEIGH:
                    at++;
                    readKeyAndWeight(order, WEIGH);
                    break;
                case DROP:
                case RAISE:
                case LOWER:
                    at++;
                    order.tell((char) sign, readNumber(3), 0, 1);
                    break;
                case FORGET:
                case RECALL:
                    at++;
                    order.tell((char) sign, readNumber(1), 0, 1);
                    break;
                case TOSS:
                    at++;
                    order.tell(TOSS, 0, 0, 1);
                    break;
                default:
                    faulty = true;
                    break;
            }
        }

        private void readFiling(Order order) {
            at++;
            readKeyAndWeight(order, FILE);
            if (!faulty && look() == '^') {
                at++;
                order.tell(FILE_TALL, order.number(), order.weight(), readNumber(1));
            }
        }

        private void readKeyAndWeight(Order order, char sign) {
            int key = readNumber(3);
            pass('=');
            order.tell(sign, key, readNumber(2), 1);
        }

        private int readNumber(int mostDigits) {
            int number = 0;
            int digits = 0;
            while (!faulty && digits < mostDigits && isDigit(look())) {
                number = 10 * number + look() - '0';
                digits++;
                at++;
            }
            if (digits == 0) {
                faulty = true;
            }
            return number;
        }

        private boolean pass(char due) {
            if (faulty || look() != due) {
                faulty = true;
                return false;
            }
            at++;
            return true;
        }

        private int look() {
            return at >= 0 && at < length && at < MOST_CHARACTERS ? text[at] : END;
        }

        private static boolean isDigit(int character) {
            return character >= '0' && character <= '9';
        }
    }

    /** What there was before each of the latest changes, in a ring. */
    static final class History {
        private final Ladder[] kept = new Ladder[MOST_UNDO];
        private int newest = 0;
        private int amount = 0;

        History() {
            for (int i = 0; i < MOST_UNDO; i++) {
                kept[i] = new Ladder();
            }
        }

        int amount() {
            return amount;
        }

        void clear() {
            amount = 0;
        }

        void keep(Ladder earlier) {
            newest = (newest + 1) % MOST_UNDO;
            Ladder slot = newestKept();
            if (slot != null) {
                slot.copyFrom(earlier);
                amount = Math.min(amount + 1, MOST_UNDO);
            }
        }

        boolean takeBack(Ladder ladder) {
            Ladder slot = newestKept();
            if (amount == 0 || slot == null) {
                return false;
            }
            ladder.copyFrom(slot);
            newest = (newest + MOST_UNDO - 1) % MOST_UNDO;
            amount--;
            return true;
        }

        private Ladder newestKept() {
            return newest >= 0 && newest < MOST_UNDO ? kept[newest] : null;
        }
    }
}

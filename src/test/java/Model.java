import java.util.ArrayDeque;
import java.util.ArrayList;
import java.util.Deque;
import java.util.List;
import java.util.Map;
import java.util.NoSuchElementException;
import java.util.TreeMap;
import java.util.TreeSet;
import java.util.regex.Matcher;
import java.util.regex.Pattern;

/**
 * The document told a second time, as near to its words as the Java library allows, with none of the program's
 * code: what the program answers is compared with it.
 */
public final class Model {
    private static final Pattern COMMAND = Pattern.compile("\\+([0-9]{1,3})=([0-9]{1,2})(?:\\^([0-9]))?"
            + "|([-ud])([0-9]{1,3})|([fr])([0-9])|w([0-9]{1,3})=([0-9]{1,2})|t");
    private static final Pattern TEXT = Pattern.compile("(?:" + COMMAND + ")(?:;(?:" + COMMAND + "))*");
    /** Every beginning of a text becomes a text by one of these. */
    private static final String[] ENDINGS = {"", "1", "=1", "1=1", "t"};

    private static final class Folder {
        int weight;
        int rungs;

        Folder(int weight, int rungs) {
            this.weight = weight;
            this.rungs = rungs;
        }
    }

    private static final class State {
        final TreeMap<Integer, Folder> folders = new TreeMap<>();
        final TreeSet<Integer> forgotten = new TreeSet<>();
        int coin = 1;
        int tossed = 0;
        int heads = 0;

        State copy() {
            State copy = new State();
            for (Map.Entry<Integer, Folder> entry : folders.entrySet()) {
                copy.folders.put(entry.getKey(), new Folder(entry.getValue().weight, entry.getValue().rungs));
            }
            copy.forgotten.addAll(forgotten);
            copy.coin = coin;
            copy.tossed = tossed;
            copy.heads = heads;
            return copy;
        }

        boolean toss() {
            coin = (73 * coin + 19) % 10000;
            tossed++;
            boolean shown = (coin / 100) % 2 != 0;
            heads += shown ? 1 : 0;
            return shown;
        }

        int tower() {
            int rungs = 1;
            do {
                if (!toss()) {
                    return rungs;
                }
                rungs++;
            } while (rungs < 5);
            return rungs;
        }
    }

    private State now = new State();
    private State saved = null;
    private final Deque<State> earlier = new ArrayDeque<>();
    private String buffer = "";
    private String line = "";
    private int fault = -1;
    private int[] reason = null;
    private int index = 0;

    private void refuse(int why, int detail) {
        reason = new int[] {why, detail, index};
        throw new UnsupportedOperationException();
    }

    private void refuseUnless(boolean inRange) {
        if (!inRange) {
            refuse(1, 0);
        }
    }

    private static boolean in(int number, int from, int to) {
        return from <= number && number <= to;
    }

    private int changed(State before, int answer) {
        earlier.addLast(before);
        if (earlier.size() > 8) {
            earlier.removeFirst();
        }
        return answer;
    }

    private int fileNow(int key, int weight, Integer told) {
        refuseUnless(in(key, 0, 999) && in(weight, 0, 99) && (told == null || in(told, 1, 5)));
        if (now.folders.containsKey(key)) {
            refuse(4, now.folders.headMap(key).size());
        }
        if (now.folders.size() == 24) {
            refuse(2, 24);
        }
        int rungs = told == null ? now.tower() : told;
        now.folders.put(key, new Folder(weight, rungs));
        return told == null ? rungs : now.folders.headMap(key).size();
    }

    private Folder folderFor(int key) {
        refuseUnless(in(key, 0, 999));
        if (!now.folders.containsKey(key)) {
            refuse(3, key);
        }
        return now.folders.get(key);
    }

    private int dropNow(int key) {
        folderFor(key);
        now.folders.remove(key);
        return now.folders.size();
    }

    private int raiseNow(int key, int more, int end) {
        Folder folder = folderFor(key);
        if (folder.rungs == end) {
            refuse(5, end);
        }
        return folder.rungs += more;
    }

    private int forgetNow(int level) {
        refuseUnless(in(level, 1, 4));
        if (!now.forgotten.add(level)) {
            refuse(6, level);
        }
        return level(level).size();
    }

    private int recallNow(int level) {
        refuseUnless(in(level, 1, 4));
        if (!now.forgotten.remove(level)) {
            refuse(6, level);
        }
        return level(level).size();
    }

    private int weighNow(int key, int weight) {
        refuseUnless(in(key, 0, 999) && in(weight, 0, 99));
        Folder folder = folderFor(key);
        if (folder.weight == weight) {
            refuse(7, weight);
        }
        int before = folder.weight;
        folder.weight = weight;
        return before;
    }

    private TreeSet<Integer> level(int level) {
        TreeSet<Integer> keys = new TreeSet<>();
        now.folders.forEach((key, folder) -> {
            if (folder.rungs > level) {
                keys.add(key);
            }
        });
        return keys;
    }

    public int file(int key, int weight) {
        State before = now.copy();
        return changed(before, fileNow(key, weight, null));
    }

    public int fileTall(int key, int weight, int rungs) {
        State before = now.copy();
        return changed(before, fileNow(key, weight, rungs));
    }

    public int drop(int key) {
        State before = now.copy();
        return changed(before, dropNow(key));
    }

    public int raise(int key) {
        State before = now.copy();
        return changed(before, raiseNow(key, 1, 5));
    }

    public int lower(int key) {
        State before = now.copy();
        return changed(before, raiseNow(key, -1, 1));
    }

    public int forget(int level) {
        State before = now.copy();
        return changed(before, forgetNow(level));
    }

    public int recall(int level) {
        State before = now.copy();
        return changed(before, recallNow(level));
    }

    public int weigh(int key, int weight) {
        State before = now.copy();
        return changed(before, weighNow(key, weight));
    }

    public int toss() {
        State before = now.copy();
        return changed(before, now.toss() ? 1 : 0);
    }

    private static void illegalUnless(boolean legal) {
        if (!legal) {
            throw new IllegalArgumentException();
        }
    }

    private static void foundIf(boolean found) {
        if (!found) {
            throw new NoSuchElementException();
        }
    }

    private static void levelIf(boolean legal) {
        if (!legal) {
            throw new IndexOutOfBoundsException();
        }
    }

    public int folderOf(int key, int what) {
        illegalUnless(in(key, 0, 999) && in(what, 0, 3));
        foundIf(now.folders.containsKey(key));
        Folder folder = now.folders.get(key);
        int[] numbers = {folder.weight, folder.rungs, now.folders.headMap(key).size(), steps(key)};
        return numbers[what];
    }

    public int rank(int key) {
        illegalUnless(in(key, 0, 999));
        return now.folders.headMap(key).size();
    }

    public int rankAgain(int key) {
        return rank(key);
    }

    public int keyAt(int rank) {
        foundIf(in(rank, 0, now.folders.size() - 1));
        return new ArrayList<>(now.folders.keySet()).get(rank);
    }

    /** Where a search for a key is after each of its steps: pairs of a key, -1 for the head, and a level. */
    private List<int[]> path(int key) {
        List<Integer> used = new ArrayList<>();
        for (int level = 4; level >= 0; level--) {
            boolean hasFolders = !level(level).isEmpty() || level == 0;
            if (!now.forgotten.contains(level) && hasFolders) {
                used.add(level);
            }
        }
        List<int[]> path = new ArrayList<>();
        int at = -1;
        path.add(new int[] {at, used.get(0)});
        for (int level : used) {
            if (level != used.get(0)) {
                path.add(new int[] {at, level});
            }
            for (int next : level(level).subSet(at, false, key, false)) {
                at = next;
                path.add(new int[] {at, level});
            }
        }
        return path;
    }

    public int steps(int key) {
        illegalUnless(in(key, 0, 999));
        return path(key).size() - 1;
    }

    public int stepsAgain(int key) {
        return steps(key);
    }

    public int placeOf(int key, int place) {
        illegalUnless(in(key, 0, 999));
        TreeSet<Integer> places = new TreeSet<>();
        for (int[] at : path(key)) {
            places.add(at[0]);
        }
        foundIf(in(place, 0, places.size() - 1));
        return new ArrayList<>(places).get(place);
    }

    public int falls(int key) {
        illegalUnless(in(key, 0, 999));
        TreeSet<Integer> levels = new TreeSet<>();
        for (int[] at : path(key)) {
            levels.add(at[1]);
        }
        return levels.size() - 1;
    }

    public int floor(int key) {
        illegalUnless(in(key, 0, 999));
        foundIf(now.folders.floorKey(key) != null);
        return now.folders.floorKey(key);
    }

    public int ceiling(int key) {
        illegalUnless(in(key, 0, 999));
        foundIf(now.folders.ceilingKey(key) != null);
        return now.folders.ceilingKey(key);
    }

    private Map<Integer, Folder> range(int from, int to) {
        illegalUnless(in(from, 0, 999) && in(to, 0, 999) && from <= to);
        return now.folders.subMap(from, true, to, true);
    }

    public int count(int from, int to) {
        return range(from, to).size();
    }

    public int countAgain(int from, int to) {
        return range(from, to).size();
    }

    public int weightIn(int from, int to) {
        return range(from, to).values().stream().mapToInt(folder -> folder.weight).sum();
    }

    public int heaviestIn(int from, int to) {
        Map<Integer, Folder> range = range(from, to);
        for (int weight = 99; weight >= 0; weight--) {
            for (Map.Entry<Integer, Folder> entry : range.entrySet()) {
                if (entry.getValue().weight == weight) {
                    return entry.getKey();
                }
            }
        }
        throw new NoSuchElementException();
    }

    public int levelSize(int level) {
        levelIf(in(level, 0, 4));
        return level(level).size();
    }

    public int levelAt(int level, int place) {
        levelIf(in(level, 0, 4));
        foundIf(in(place, 0, level(level).size() - 1));
        return new ArrayList<>(level(level)).get(place);
    }

    /** From a place, -1 for the head, to that of the next on the level, or behind all. */
    private int spanFrom(int place, int key, int level) {
        Integer next = level(level).higher(key);
        return (next == null ? now.folders.size() : now.folders.headMap(next).size()) - place;
    }

    public int span(int key, int level) {
        levelIf(in(level, 0, 4));
        illegalUnless(in(key, 0, 999));
        foundIf(level(level).contains(key));
        return spanFrom(now.folders.headMap(key).size(), key, level);
    }

    public int headSpan(int level) {
        levelIf(in(level, 0, 4));
        return spanFrom(-1, -1, level);
    }

    public boolean isForgotten(int level) {
        levelIf(in(level, 0, 4));
        return now.forgotten.contains(level);
    }

    public int longestSearch() {
        foundIf(!now.folders.isEmpty());
        int longest = now.folders.lastKey();
        for (int key : now.folders.descendingKeySet()) {
            longest = steps(key) >= steps(longest) ? key : longest;
        }
        return longest;
    }

    public int nextRungs() {
        return now.copy().tower();
    }

    public int append(char character) {
        if (buffer.length() == 60) {
            throw new IllegalStateException();
        }
        buffer += character;
        return buffer.length();
    }

    private static boolean canContinue(String text) {
        for (String ending : ENDINGS) {
            if (TEXT.matcher(text + ending).matches()) {
                return true;
            }
        }
        return false;
    }

    private static int faultOf(String text) {
        if (TEXT.matcher(text).matches()) {
            return -1;
        }
        int length = 0;
        while (length < text.length() && canContinue(text.substring(0, length + 1))) {
            length++;
        }
        return length;
    }

    private void carryOut(String command) {
        Matcher matcher = COMMAND.matcher(command);
        if (!matcher.matches()) {
            throw new AssertionError(command);
        }
        if (command.startsWith("t")) {
            now.toss();
        } else if (command.startsWith("+")) {
            fileNow(Integer.parseInt(matcher.group(1)), Integer.parseInt(matcher.group(2)),
                    matcher.group(3) == null ? null : Integer.valueOf(matcher.group(3)));
        } else if (command.startsWith("w")) {
            weighNow(Integer.parseInt(matcher.group(8)), Integer.parseInt(matcher.group(9)));
        } else if (command.startsWith("f")) {
            forgetNow(Integer.parseInt(matcher.group(7)));
        } else if (command.startsWith("r")) {
            recallNow(Integer.parseInt(matcher.group(7)));
        } else if (command.startsWith("-")) {
            dropNow(Integer.parseInt(matcher.group(5)));
        } else if (command.startsWith("u")) {
            raiseNow(Integer.parseInt(matcher.group(5)), 1, 5);
        } else {
            raiseNow(Integer.parseInt(matcher.group(5)), -1, 1);
        }
    }

    public int commands() {
        String text = buffer;
        buffer = "";
        fault = faultOf(text);
        illegalUnless(fault == -1);
        State before = now.copy();
        String[] commands = text.split(";");
        try {
            for (index = 0; index < commands.length; index++) {
                carryOut(commands[index]);
            }
        } catch (UnsupportedOperationException e) {
            now = before;
            throw e;
        } finally {
            index = 0;
        }
        return changed(before, commands.length);
    }

    public int faultPosition() {
        return fault;
    }

    public int reason(int what) {
        illegalUnless(in(what, 0, 2));
        foundIf(reason != null);
        return reason[what];
    }

    public int line(int level) {
        levelIf(in(level, 0, 4));
        line = level + (now.forgotten.contains(level) ? "!:" : ":");
        for (int key : level(level)) {
            line += " " + key;
        }
        return line.length();
    }

    public char character(int index) {
        levelIf(in(index, 0, line.length() - 1));
        return line.charAt(index);
    }

    public double meanSteps() {
        if (now.folders.isEmpty()) {
            throw new ArithmeticException();
        }
        double sum = now.folders.keySet().stream().mapToInt(this::steps).sum();
        return sum / now.folders.size();
    }

    public float meanRungs() {
        if (now.folders.isEmpty()) {
            throw new ArithmeticException();
        }
        float sum = account(1);
        return sum / now.folders.size();
    }

    public int account(int what) {
        illegalUnless(in(what, 0, 9));
        int rungs = now.folders.values().stream().mapToInt(folder -> folder.rungs).sum();
        int weights = now.folders.values().stream().mapToInt(folder -> folder.weight).sum();
        int highest = now.folders.values().stream().mapToInt(folder -> folder.rungs - 1).max().orElse(-1);
        int[] accounts = {now.folders.size(), rungs, weights, now.coin, now.tossed, now.heads, now.forgotten.size(),
            highest, earlier.size(), buffer.length()};
        return accounts[what];
    }

    public int undo() {
        if (earlier.isEmpty()) {
            throw new IllegalStateException();
        }
        now = earlier.removeLast();
        return earlier.size();
    }

    public int save() {
        saved = now.copy();
        return saved.folders.size();
    }

    public int restore() {
        if (saved == null) {
            throw new IllegalStateException();
        }
        now = saved.copy();
        earlier.clear();
        return now.folders.size();
    }
}

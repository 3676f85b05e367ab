import java.util.ArrayList;
import java.util.LinkedHashMap;
import java.util.LinkedHashSet;
import java.util.List;
import java.util.Map;
import java.util.NoSuchElementException;
import java.util.Set;

/**
 * The document's words over again, with collections, recursion and exceptions: written apart from
 * the program, so that a misreading or a slip in one of them shows.
 */
final class PlainModel {
    private static final class Circle extends RuntimeException {
        private static final long serialVersionUID = 1;
    }

    private static final class Kept {
        int value;
        List<Integer> reads = List.of();
        int good;
        int changed;
        int ofClass;
        boolean circle;
    }

    private String draft = "";
    private final String[] texts = {"0", "0", "0", "0", "0", "0"};
    private final int[] circleValues = new int[6];
    private final int[][] inputs = new int[3][16];
    private final int[][] inputChanged = new int[3][16];
    private final int[] classes = new int[3];
    /** The class of each edit; the revision is their number. */
    private final List<Integer> edits = new ArrayList<>();
    /** In the recent order. */
    private final Map<Integer, Kept> cells = new LinkedHashMap<>();
    private final List<Integer> underWay = new ArrayList<>();
    private final int[] counts = new int[5];
    private int most = 96;

    int write(long characters) {
        StringBuilder more = new StringBuilder(draft);
        for (int shift = 0; shift < 64; shift += 8) {
            int c = (int) (characters >>> shift) & 0xFF;
            if (c != 0) {
                more.append((char) c);
            }
        }
        if (more.length() > 24) {
            return -1;
        }
        draft = more.toString();
        return draft.length();
    }

    int wipe() {
        int had = draft.length();
        draft = "";
        return had;
    }

    int define(int f) {
        demandRange(f, 0, 5);
        int end;
        try {
            end = parse(draft, 0);
        } catch (NoSuchElementException e) {
            return Integer.parseInt(e.getMessage());
        }
        if (end < draft.length()) {
            return end;
        }
        texts[f] = draft;
        draft = "";
        cells.clear();
        return -1;
    }

    boolean input(int table, int key, int v) {
        demandRange(table, 0, 2);
        demandRange(key, 0, 15);
        if (inputs[table][key] == v) {
            return false;
        }
        inputs[table][key] = v;
        edit(classes[table]);
        inputChanged[table][key] = edits.size();
        return true;
    }

    boolean circle(int f, int v) {
        demandRange(f, 0, 5);
        if (circleValues[f] == v) {
            return false;
        }
        circleValues[f] = v;
        edit(0);
        return true;
    }

    void level(int table, int c) {
        demandRange(table, 0, 2);
        demandRange(c, 0, 2);
        classes[table] = c;
        cells.clear();
    }

    int demand(int f, int key) {
        int number = number(f, key);
        boolean again = true;
        while (again) {
            underWay.clear();
            again = false;
            try {
                ask(number);
            } catch (Circle e) {
                again = true;
            }
        }
        Kept demanded = cells.get(number);
        toEnd(number, demanded);
        cutDown();
        return demanded.value;
    }

    int count(int what) {
        if (what == 0) {
            return edits.size();
        }
        if (what == 5) {
            return cells.size();
        }
        return what > 0 && what < 5 ? counts[what] : -1;
    }

    boolean kept(int f, int key) {
        return cells.containsKey(number(f, key));
    }

    int cell(int f, int key, int what) {
        int number = number(f, key);
        demandRange(what, 0, 5);
        Kept cell = keptCell(number);
        int[] facts = {cell.value, cell.good, cell.changed, cell.ofClass, cell.circle ? 1 : 0,
            cell.reads.size()};
        return facts[what];
    }

    int read(int f, int key, int i) {
        Kept cell = keptCell(number(f, key));
        return i < 0 || i >= cell.reads.size() ? -1 : cell.reads.get(i);
    }

    int recent(int i) {
        List<Integer> order = new ArrayList<>(cells.keySet());
        return i < 0 || i >= order.size() ? -1 : order.get(i);
    }

    int bound(int n) {
        demandRange(n, 1, 96);
        most = n;
        int before = cells.size();
        cutDown();
        return before - cells.size();
    }

    boolean drop(int f, int key) {
        return cells.remove(number(f, key)) != null;
    }

    private static void demandRange(int v, int least, int greatest) {
        if (v < least || v > greatest) {
            throw new IllegalArgumentException();
        }
    }

    private static int number(int f, int key) {
        demandRange(f, 0, 5);
        demandRange(key, 0, 15);
        return 16 * f + key;
    }

    private Kept keptCell(int number) {
        Kept cell = cells.get(number);
        if (cell == null) {
            throw new NoSuchElementException();
        }
        return cell;
    }

    private void edit(int ofClass) {
        edits.add(ofClass);
        cells.values().removeIf(cell -> cell.circle);
    }

    private void cutDown() {
        while (cells.size() > most) {
            cells.remove(cells.keySet().iterator().next());
        }
    }

    private void toEnd(int number, Kept cell) {
        cells.remove(number);
        cells.put(number, cell);
    }

    /** The place behind the expression at a place; NoSuchElementException tells where there is none. */
    private static int parse(String text, int place) {
        if (place == text.length()) {
            throw new NoSuchElementException(String.valueOf(place));
        }
        String c = text.substring(place, place + 1);
        if (c.matches("[0-9k]")) {
            return place + 1;
        }
        if (c.matches("[ghiA-F]")) {
            return parse(text, place + 1);
        }
        if (c.matches("[-+*]")) {
            return parse(text, parse(text, place + 1));
        }
        if (c.equals("?")) {
            return parse(text, parse(text, parse(text, place + 1)));
        }
        throw new NoSuchElementException(String.valueOf(place));
    }

    private void ask(int number) {
        if (underWay.contains(number)) {
            closeCircle(number);
        }
        Kept cell = cells.get(number);
        if (cell != null && cell.good == edits.size()) {
            return;
        }
        if (cell != null && !editedSince(cell)) {
            cell.good = edits.size();
            counts[3]++;
            toEnd(number, cell);
            return;
        }
        if (underWay.size() == 20) {
            throw new IllegalStateException();
        }
        underWay.add(number);
        if (cell == null || someReadChanged(cell)) {
            cell = runCell(number, cell);
            counts[1]++;
        } else {
            cell.good = edits.size();
            cell.ofClass = leastClass(cell.reads);
            counts[2]++;
        }
        toEnd(number, cell);
        underWay.remove(underWay.size() - 1);
    }

    private void closeCircle(int number) {
        for (int n : underWay.subList(underWay.indexOf(number), underWay.size())) {
            Kept cell = new Kept();
            cell.value = circleValues[n / 16];
            cell.good = edits.size();
            cell.changed = edits.size();
            cell.ofClass = 0;
            cell.circle = true;
            toEnd(n, cell);
            counts[4]++;
        }
        throw new Circle();
    }

    private boolean editedSince(Kept cell) {
        // The edit at place i made the revision i + 1.
        return edits.subList(cell.good, edits.size()).stream().anyMatch(c -> c >= cell.ofClass);
    }

    private boolean someReadChanged(Kept cell) {
        for (int read : cell.reads) {
            if (read >= 100) {
                ask(read - 100);
            }
            int changed = read >= 100 ? cells.get(read - 100).changed : inputChanged[read / 16][read % 16];
            if (changed > cell.good) {
                return true;
            }
        }
        return false;
    }

    private int leastClass(List<Integer> reads) {
        return reads.stream()
                .mapToInt(r -> r >= 100 ? cells.get(r - 100).ofClass : classes[r / 16])
                .min().orElse(2);
    }

    private Kept runCell(int number, Kept before) {
        Set<Integer> reads = new LinkedHashSet<>();
        Kept cell = new Kept();
        cell.value = workOut(texts[number / 16], 0, number % 16, reads);
        cell.reads = List.copyOf(reads);
        cell.good = edits.size();
        cell.changed = before != null && before.value == cell.value ? before.changed : edits.size();
        cell.ofClass = leastClass(cell.reads);
        return cell;
    }

    private int workOut(String text, int place, int key, Set<Integer> reads) {
        char c = text.charAt(place);
        if (Character.isDigit(c)) {
            return c - '0';
        }
        if (c == 'k') {
            return key;
        }
        int first = workOut(text, place + 1, key, reads);
        if ("ghi".indexOf(c) >= 0) {
            int table = "ghi".indexOf(c);
            int at = Math.floorMod(first, 16);
            reads.add(16 * table + at);
            return inputs[table][at];
        }
        if ("ABCDEF".indexOf(c) >= 0) {
            int number = 16 * "ABCDEF".indexOf(c) + Math.floorMod(first, 16);
            reads.add(100 + number);
            ask(number);
            return cells.get(number).value;
        }
        int second = parse(text, place + 1);
        if (c == '?') {
            return workOut(text, first != 0 ? second : parse(text, second), key, reads);
        }
        int other = workOut(text, second, key, reads);
        return c == '+' ? first + other : c == '-' ? first - other : first * other;
    }
}

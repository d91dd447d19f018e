import java.util.ArrayList;
import java.util.Collections;
import java.util.IdentityHashMap;
import java.util.List;
import java.util.Random;
import java.util.Set;

/** Long seeded runs of calls, each answer compared with that of a second writing of the document. */
public final class ModelTest {
    private static final int RUNS = 600;
    private static final int CALLS = 512;
    private static final String[] NAMES = {"rule", "say", "put", "copy", "join", "cut", "flat", "sign", "hash",
        "told", "piece", "alike", "intern", "sweep", "entry", "count", "image", "restore"};
    private static int wrong = 0;

    public static void main(String[] args) {
        int deepest = 0;
        int mostPieces = 0;
        int fullTables = 0;
        for (int run = 0; run < RUNS && wrong < 20; run++) {
            RopeShelf shelf = new RopeShelf();
            Model model = new Model();
            Random random = new Random(run);
            for (int call = 0; call < CALLS; call++) {
                int[] made = nextCall(random, run % 6, model);
                int got = onShelf(shelf, made);
                int due = model.answer(made);
                if (got != due) {
                    wrong++;
                    System.out.println("run " + run + ", call " + call + ": " + written(made) + " answered " + got
                            + ", due is " + due);
                    break;
                }
                for (Model.Cell cell : model.slots) {
                    deepest = Math.max(deepest, model.depth(cell));
                    mostPieces = Math.max(mostPieces, model.pieces(cell).size());
                }
                fullTables += model.entries.size() == 24 ? 1 : 0;
            }
        }
        // A run that never comes to the edges would prove little.
        if (deepest < 12 || mostPieces < 100 || fullTables == 0) {
            wrong++;
            System.out.println("the runs are too tame: " + deepest + " " + mostPieces + " " + fullTables);
        }
        System.out.println(wrong == 0 ? "all runs answer as the model does" : "some runs differ");
        if (wrong != 0) {
            System.exit(1);
        }
    }

    private static String written(int[] c) {
        return NAMES[c[0]] + "(" + c[1] + ", " + c[2] + ", " + c[3] + ", " + c[4] + ")";
    }

    private static int slot(Random r) {
        if (r.nextInt(60) == 0) {
            return new int[] {-1, 8, Integer.MAX_VALUE, Integer.MIN_VALUE}[r.nextInt(4)];
        }
        return r.nextInt(8);
    }

    private static int within(Random r, int least, int greatest) {
        if (r.nextInt(60) == 0) {
            return new int[] {least - 1, greatest + 1, Integer.MAX_VALUE, Integer.MIN_VALUE}[r.nextInt(4)];
        }
        return least + r.nextInt(greatest - least + 1);
    }

    private static int chosen(Random r, int[] weights) {
        int all = 0;
        for (int w : weights) {
            all += w;
        }
        int at = r.nextInt(all);
        for (int i = 0; i < weights.length; i++) {
            at -= weights[i];
            if (at < 0) {
                return i;
            }
        }
        return 0;
    }

    // The styles: 0 all alike; 1 deep ropes; 2 many pieces; 3 the table; 4 cuts and flats; 5 images.
    private static final int[][] WEIGHTS = {
        {4, 20, 10, 5, 15, 12, 4, 4, 4, 12, 8, 8, 6, 2, 4, 8, 1, 1},
        {1, 8, 8, 3, 40, 8, 1, 2, 2, 16, 10, 3, 2, 1, 1, 6, 1, 1},
        {3, 6, 6, 2, 40, 16, 1, 2, 2, 16, 10, 3, 1, 1, 1, 4, 0, 0},
        {2, 20, 16, 5, 10, 12, 3, 1, 1, 4, 2, 4, 40, 1, 8, 6, 1, 1},
        {4, 16, 6, 6, 20, 30, 8, 3, 3, 16, 12, 6, 3, 1, 2, 8, 1, 1},
        {2, 16, 8, 8, 16, 12, 8, 2, 3, 12, 6, 6, 6, 3, 4, 8, 6, 6}};

    private static int[] nextCall(Random r, int style, Model model) {
        int[] c = new int[5];
        c[0] = chosen(r, WEIGHTS[style]);
        switch (c[0]) {
            case 0:
                ruleCall(r, style, c);
                break;
            case 1:
                c[1] = within(r, 1, r.nextInt(4) == 0 ? 9999 : r.nextBoolean() ? 3 : 300);
                break;
            case 3:
                c[1] = slot(r);
                c[2] = slot(r);
                break;
            case 4:
                c[1] = slot(r);
                c[2] = slot(r);
                c[3] = slot(r);
                break;
            case 5:
                cutCall(r, model, c);
                break;
            case 7:
                c[1] = slot(r);
                c[2] = within(r, 0, 20);
                break;
            case 9:
                c[1] = slot(r);
                c[2] = within(r, 0, 6);
                break;
            case 10:
                c[1] = slot(r);
                c[2] = within(r, 0, r.nextBoolean() ? 3 : 40);
                c[3] = within(r, 0, 3);
                break;
            case 11:
                c[1] = slot(r);
                c[2] = slot(r);
                c[3] = within(r, 0, 4);
                break;
            case 14:
                c[1] = within(r, 0, 12);
                c[2] = within(r, 0, 2);
                break;
            case 15:
                c[1] = r.nextInt(4) == 0 ? within(r, 10, 12) : within(r, 0, 5);
                break;
            case 16:
            case 17:
                c[1] = within(r, 0, 1);
                break;
            default:
                c[1] = slot(r);
        }
        return c;
    }

    private static void ruleCall(Random r, int style, int[] c) {
        c[1] = within(r, 0, 2);
        c[2] = c[1] == 0 ? within(r, 0, 32) : c[1] == 1 ? within(r, 1, 12) : within(r, 1, 8);
        if ((style == 1 || style == 2) && c[1] == 0) {
            c[2] = r.nextInt(3);
        }
        if (style == 1 && c[1] == 1) {
            c[2] = 12 - r.nextInt(2) * r.nextInt(12);
        }
    }

    private static void cutCall(Random r, Model model, int[] c) {
        c[1] = slot(r);
        c[2] = slot(r);
        int many = c[2] >= 0 && c[2] < 8 ? model.text(model.slots[c[2]]).size() : 5;
        c[3] = within(r, 0, many);
        int rest = Math.max(0, many - Math.max(0, Math.min(c[3], many)));
        c[4] = within(r, 0, rest);
        if (r.nextInt(8) == 0) {
            c[4] = rest;
        }
    }

    private static int onShelf(RopeShelf x, int[] c) {
        switch (c[0]) {
            case 0: return x.rule(c[1], c[2]);
            case 1: return x.say(c[1]);
            case 2: return x.put(c[1]);
            case 3: return x.copy(c[1], c[2]);
            case 4: return x.join(c[1], c[2], c[3]);
            case 5: return x.cut(c[1], c[2], c[3], c[4]);
            case 6: return x.flat(c[1]);
            case 7: return x.sign(c[1], c[2]);
            case 8: return x.hash(c[1]);
            case 9: return x.told(c[1], c[2]);
            case 10: return x.piece(c[1], c[2], c[3]);
            case 11: return x.alike(c[1], c[2], c[3]);
            case 12: return x.intern(c[1]);
            case 13: return x.sweep();
            case 14: return x.entry(c[1], c[2]);
            case 15: return x.count(c[1]);
            case 16: return x.image(c[1]);
            default: return x.restore(c[1]);
        }
    }

    /** The document once more, with lists and sets and no thought of room or speed. */
    private static final class Model {
        static final class Cell {
            List<Integer> leaf;
            Cell left;
            Cell right;
            Cell base;
            int from;
            int to;
        }

        record Entry(int number, Cell cell) { }

        final Cell[] slots = new Cell[8];
        final Cell[][] images = new Cell[2][];
        final int[] rules = {8, 6, 4};
        List<Integer> draft = new ArrayList<>();
        final List<Entry> entries = new ArrayList<>();
        int ever = 0;

        Model() {
            for (int i = 0; i < 8; i++) {
                slots[i] = leaf(List.of());
            }
        }

        static Cell leaf(List<Integer> signs) {
            Cell cell = new Cell();
            cell.leaf = new ArrayList<>(signs);
            return cell;
        }

        static Cell pair(Cell left, Cell right) {
            Cell cell = new Cell();
            cell.left = left;
            cell.right = right;
            return cell;
        }

        List<Integer> text(Cell cell) {
            if (cell.leaf != null) {
                return cell.leaf;
            }
            if (cell.base != null) {
                return text(cell.base).subList(cell.from, cell.to);
            }
            List<Integer> both = new ArrayList<>(text(cell.left));
            both.addAll(text(cell.right));
            return both;
        }

        int depth(Cell cell) {
            return cell.left == null ? 0 : 1 + Math.max(depth(cell.left), depth(cell.right));
        }

        List<Cell> pieces(Cell cell) {
            List<Cell> all = new ArrayList<>();
            if (cell.left == null) {
                all.add(cell);
            } else {
                all.addAll(pieces(cell.left));
                all.addAll(pieces(cell.right));
            }
            return all;
        }

        Cell joined(Cell a, Cell b) {
            List<Integer> both = new ArrayList<>(text(a));
            both.addAll(text(b));
            if (text(b).isEmpty()) {
                return a;
            }
            if (text(a).isEmpty()) {
                return b;
            }
            if (both.size() <= rules[0]) {
                return leaf(both);
            }
            Cell made = pair(a, b);
            return depth(made) > rules[1] ? balanced(pieces(made)) : made;
        }

        Cell balanced(List<Cell> row) {
            if (row.size() == 1) {
                return row.get(0);
            }
            int half = row.size() / 2;
            return pair(balanced(row.subList(0, half)), balanced(row.subList(half, row.size())));
        }

        Cell cutOut(Cell cell, int f, int n) {
            if (n == 0) {
                return leaf(List.of());
            }
            if (n == text(cell).size()) {
                return cell;
            }
            if (cell.leaf != null) {
                if (n * rules[2] < cell.leaf.size()) {
                    return leaf(cell.leaf.subList(f, f + n));
                }
                Cell slice = new Cell();
                slice.base = cell;
                slice.from = f;
                slice.to = f + n;
                return slice;
            }
            if (cell.base != null) {
                return cutOut(cell.base, cell.from + f, n);
            }
            int middle = text(cell.left).size();
            if (f + n <= middle) {
                return cutOut(cell.left, f, n);
            }
            if (f >= middle) {
                return cutOut(cell.right, f - middle, n);
            }
            return joined(cutOut(cell.left, f, middle - f), cutOut(cell.right, 0, f + n - middle));
        }

        Set<Cell> reached(Cell... roots) {
            Set<Cell> all = Collections.newSetFromMap(new IdentityHashMap<>());
            for (Cell root : roots) {
                gather(root, all);
            }
            return all;
        }

        void gather(Cell cell, Set<Cell> all) {
            if (cell != null && all.add(cell)) {
                gather(cell.left, all);
                gather(cell.right, all);
                gather(cell.base, all);
            }
        }

        static boolean wide(List<Integer> signs) {
            return signs.stream().anyMatch(s -> s > 255);
        }

        int room(Set<Cell> cells) {
            int sum = 0;
            for (Cell c : cells) {
                sum += c.leaf != null ? 24 + c.leaf.size() * (wide(c.leaf) ? 2 : 1) : c.base != null ? 28 : 24;
            }
            return sum;
        }

        static boolean slot(int i) {
            return i >= 0 && i <= 7;
        }

        int answer(int[] c) {
            switch (c[0]) {
                case 0: return rule(c[1], c[2]);
                case 1: return say(c[1]);
                case 2: return put(c[1]);
                case 3: return copy(c[1], c[2]);
                case 4: return join(c[1], c[2], c[3]);
                case 5: return cut(c[1], c[2], c[3], c[4]);
                case 6: return flat(c[1]);
                case 7: return sign(c[1], c[2]);
                case 8: return slot(c[1]) ? text(slots[c[1]]).stream().reduce(0, (h, s) -> 31 * h + s) : 0;
                case 9: return told(c[1], c[2]);
                case 10: return piece(c[1], c[2], c[3]);
                case 11: return alike(c[1], c[2], c[3]);
                case 12: return intern(c[1]);
                case 13: return sweep();
                case 14: return entry(c[1], c[2]);
                case 15: return count(c[1]);
                case 16: return image(c[1]);
                default: return restore(c[1]);
            }
        }

        int rule(int what, int n) {
            boolean fits = what == 0 && n >= 0 && n <= 32 || what == 1 && n >= 1 && n <= 12
                    || what == 2 && n >= 1 && n <= 8;
            if (!fits) {
                return -2;
            }
            int was = rules[what];
            rules[what] = n;
            return was;
        }

        int say(int sign) {
            if (sign < 1 || sign > 9999) {
                return -2;
            }
            if (draft.size() == 40) {
                return -4;
            }
            draft.add(sign);
            return draft.size();
        }

        int put(int slot) {
            if (!slot(slot)) {
                return -1;
            }
            slots[slot] = leaf(draft);
            draft = new ArrayList<>();
            return text(slots[slot]).size();
        }

        int copy(int to, int from) {
            if (!slot(to) || !slot(from)) {
                return -1;
            }
            slots[to] = slots[from];
            return text(slots[to]).size();
        }

        int join(int to, int a, int b) {
            if (!slot(to) || !slot(a) || !slot(b)) {
                return -1;
            }
            if (text(slots[a]).size() + text(slots[b]).size() > 120) {
                return -4;
            }
            slots[to] = joined(slots[a], slots[b]);
            return text(slots[to]).size();
        }

        int cut(int to, int from, int f, int n) {
            if (!slot(to) || !slot(from)) {
                return -1;
            }
            if (f < 0 || n < 0 || (long) f + n > text(slots[from]).size()) {
                return -2;
            }
            slots[to] = cutOut(slots[from], f, n);
            return n;
        }

        int flat(int slot) {
            if (!slot(slot)) {
                return -1;
            }
            Cell cell = slots[slot];
            int had = pieces(cell).size();
            cell.leaf = new ArrayList<>(text(cell));
            cell.left = null;
            cell.right = null;
            cell.base = null;
            return had;
        }

        int sign(int slot, int i) {
            if (!slot(slot)) {
                return -1;
            }
            List<Integer> text = text(slots[slot]);
            return i < 0 || i >= text.size() ? -6 : text.get(i);
        }

        int told(int slot, int what) {
            if (!slot(slot)) {
                return -1;
            }
            Cell cell = slots[slot];
            switch (what) {
                case 0: return text(cell).size();
                case 1: return cell.leaf != null ? 0 : cell.left != null ? 1 : 2;
                case 2: return depth(cell);
                case 3: return pieces(cell).size();
                case 4: return reached(cell).size();
                case 5: return room(reached(cell));
                case 6: return wide(text(cell)) ? 1 : 0;
                default: return -2;
            }
        }

        int piece(int slot, int i, int what) {
            if (!slot(slot)) {
                return -1;
            }
            if (what < 0 || what > 3) {
                return -2;
            }
            List<Cell> row = pieces(slots[slot]);
            if (i < 0 || i >= row.size()) {
                return -6;
            }
            Cell cell = row.get(i);
            switch (what) {
                case 0: return text(cell).size();
                case 1: return cell.leaf != null ? 0 : cell.from;
                case 2: return cell.leaf != null ? cell.leaf.size() : cell.base.leaf.size();
                default: return row.indexOf(cell);
            }
        }

        int alike(int one, int other, int what) {
            if (!slot(one) || !slot(other)) {
                return -1;
            }
            List<Integer> a = text(slots[one]);
            List<Integer> b = text(slots[other]);
            int same = 0;
            while (same < a.size() && same < b.size() && a.get(same).equals(b.get(same))) {
                same++;
            }
            switch (what) {
                case 0: return a.equals(b) ? 1 : 0;
                case 1: return slots[one] == slots[other] ? 1 : 0;
                case 2: return same;
                case 3:
                    int place = Collections.indexOfSubList(a, b);
                    return place < 0 ? -6 : place;
                case 4:
                    boolean shorter = same == a.size() && same < b.size();
                    return shorter || same < a.size() && same < b.size() && a.get(same) < b.get(same) ? 1 : 0;
                default: return -2;
            }
        }

        int intern(int slot) {
            if (!slot(slot)) {
                return -1;
            }
            for (Entry e : entries) {
                if (text(e.cell).equals(text(slots[slot]))) {
                    slots[slot] = e.cell;
                    return e.number;
                }
            }
            if (entries.size() == 24) {
                return -4;
            }
            entries.add(new Entry(ever, slots[slot]));
            return ever++;
        }

        int sweep() {
            int before = entries.size();
            Set<Cell> held = reached(slots);
            entries.removeIf(e -> !held.contains(e.cell));
            return before - entries.size();
        }

        int entry(int i, int what) {
            if (what < 0 || what > 2) {
                return -2;
            }
            if (i < 0 || i >= entries.size()) {
                return -6;
            }
            Entry e = entries.get(i);
            int holders = 0;
            for (Cell cell : slots) {
                holders += cell == e.cell ? 1 : 0;
            }
            return what == 0 ? e.number : what == 1 ? text(e.cell).size() : holders;
        }

        int count(int what) {
            switch (what) {
                case 0: return reached(slots).size();
                case 1: return room(reached(slots));
                case 2: return entries.size();
                case 3: return ever;
                case 4: return draft.size();
                case 5: return (images[0] != null ? 1 : 0) + (images[1] != null ? 2 : 0);
                case 10: return rules[0];
                case 11: return rules[1];
                case 12: return rules[2];
                default: return -2;
            }
        }

        int image(int k) {
            if (k < 0 || k > 1) {
                return -2;
            }
            images[k] = slots.clone();
            return 1;
        }

        int restore(int k) {
            if (k < 0 || k > 1) {
                return -2;
            }
            if (images[k] == null) {
                return -3;
            }
            System.arraycopy(images[k], 0, slots, 0, 8);
            return 1;
        }
    }
}

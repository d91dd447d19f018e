/** Texts as ropes and slices. ../shared/DOC.md says what every call promises. */
public final class RopeShelf {
    public static final int UNKNOWN = -1, OUTSIDE = -2, STATE = -3, FULL = -4, NONE = -6;

    private static final int SLOTS = 8;
    private static final int IMAGES = 2;
    private static final int MOST_SIGNS = 120;
    private static final int MOST_DRAFTED = 40;
    private static final int MOST_ENTRIES = 24;
    private static final int GREATEST_SIGN = 9999;
    private static final int GREATEST_NARROW_SIGN = 255;

    private static final int LEAF = 0, JOIN = 1, SLICE = 2;

    private static final int SMALL = 0, DEEP = 1, LOOSE = 2;
    private static final int[] LEAST_RULES = {0, 1, 1};
    private static final int[] GREATEST_RULES = {32, 12, 8};
    private static final int FIRST_RULE_COUNT = 10;

    // The rules keep every rope at depth 12 or less; this only ends a recursion that could not come.
    private static final int DEEPEST = 40;

    private final Cell[] slots = new Cell[SLOTS];
    private final Cell[] firstImage = new Cell[SLOTS];
    private final Cell[] secondImage = new Cell[SLOTS];
    private int imagesKept = 0;
    private final Text draft = new Text();
    private final Table table = new Table();
    private final Pieces pieces = new Pieces();
    private final Weaver weaver = new Weaver();
    private final Walk walk = new Walk();
    // Rows that calls read texts into: made once, since all that a run makes is counted.
    private final Text firstText = new Text();
    private final Text secondText = new Text();

    public RopeShelf() {
        for (int i = 0; i < slots.length; i++) {
            slots[i] = Cell.emptyLeaf();
        }
    }

    // ---- 1 texts

    public int rule(int what, int n) {
        if (!isRule(what) || n < LEAST_RULES[what] || n > GREATEST_RULES[what]) {
            return OUTSIDE;
        }
        int before = weaver.rules[what];
        weaver.rules[what] = n;
        return before;
    }

    public int say(int sign) {
        if (sign < 1 || sign > GREATEST_SIGN) {
            return OUTSIDE;
        }
        if (draft.many >= MOST_DRAFTED) {
            return FULL;
        }
        draft.addSign(sign);
        return draft.many;
    }

    public int put(int slot) {
        if (!isSlot(slot)) {
            return UNKNOWN;
        }
        Cell made = Cell.leaf(draft);
        draft.clear();
        return hold(slot, made);
    }

    public int copy(int to, int from) {
        Cell cell = cellOf(from);
        if (!isSlot(to) || cell == null) {
            return UNKNOWN;
        }
        return hold(to, cell);
    }

    public int join(int to, int a, int b) {
        Cell left = cellOf(a);
        Cell right = cellOf(b);
        if (!isSlot(to) || left == null || right == null) {
            return UNKNOWN;
        }
        if (left.many + right.many > MOST_SIGNS) {
            return FULL;
        }
        weaver.beginTurn();
        return hold(to, weaver.joined(left, right));
    }

    public int cut(int to, int from, int f, int n) {
        Cell cell = cellOf(from);
        if (!isSlot(to) || cell == null) {
            return UNKNOWN;
        }
        // Subtracted, not added: f and n together may be more than an int can hold.
        if (f < 0 || n < 0 || f > cell.many || n > cell.many - f) {
            return OUTSIDE;
        }
        weaver.beginTurn();
        return hold(to, weaver.cutOut(cell, f, n, 0));
    }

    public int flat(int slot) {
        Cell cell = cellOf(slot);
        if (cell == null) {
            return UNKNOWN;
        }
        pieces.read(cell);
        if (cell.kind != LEAF) {
            firstText.read(cell);
            cell.becomeLeaf(firstText);
        }
        return pieces.many;
    }

    // ---- 2 what is told

    public int sign(int slot, int i) {
        Cell cell = cellOf(slot);
        if (cell == null) {
            return UNKNOWN;
        }
        if (i < 0 || i >= cell.many) {
            return NONE;
        }
        firstText.read(cell);
        return firstText.signAt(i);
    }

    public int hash(int slot) {
        Cell cell = cellOf(slot);
        if (cell == null) {
            return 0;
        }
        firstText.read(cell);
        return firstText.hashed();
    }

    public int told(int slot, int what) {
        Cell cell = cellOf(slot);
        if (cell == null) {
            return UNKNOWN;
        }
        switch (what) {
            case 0:
                return cell.many;
            case 1:
                return cell.kind;
            case 2:
                return cell.depth();
            case 3:
                pieces.read(cell);
                return pieces.many;
            case 4:
                walk.overCell(cell);
                return walk.cells;
            case 5:
                walk.overCell(cell);
                return walk.room;
            case 6:
                firstText.read(cell);
                return asNumber(firstText.isWide());
            default:
                return OUTSIDE;
        }
    }

    public int piece(int slot, int i, int what) {
        Cell cell = cellOf(slot);
        if (cell == null) {
            return UNKNOWN;
        }
        if (what < 0 || what > 3) {
            return OUTSIDE;
        }
        pieces.read(cell);
        Cell found = pieces.at(i);
        if (found == null) {
            return NONE;
        }
        switch (what) {
            case 0:
                return found.many;
            case 1:
                return found.from;
            case 2:
                return found.base == null ? found.many : found.base.many;
            default:
                return pieces.firstPlaceOf(found);
        }
    }

    public int alike(int one, int other, int what) {
        Cell first = cellOf(one);
        Cell second = cellOf(other);
        if (first == null || second == null) {
            return UNKNOWN;
        }
        if (what < 0 || what > 4) {
            return OUTSIDE;
        }
        if (what == 1) {
            return asNumber(first == second);
        }
        firstText.read(first);
        secondText.read(second);
        return compareTexts(what);
    }

    // ---- 3 the table

    public int intern(int slot) {
        Cell cell = cellOf(slot);
        if (cell == null) {
            return UNKNOWN;
        }
        int place = placeInTable(cell);
        if (place < 0) {
            return table.isFull() ? FULL : table.enter(cell);
        }
        hold(slot, table.cellAt(place));
        return table.numberAt(place);
    }

    public int sweep() {
        walk.overAll(slots);
        return table.dropUnmarked(walk);
    }

    public int entry(int i, int what) {
        if (what < 0 || what > 2) {
            return OUTSIDE;
        }
        Cell cell = table.cellAt(i);
        if (cell == null) {
            return NONE;
        }
        switch (what) {
            case 0:
                return table.numberAt(i);
            case 1:
                return cell.many;
            default:
                return slotsWith(cell);
        }
    }

    public int count(int what) {
        switch (what) {
            case 0:
                walk.overAll(slots);
                return walk.cells;
            case 1:
                walk.overAll(slots);
                return walk.room;
            case 2:
                return table.size;
            case 3:
                return table.ever;
            case 4:
                return draft.many;
            case 5:
                return imagesKept;
            default:
                int rule = what - FIRST_RULE_COUNT;
                return isRule(rule) ? weaver.rules[rule] : OUTSIDE;
        }
    }

    // ---- 4 images

    public int image(int k) {
        if (!isImage(k)) {
            return OUTSIDE;
        }
        moveCells(slots, imageRow(k));
        imagesKept |= 1 << k;
        return 1;
    }

    public int restore(int k) {
        if (!isImage(k)) {
            return OUTSIDE;
        }
        if ((imagesKept & 1 << k) == 0) {
            return STATE;
        }
        moveCells(imageRow(k), slots);
        return 1;
    }

    // ---- what the calls share

    private static boolean isSlot(int slot) {
        return slot >= 0 && slot < SLOTS;
    }

    private static boolean isRule(int what) {
        return what >= SMALL && what <= LOOSE;
    }

    private static boolean isImage(int k) {
        return k >= 0 && k < IMAGES;
    }

    private static int asNumber(boolean yes) {
        return yes ? 1 : 0;
    }

    /** The cell that a slot holds; null if there is no such slot. */
    private Cell cellOf(int slot) {
        return isSlot(slot) ? slots[slot] : null;
    }

    private int hold(int slot, Cell cell) {
        if (!isSlot(slot) || cell == null) {
            return UNKNOWN;
        }
        slots[slot] = cell;
        return cell.many;
    }

    private int compareTexts(int what) {
        switch (what) {
            case 0:
                return asNumber(firstText.isSameAs(secondText));
            case 2:
                return firstText.samePlaces(secondText);
            case 3:
                return firstText.placeOf(secondText);
            default:
                return asNumber(firstText.comesBefore(secondText));
        }
    }

    /** Where the entry with the text of a cell stands in the table; NONE if there is none. */
    private int placeInTable(Cell cell) {
        firstText.read(cell);
        for (int i = 0; i < table.size; i++) {
            secondText.read(table.cellAt(i));
            if (firstText.isSameAs(secondText)) {
                return i;
            }
        }
        return NONE;
    }

    private int slotsWith(Cell cell) {
        int found = 0;
        for (int i = 0; i < slots.length; i++) {
            if (slots[i] == cell) {
                found++;
            }
        }
        return found;
    }

    private Cell[] imageRow(int k) {
        return k == 0 ? firstImage : secondImage;
    }

    private static void moveCells(Cell[] from, Cell[] to) {
        for (int i = 0; i < from.length && i < to.length; i++) {
            to[i] = from[i];
        }
    }

    /**
     * A leaf, a join or a slice. One class for all three, since a join or a slice that is flattened
     * becomes a leaf for all who have it.
     */
    private static final class Cell {
        int kind;
        /** How many signs the text has; that never changes, whatever becomes of the cell. */
        int many;
        int[] signs;
        Cell left;
        Cell right;
        Cell base;
        int from;
        /** The weaver's turn in which a join was made. */
        int madeIn;
        /** The last walk that came by. */
        int mark;

        static Cell emptyLeaf() {
            Cell cell = new Cell();
            cell.kind = LEAF;
            cell.signs = new int[0];
            return cell;
        }

        static Cell leaf(Text text) {
            Cell cell = new Cell();
            cell.many = text.many;
            cell.becomeLeaf(text);
            return cell;
        }

        static Cell slice(Cell base, int from, int many) {
            Cell cell = new Cell();
            cell.kind = SLICE;
            cell.base = base;
            cell.from = from;
            cell.many = many;
            return cell;
        }

        void becomeLeaf(Text text) {
            signs = text.toRow();
            kind = LEAF;
            left = null;
            right = null;
            base = null;
            from = 0;
        }

        int signAt(int i) {
            return signs != null && i >= 0 && i < signs.length ? signs[i] : 0;
        }

        int depth() {
            return depthOf(this, 0);
        }

        // Not kept in the cell: a cell further down may become flat at any time.
        private static int depthOf(Cell cell, int level) {
            if (cell == null || cell.kind != JOIN || level > DEEPEST) {
                return 0;
            }
            return 1 + Math.max(depthOf(cell.left, level + 1), depthOf(cell.right, level + 1));
        }

        int room() {
            switch (kind) {
                case JOIN:
                    return 24;
                case SLICE:
                    return 28;
                default:
                    return 24 + (hasWideSign() ? 2 * many : many);
            }
        }

        private boolean hasWideSign() {
            for (int i = 0; i < many; i++) {
                if (signAt(i) > GREATEST_NARROW_SIGN) {
                    return true;
                }
            }
            return false;
        }
    }

    /** A text laid out in a row that is used again. */
    private static final class Text {
        private final int[] row = new int[MOST_SIGNS];
        int many;

        void clear() {
            many = 0;
        }

        void addSign(int sign) {
            if (many >= 0 && many < row.length) {
                row[many] = sign;
                many++;
            }
        }

        void read(Cell cell) {
            many = 0;
            addCell(cell, 0);
        }

        void readBoth(Cell left, Cell right) {
            many = 0;
            addCell(left, 0);
            addCell(right, 0);
        }

        void readPart(Cell leaf, int from, int count) {
            many = 0;
            addSigns(leaf, from, count);
        }

        private void addCell(Cell cell, int level) {
            if (cell == null || level > DEEPEST) {
                return;
            }
            if (cell.kind == JOIN) {
                addCell(cell.left, level + 1);
                addCell(cell.right, level + 1);
            } else if (cell.kind == SLICE) {
                addSigns(cell.base, cell.from, cell.many);
            } else {
                addSigns(cell, 0, cell.many);
            }
        }

        private void addSigns(Cell leaf, int from, int count) {
            if (leaf == null) {
                return;
            }
            for (int i = 0; i < count; i++) {
                addSign(leaf.signAt(from + i));
            }
        }

        int[] toRow() {
            int[] copied = new int[many < 0 ? 0 : many];
            for (int i = 0; i < copied.length; i++) {
                copied[i] = signAt(i);
            }
            return copied;
        }

        /** The sign at a place, 0 if there is none: less than every sign. */
        int signAt(int i) {
            return i >= 0 && i < many && i < row.length ? row[i] : 0;
        }

        int hashed() {
            int h = 0;
            for (int i = 0; i < many; i++) {
                h = 31 * h + signAt(i);
            }
            return h;
        }

        boolean isWide() {
            for (int i = 0; i < many; i++) {
                if (signAt(i) > GREATEST_NARROW_SIGN) {
                    return true;
                }
            }
            return false;
        }

        boolean isSameAs(Text that) {
            return many == that.many && samePlaces(that) == many;
        }

        int samePlaces(Text that) {
            int most = Math.min(many, that.many);
            for (int i = 0; i < most; i++) {
                if (signAt(i) != that.signAt(i)) {
                    return i;
                }
            }
            return most;
        }

        boolean comesBefore(Text that) {
            int place = samePlaces(that);
            return signAt(place) < that.signAt(place);
        }

        int placeOf(Text part) {
            for (int place = 0; place <= many - part.many; place++) {
                if (hasAt(place, part)) {
                    return place;
                }
            }
            return NONE;
        }

        private boolean hasAt(int place, Text part) {
            for (int i = 0; i < part.many; i++) {
                if (signAt(place + i) != part.signAt(i)) {
                    return false;
                }
            }
            return true;
        }
    }

    /** The pieces of a cell, from left to right. Each piece of a join has a sign, so the row is long enough. */
    private static final class Pieces {
        private final Cell[] row = new Cell[MOST_SIGNS];
        int many;

        void read(Cell cell) {
            many = 0;
            addPieces(cell, 0);
        }

        void readBoth(Cell left, Cell right) {
            read(left);
            addPieces(right, 0);
        }

        private void addPieces(Cell cell, int level) {
            if (cell == null || level > DEEPEST) {
                return;
            }
            if (cell.kind == JOIN) {
                addPieces(cell.left, level + 1);
                addPieces(cell.right, level + 1);
            } else if (many >= 0 && many < row.length) {
                row[many] = cell;
                many++;
            }
        }

        /** The piece at a place; null if there is none. */
        Cell at(int i) {
            return i >= 0 && i < many && i < row.length ? row[i] : null;
        }

        int firstPlaceOf(Cell cell) {
            for (int i = 0; i < many; i++) {
                if (at(i) == cell) {
                    return i;
                }
            }
            return NONE;
        }
    }

    /** Joins cells and cuts them, by the rules as they are then. */
    private static final class Weaver {
        final int[] rules = {8, 6, 4};
        private final Pieces pieces = new Pieces();
        private final Text text = new Text();
        private int turn = 0;
        /**
         * Joins that nobody has, chained by their left cells. A cut may balance at every level what the
         * level above it balances again: without these, its joins could fill the room.
         */
        private Cell spare = null;

        void beginTurn() {
            turn++;
        }

        private Cell joined(Cell a, Cell b) {
            if (b == null || b.many == 0) {
                return a;
            }
            if (a == null || a.many == 0) {
                return b;
            }
            if (a.many + b.many <= rules[SMALL]) {
                text.readBoth(a, b);
                return Cell.leaf(text);
            }
            if (1 + Math.max(a.depth(), b.depth()) <= rules[DEEP]) {
                return newJoin(a, b);
            }
            pieces.readBoth(a, b);
            release(a, 0);
            release(b, 0);
            return balanced(0, pieces.many, 0);
        }

        private Cell balanced(int first, int many, int level) {
            if (many < 2 || level > DEEPEST) {
                return pieces.at(first);
            }
            int half = many / 2;
            return newJoin(balanced(first, half, level + 1), balanced(first + half, many - half, level + 1));
        }

        private Cell newJoin(Cell left, Cell right) {
            Cell cell = spare;
            if (cell == null) {
                cell = new Cell();
            } else {
                spare = cell.left;
            }
            cell.kind = JOIN;
            cell.left = left;
            cell.right = right;
            cell.many = (left == null ? 0 : left.many) + (right == null ? 0 : right.many);
            cell.madeIn = turn;
            return cell;
        }

        // Only joins of this turn: no slot, image, entry or older join can have them yet, and each of
        // them has but one owner, which goes with it.
        private void release(Cell cell, int level) {
            if (cell == null || level > DEEPEST || cell.kind != JOIN || cell.madeIn != turn) {
                return;
            }
            release(cell.left, level + 1);
            release(cell.right, level + 1);
            cell.left = spare;
            cell.right = null;
            spare = cell;
        }

        private Cell cutOut(Cell cell, int f, int n, int level) {
            if (cell == null || n <= 0 || level > DEEPEST) {
                return Cell.emptyLeaf();
            }
            if (n == cell.many) {
                return cell;
            }
            switch (cell.kind) {
                case JOIN:
                    return cutOutOfJoin(cell, f, n, level);
                case SLICE:
                    return cutOutOfLeaf(cell.base, cell.from + f, n);
                default:
                    return cutOutOfLeaf(cell, f, n);
            }
        }

        private Cell cutOutOfLeaf(Cell leaf, int f, int n) {
            if (leaf != null && n * rules[LOOSE] >= leaf.many) {
                return Cell.slice(leaf, f, n);
            }
            text.readPart(leaf, f, n);
            return Cell.leaf(text);
        }

        private Cell cutOutOfJoin(Cell join, int f, int n, int level) {
            int middle = join.left == null ? 0 : join.left.many;
            if (f + n <= middle) {
                return cutOut(join.left, f, n, level + 1);
            }
            if (f >= middle) {
                return cutOut(join.right, f - middle, n, level + 1);
            }
            Cell left = cutOut(join.left, f, middle - f, level + 1);
            Cell right = cutOut(join.right, 0, f + n - middle, level + 1);
            return joined(left, right);
        }
    }

    /** Goes over cells, and all that they have, and counts each once. */
    private static final class Walk {
        private int stamp = 0;
        int cells;
        int room;

        void overCell(Cell cell) {
            begin();
            visit(cell, 0);
        }

        void overAll(Cell[] roots) {
            begin();
            for (int i = 0; i < roots.length; i++) {
                visit(roots[i], 0);
            }
        }

        boolean cameBy(Cell cell) {
            return cell != null && cell.mark == stamp;
        }

        private void begin() {
            stamp++;
            cells = 0;
            room = 0;
        }

        private void visit(Cell cell, int level) {
            if (cell == null || cameBy(cell) || level > DEEPEST) {
                return;
            }
            cell.mark = stamp;
            cells++;
            room += cell.room();
            visit(cell.left, level + 1);
            visit(cell.right, level + 1);
            visit(cell.base, level + 1);
        }
    }

    /** The entries that are there, in the order of their numbers. */
    private static final class Table {
        private final Cell[] row = new Cell[MOST_ENTRIES];
        private final int[] numbers = new int[MOST_ENTRIES];
        int size = 0;
        /** How many entries there ever were: the next one's number. */
        int ever = 0;

        boolean isFull() {
            return size >= MOST_ENTRIES;
        }

        Cell cellAt(int i) {
            return i >= 0 && i < size && i < row.length ? row[i] : null;
        }

        int numberAt(int i) {
            return i >= 0 && i < size && i < numbers.length ? numbers[i] : NONE;
        }

        int enter(Cell cell) {
            int number = ever;
            ever++;
            place(cell, number);
            return number;
        }

        /** Lets all entries go whose cells a walk did not come by: how many. */
        int dropUnmarked(Walk walk) {
            int before = size;
            size = 0;
            for (int i = 0; i < before && i < row.length; i++) {
                if (walk.cameBy(row[i])) {
                    place(row[i], numbers[i]);
                }
            }
            return before - size;
        }

        private void place(Cell cell, int number) {
            if (size >= 0 && size < row.length) {
                row[size] = cell;
                numbers[size] = number;
                size++;
            }
        }
    }
}

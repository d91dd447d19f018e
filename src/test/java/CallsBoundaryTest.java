/** Each sentence of promises 1 to 19 that names a boundary case, tested by itself and named by its words, shortened where they are many. */
public final class CallsBoundaryTest extends ShelfTest {
    private static final int[] NO_IMAGES = {-1, 2, 32, LEAST, GREATEST};

    public static void main(String[] args) {
        newObject();
        ruleFromNowOn();
        ruleOutside();
        sayAnswers();
        sayOutside();
        sayFull();
        putTakesTheDraft();
        putUnknown();
        copyTheSame();
        copyUnknown();
        joinOneSlot();
        joinUnknown();
        joinFull();
        cutTheSame();
        cutUnknown();
        cutBelowNone();
        cutNotSoMany();
        flatAnswers();
        flatUnknown();
        signNone();
        signUnknown();
        hashOfNoSlot();
        toldSignsAndKinds();
        toldUnlikeCells();
        toldRoomOnce();
        toldAbove255();
        toldRefuses();
        pieceTells();
        pieceNone();
        pieceRefuses();
        alikeTexts();
        alikeCells();
        alikeFirstPlaces();
        alikeStandsIn();
        alikeComesFirst();
        alikeRefuses();
        internFull();
        internUnknown();
        sweepAnswers();
        entryThatIsThere();
        entryNone();
        entryOutside();
        countHeld();
        countEntries();
        countDraft();
        countImages();
        countRules();
        countOutside();
        imageInPlace();
        imageOfTheCellsThemselves();
        imageDoesNotHold();
        imageKeepsNoRest();
        imageOutside();
        restoreSlots();
        restoreLeavesTheRest();
        restoreImageStays();
        restoreRefuses();
        end("every boundary of the promises holds");
    }

    private static RopeShelf withoutSmall() {
        RopeShelf x = new RopeShelf();
        x.rule(SMALL, 0);
        return x;
    }

    private static void newObject() {
        sentence("1: Eight LEAVES without SIGNS; THE DRAFT and THE TABLE are empty; no IMAGE is kept.");
        RopeShelf x = new RopeShelf();
        due("cells", x.count(0), 8);
        due("room", x.count(1), 8 * 24);
        due("entries", x.count(2), 0);
        due("entries ever", x.count(3), 0);
        due("draft", x.count(4), 0);
        due("images", x.count(5), 0);
        due("no entry", x.entry(0, 0), NONE);
        due("nothing to sweep", x.sweep(), 0);
        due("no first image", x.restore(0), STATE);
        due("no second image", x.restore(1), STATE);
        due("an empty draft is put", x.put(0), 0);
        for (int slot = 0; slot < 8; slot++) {
            due("a leaf", x.told(slot, 1), 0);
            due("no sign", x.told(slot, 0), 0);
        }
        RopeShelf other = new RopeShelf();
        other.say(1);
        due("objects share nothing", x.count(4), 0);
    }

    private static void ruleFromNowOn() {
        sentence("2: SMALL (what = 0), DEEP (1), LOOSE (2) is n from now on: which it was.");
        RopeShelf x = new RopeShelf();
        due("SMALL was", x.rule(0, 32), 8);
        due("SMALL, the same again", x.rule(0, 32), 32);
        due("SMALL to 0", x.rule(0, 0), 32);
        due("SMALL was 0", x.rule(0, 0), 0);
        due("DEEP was", x.rule(1, 12), 6);
        due("LOOSE was", x.rule(2, 8), 4);
        layRow(x, 0, 1, 8);
        x.cut(1, 0, 0, 1);
        x.join(2, 0, 1);
        x.join(2, 2, 2);
        x.rule(0, 32);
        x.rule(1, 1);
        x.rule(2, 1);
        due("a slice from before stays", x.told(1, 1), 2);
        due("a rope from before stays", x.told(2, 2), 2);
        x.cut(3, 0, 0, 1);
        due("from now on", x.told(3, 1), 0);
        x.join(3, 1, 1);
        due("from now on", x.told(3, 1), 0);
    }

    private static void ruleOutside() {
        sentence("2: OUTSIDE: both.");
        int[] least = {0, 1, 1};
        int[] greatest = {32, 12, 8};
        RopeShelf x = new RopeShelf();
        for (int what = 0; what < 3; what++) {
            for (int n : new int[] {least[what] - 1, greatest[what] + 1, LEAST, GREATEST}) {
                due("rule " + what + ", " + n, x.rule(what, n), OUTSIDE);
            }
        }
        for (int what : new int[] {-1, 3, LEAST, GREATEST}) {
            due("rule " + what, x.rule(what, 1), OUTSIDE);
            due("rule " + what + ", both", x.rule(what, -1), OUTSIDE);
        }
        due("SMALL stays", x.count(10), 8);
        due("DEEP stays", x.count(11), 6);
        due("LOOSE stays", x.count(12), 4);
    }

    private static void sayAnswers() {
        sentence("3: A SIGN more of THE DRAFT: how many it has.");
        RopeShelf x = new RopeShelf();
        for (int i = 1; i <= 40; i++) {
            due("say", x.say(i == 40 ? 9999 : 1), i);
        }
        due("put", x.put(0), 40);
        due("the first one", x.sign(0, 0), 1);
        due("the 40th", x.sign(0, 39), 9999);
        due("the first one of the next draft", x.say(5), 1);
    }

    private static void sayOutside() {
        sentence("3: OUTSIDE");
        RopeShelf x = new RopeShelf();
        for (int sign : new int[] {0, -1, 10000, LEAST, GREATEST}) {
            due("say " + sign, x.say(sign), OUTSIDE);
        }
        due("none was said", x.count(4), 0);
    }

    private static void sayFull() {
        sentence("3: FULL: it has 40.");
        RopeShelf x = new RopeShelf();
        for (int i = 0; i < 39; i++) {
            x.say(2);
        }
        due("the 40th", x.say(3), 40);
        due("the 41st", x.say(4), FULL);
        due("the 41st again", x.say(4), FULL);
        due("still 40", x.count(4), 40);
        due("put", x.put(0), 40);
        due("the last one", x.sign(0, 39), 3);
        due("no more full", x.say(4), 1);
    }

    private static void putTakesTheDraft() {
        sentence("4: A SLOT holds a new LEAF of THE DRAFT, which has no SIGN then: how many SIGNS.");
        RopeShelf x = new RopeShelf();
        x.say(7);
        due("one sign", x.put(7), 1);
        due("the draft has none", x.count(4), 0);
        x.copy(6, 7);
        due("no sign", x.put(7), 0);
        due("no sign: none there", x.sign(7, 0), NONE);
        dueText("the cell of before stays", x, 6, 7);
        due("no sign again", x.put(0), 0);
        dueSame("each time a new leaf", x, 0, 7, false);
        lay(x, 5, 7);
        dueSame("each time a new leaf", x, 5, 6, false);
    }

    private static void putUnknown() {
        sentence("4: UNKNOWN.");
        RopeShelf x = new RopeShelf();
        x.say(7);
        for (int slot : NO_SLOTS) {
            due("put " + slot, x.put(slot), UNKNOWN);
        }
        due("the draft stays", x.count(4), 1);
        due("put 0", x.put(0), 1);
        due("put 7", x.put(7), 0);
    }

    private static void copyTheSame() {
        sentence("5: A SLOT holds the CELL that another one (or the same) holds: how many SIGNS its TEXT has.");
        RopeShelf x = new RopeShelf();
        lay(x, 0, 1, 2);
        due("from the first to the last", x.copy(7, 0), 2);
        dueSame("from the first to the last", x, 0, 7, true);
        due("the same", x.copy(0, 0), 2);
        dueText("the same", x, 0, 1, 2);
        due("no sign", x.copy(7, 1), 0);
        dueSame("no sign", x, 1, 7, true);
        dueText("the other slot stays", x, 0, 1, 2);
    }

    private static void copyUnknown() {
        sentence("5: UNKNOWN: both.");
        RopeShelf x = new RopeShelf();
        for (int slot : NO_SLOTS) {
            due("to " + slot, x.copy(slot, 0), UNKNOWN);
            due("from " + slot, x.copy(0, slot), UNKNOWN);
            due("both " + slot, x.copy(slot, slot), UNKNOWN);
        }
    }

    private static void joinOneSlot() {
        sentence("6: A SLOT holds what is JOINED of the CELLS of two SLOTS (or one): how many SIGNS.");
        RopeShelf x = withoutSmall();
        lay(x, 0, 1, 2);
        lay(x, 1, 3);
        due("two", x.join(7, 0, 1), 3);
        dueText("two", x, 7, 1, 2, 3);
        due("one", x.join(2, 0, 0), 4);
        dueText("one", x, 2, 1, 2, 1, 2);
        due("into a", x.join(0, 0, 1), 3);
        dueText("into a", x, 0, 1, 2, 3);
        due("into b", x.join(1, 0, 1), 4);
        dueText("into b", x, 1, 1, 2, 3, 3);
        due("all one", x.join(1, 1, 1), 8);
        due("all one", x.told(1, 3), 6);
    }

    private static void joinUnknown() {
        sentence("6: UNKNOWN: all three");
        RopeShelf x = new RopeShelf();
        for (int slot : NO_SLOTS) {
            due("to " + slot, x.join(slot, 0, 1), UNKNOWN);
            due("a " + slot, x.join(0, slot, 1), UNKNOWN);
            due("b " + slot, x.join(0, 1, slot), UNKNOWN);
            due("all " + slot, x.join(slot, slot, slot), UNKNOWN);
        }
    }

    private static void joinFull() {
        sentence("6: FULL: both TEXTS have more than 120 SIGNS together.");
        RopeShelf x = new RopeShelf();
        layMost(x, 1, 0);
        due("120 and none", x.join(2, 1, 7), 120);
        due("none and 120", x.join(2, 7, 1), 120);
        lay(x, 3, 9);
        due("120 and one", x.join(4, 1, 3), FULL);
        due("one and 120", x.join(4, 3, 1), FULL);
        due("120 and 120", x.join(4, 1, 1), FULL);
        due("nothing was joined", x.told(4, 0), 0);
        x.cut(5, 1, 0, 60);
        due("60 and 60", x.join(6, 5, 5), 120);
        x.cut(6, 1, 0, 61);
        due("60 and 61", x.join(4, 5, 6), FULL);
        due("61 and 60", x.join(4, 6, 5), FULL);
    }

    private static void cutTheSame() {
        sentence("7: A SLOT holds what is CUT out of the CELL of another one (or the same): n SIGNS from f on: n.");
        RopeShelf x = new RopeShelf();
        layRow(x, 0, 1, 6);
        due("another one", x.cut(7, 0, 1, 4), 4);
        dueText("another one", x, 7, 2, 3, 4, 5);
        dueText("it stays", x, 0, 1, 2, 3, 4, 5, 6);
        due("the same", x.cut(7, 7, 1, 2), 2);
        dueText("the same", x, 7, 3, 4);
        due("none", x.cut(7, 7, 1, 0), 0);
        due("none: no sign", x.told(7, 0), 0);
    }

    private static void cutUnknown() {
        sentence("7: UNKNOWN: both");
        RopeShelf x = new RopeShelf();
        for (int slot : NO_SLOTS) {
            due("to " + slot, x.cut(slot, 0, 0, 0), UNKNOWN);
            due("from " + slot, x.cut(0, slot, 0, 0), UNKNOWN);
            due("both " + slot, x.cut(slot, slot, 0, 0), UNKNOWN);
        }
    }

    private static void cutBelowNone() {
        sentence("7: OUTSIDE: f or n is below 0");
        RopeShelf x = new RopeShelf();
        layRow(x, 0, 1, 5);
        for (int below : new int[] {-1, -5, LEAST}) {
            due("f " + below, x.cut(1, 0, below, 1), OUTSIDE);
            due("f " + below + ", none", x.cut(1, 0, below, 0), OUTSIDE);
            due("f " + below + ", n as many more", x.cut(1, 0, below, GREATEST), OUTSIDE);
            due("n " + below, x.cut(1, 0, 1, below), OUTSIDE);
            due("n " + below + ", behind the last", x.cut(1, 0, 6, below), OUTSIDE);
            due("both " + below, x.cut(1, 0, below, below), OUTSIDE);
        }
        due("f 0, n 0", x.cut(1, 0, 0, 0), 0);
    }

    private static void cutNotSoMany() {
        sentence("7: OUTSIDE: .. or there are not so many SIGNS from f on.");
        RopeShelf x = new RopeShelf();
        layRow(x, 0, 1, 5);
        // f, n, and the answer that is due of five signs.
        int[][] rows = {{0, 5, 5}, {0, 6, OUTSIDE}, {1, 4, 4}, {1, 5, OUTSIDE}, {4, 1, 1}, {4, 2, OUTSIDE}, {5, 0, 0},
            {5, 1, OUTSIDE}, {6, 0, OUTSIDE}, {6, 1, OUTSIDE}, {0, GREATEST, OUTSIDE}, {1, GREATEST, OUTSIDE},
            {GREATEST, 0, OUTSIDE}, {GREATEST, 1, OUTSIDE}, {GREATEST, GREATEST, OUTSIDE},
            {1 << 30, 1 << 30, OUTSIDE}};
        for (int[] row : rows) {
            due(row[1] + " from " + row[0] + " on", x.cut(1, 0, row[0], row[1]), row[2]);
        }
        due("no sign: none", x.cut(1, 7, 0, 0), 0);
        due("no sign: one", x.cut(1, 7, 0, 1), OUTSIDE);
        due("no sign: from 1 on", x.cut(1, 7, 1, 0), OUTSIDE);
        due("a slice has no more than its own", x.cut(2, 0, 0, 3), 3);
        due("four of a slice of three", x.cut(3, 2, 0, 4), OUTSIDE);
        due("three of it, from 1 on", x.cut(3, 2, 1, 3), OUTSIDE);
        due("two of it, from 1 on", x.cut(3, 2, 1, 2), 2);
    }

    private static void flatAnswers() {
        sentence("8: The CELL of a SLOT is FLATTENED: how many PIECES it had (a LEAF: 1).");
        RopeShelf x = withoutSmall();
        due("a leaf without signs", x.flat(7), 1);
        layRow(x, 0, 1, 4);
        due("a leaf", x.flat(0), 1);
        x.cut(1, 0, 0, 2);
        due("a slice", x.flat(1), 1);
        x.join(2, 0, 1);
        due("a join", x.flat(2), 2);
        due("again", x.flat(2), 1);
        x.join(3, 2, 2);
        x.join(3, 3, 3);
        due("one piece, four times", x.flat(3), 4);
        due("it is a leaf then", x.told(3, 1), 0);
    }

    private static void flatUnknown() {
        sentence("8: UNKNOWN.");
        for (int slot : NO_SLOTS) {
            due("flat " + slot, new RopeShelf().flat(slot), UNKNOWN);
        }
    }

    private static void signNone() {
        sentence("9: SIGN i of the TEXT of a SLOT, from 0 on; NONE: there is none such (i below 0, too).");
        RopeShelf x = withoutSmall();
        layRow(x, 0, 11, 4);
        x.cut(1, 0, 1, 2);
        x.join(2, 1, 0);
        int[] many = {4, 2, 6};
        int[] first = {11, 12, 12};
        int[] last = {14, 13, 14};
        for (int slot = 0; slot < 3; slot++) {
            due("the first", x.sign(slot, 0), first[slot]);
            due("the last", x.sign(slot, many[slot] - 1), last[slot]);
            due("behind the last", x.sign(slot, many[slot]), NONE);
            for (int i : new int[] {-1, LEAST, GREATEST, 120, 40}) {
                due("sign " + i, x.sign(slot, i), NONE);
            }
        }
        due("the last of the left", x.sign(2, 1), 13);
        due("the first of the right", x.sign(2, 2), 11);
        due("of no sign", x.sign(7, 0), NONE);
        due("of no sign, -1", x.sign(7, -1), NONE);
    }

    private static void signUnknown() {
        sentence("9: UNKNOWN.");
        for (int slot : NO_SLOTS) {
            due("sign of " + slot, new RopeShelf().sign(slot, 0), UNKNOWN);
            due("sign -1 of " + slot, new RopeShelf().sign(slot, -1), UNKNOWN);
        }
    }

    private static void hashOfNoSlot() {
        sentence("10: The HASH of the TEXT of a SLOT, 0 if there is no such SLOT.");
        RopeShelf x = new RopeShelf();
        for (int slot = 0; slot < 8; slot++) {
            lay(x, slot, 50 + slot);
        }
        due("the first slot", x.hash(0), 50);
        due("the last slot", x.hash(7), 57);
        for (int slot : NO_SLOTS) {
            due("hash of " + slot, x.hash(slot), 0);
        }
        x.put(3);
        due("of no sign", x.hash(3), 0);
    }

    private static void toldSignsAndKinds() {
        sentence("11: how many SIGNS its TEXT has (0), whether LEAF, JOIN, SLICE (1), DEPTH (2), how many PIECES (3)");
        RopeShelf x = withoutSmall();
        dueTold("a leaf without signs", x, 7, 0, 0, 0, 1);
        layRow(x, 0, 1, 40);
        dueTold("a leaf", x, 0, 40, 0, 0, 1);
        x.cut(1, 0, 0, 39);
        dueTold("a slice", x, 1, 39, 2, 0, 1);
        x.join(2, 0, 1);
        dueTold("a join", x, 2, 79, 1, 1, 2);
        x.join(2, 2, 0);
        dueTold("a join of a join", x, 2, 119, 1, 2, 3);
    }

    private static void toldUnlikeCells() {
        sentence("11: how many unlike CELLS there are: itself, those that it has, those that these have, and so on (4)");
        RopeShelf x = withoutSmall();
        due("itself alone", x.told(7, 4), 1);
        layRow(x, 0, 1, 4);
        layRow(x, 1, 1, 4);
        x.cut(2, 0, 0, 2);
        due("a slice and its base", x.told(2, 4), 2);
        x.join(3, 0, 0);
        due("the same cell twice", x.told(3, 4), 2);
        x.join(3, 0, 1);
        due("the same text twice, unlike cells", x.told(3, 4), 3);
        x.join(4, 2, 0);
        due("a slice and its base: the base once", x.told(4, 4), 3);
        x.cut(5, 0, 0, 2);
        x.join(6, 2, 5);
        due("two like slices are unlike cells", x.told(6, 4), 4);
        x.join(6, 4, 4);
        due("a join twice", x.told(6, 4), 4);
        due("no cell of another slot", x.told(1, 4), 1);
    }

    private static void toldRoomOnce() {
        sentence("11: the ROOM of all these, each once (5)");
        RopeShelf x = withoutSmall();
        due("itself alone", x.told(7, 5), 24);
        layRow(x, 0, 1, 4);
        x.cut(1, 0, 0, 2);
        due("a slice and its base", x.told(1, 5), 28 + 28);
        x.join(2, 1, 0);
        due("the base once", x.told(2, 5), 24 + 28 + 28);
        x.join(3, 2, 2);
        due("the join once", x.told(3, 5), 24 + 24 + 28 + 28);
        due("all of them once", x.count(1), 4 * 24 + 24 + 24 + 28 + 28);
    }

    private static void toldAbove255() {
        sentence("11: whether any SIGN is above 255 (6: 1, 0)");
        RopeShelf x = withoutSmall();
        due("no sign", x.told(7, 6), 0);
        lay(x, 0, 255, 255);
        due("255", x.told(0, 6), 0);
        lay(x, 1, 1, 256);
        due("256, the last one", x.told(1, 6), 1);
        lay(x, 2, 9999, 1);
        due("9999, the first one", x.told(2, 6), 1);
        x.join(3, 0, 1);
        due("in the right one", x.told(3, 6), 1);
        x.join(3, 1, 0);
        due("in the left one", x.told(3, 6), 1);
        x.join(3, 0, 0);
        due("in neither", x.told(3, 6), 0);
        x.cut(4, 1, 1, 1);
        due("a slice with it", x.told(4, 6), 1);
        x.cut(4, 1, 0, 1);
        due("a slice without it", x.told(4, 6), 0);
        x.flat(4);
        due("the slice, flat", x.told(4, 6), 0);
    }

    private static void toldRefuses() {
        sentence("11: UNKNOWN; OUTSIDE.");
        RopeShelf x = new RopeShelf();
        for (int what : new int[] {-1, 7, LEAST, GREATEST}) {
            due("told " + what, x.told(0, what), OUTSIDE);
        }
        for (int slot : NO_SLOTS) {
            due("told of " + slot, x.told(slot, 0), UNKNOWN);
            due("told of " + slot + ", 6", x.told(slot, 6), UNKNOWN);
        }
    }

    private static void pieceTells() {
        sentence("12: how many SIGNS (0), FROM (1; 0 of a LEAF), SIGNS of its BASE or a LEAF itself (2), first place (3)");
        RopeShelf x = withoutSmall();
        duePiece("a leaf without signs", x, 7, 0, 0, 0, 0, 0);
        layRow(x, 0, 1, 8);
        duePiece("a leaf", x, 0, 0, 8, 0, 8, 0);
        x.cut(1, 0, 0, 7);
        duePiece("a slice from 0 on", x, 1, 0, 7, 0, 8, 0);
        x.cut(2, 0, 6, 2);
        duePiece("a slice to the end", x, 2, 0, 2, 6, 8, 0);
        x.join(3, 0, 2);
        x.join(3, 3, 3);
        duePiece("the first", x, 3, 0, 8, 0, 8, 0);
        duePiece("the second", x, 3, 1, 2, 6, 8, 1);
        duePiece("the first again", x, 3, 2, 8, 0, 8, 0);
        duePiece("the second again", x, 3, 3, 2, 6, 8, 1);
        x.cut(4, 0, 6, 2);
        x.join(5, 2, 4);
        due("a like slice is not the same cell", x.piece(5, 1, 3), 1);
        x.flat(2);
        duePiece("a slice that became flat", x, 3, 3, 2, 0, 2, 1);
    }

    private static void pieceNone() {
        sentence("12: from 0 on; NONE: there is none such (i below 0, too).");
        RopeShelf x = withoutSmall();
        lay(x, 0, 1);
        x.join(1, 0, 0);
        for (int what = 0; what < 4; what++) {
            for (int i : new int[] {-1, 2, LEAST, GREATEST, 119, 120}) {
                due("piece " + i, x.piece(1, i, what), NONE);
            }
            due("a leaf's second", x.piece(0, 1, what), NONE);
        }
        due("the last", x.piece(1, 1, 0), 1);
        x.flat(1);
        due("no more, since it is flat", x.piece(1, 1, 0), NONE);
    }

    private static void pieceRefuses() {
        sentence("12: UNKNOWN; OUTSIDE.");
        RopeShelf x = new RopeShelf();
        for (int what : new int[] {-1, 4, LEAST, GREATEST}) {
            due("what " + what, x.piece(0, 0, what), OUTSIDE);
        }
        for (int slot : NO_SLOTS) {
            due("of " + slot, x.piece(slot, 0, 0), UNKNOWN);
        }
    }

    private static void alikeTexts() {
        sentence("13: whether their TEXTS are the same (what = 0: 1, 0)");
        RopeShelf x = withoutSmall();
        lay(x, 0, 1, 2, 3);
        lay(x, 1, 1, 2);
        lay(x, 2, 3);
        x.join(3, 1, 2);
        due("a slot with itself", x.alike(0, 0, 0), 1);
        due("whatever the cells", x.alike(0, 3, 0), 1);
        due("one sign less", x.alike(0, 1, 0), 0);
        due("one sign more", x.alike(1, 0, 0), 0);
        due("none and none", x.alike(6, 7, 0), 1);
        due("none and one", x.alike(7, 2, 0), 0);
        lay(x, 4, 1, 2, 4);
        due("the last one differs", x.alike(0, 4, 0), 0);
        lay(x, 4, 2, 2, 3);
        due("the first one differs", x.alike(0, 4, 0), 0);
        // 31 times 2 and 1 is 31 times 1 and 32.
        lay(x, 4, 2, 1);
        lay(x, 5, 1, 32);
        due("the same hash", x.hash(4) - x.hash(5), 0);
        due("the same hash, other texts", x.alike(4, 5, 0), 0);
    }

    private static void alikeCells() {
        sentence("13: whether they hold the same CELL (1)");
        RopeShelf x = new RopeShelf();
        lay(x, 0, 1);
        lay(x, 1, 1);
        x.copy(2, 0);
        due("a slot with itself", x.alike(0, 0, 1), 1);
        due("the same text", x.alike(0, 1, 1), 0);
        due("a copy", x.alike(0, 2, 1), 1);
        due("none and none", x.alike(6, 7, 1), 0);
    }

    private static void alikeFirstPlaces() {
        sentence("13: at how many first places their TEXTS have the same SIGNS (2)");
        RopeShelf x = new RopeShelf();
        lay(x, 0, 1, 2, 3);
        lay(x, 1, 1, 2);
        lay(x, 2, 2, 2, 3);
        lay(x, 3, 1, 5, 3);
        due("to the end of the shorter one", x.alike(0, 1, 2), 2);
        due("the shorter one first", x.alike(1, 0, 2), 2);
        due("the first one differs", x.alike(0, 2, 2), 0);
        due("only the first ones count", x.alike(0, 3, 2), 1);
        due("all", x.alike(0, 0, 2), 3);
        due("none there", x.alike(0, 7, 2), 0);
        due("none there, the other way round", x.alike(7, 0, 2), 0);
        due("none at all", x.alike(6, 7, 2), 0);
    }

    private static void alikeStandsIn() {
        sentence("13: the first place from which on the TEXT of the second one stands in that of the first one (3; NONE;"
                + " 0, if it has no SIGN)");
        RopeShelf x = new RopeShelf();
        lay(x, 0, 5, 5, 6, 5, 5, 6, 7);
        lay(x, 1, 5, 6);
        due("the first of two places", x.alike(0, 1, 3), 1);
        lay(x, 1, 5, 5);
        due("at 0", x.alike(0, 1, 3), 0);
        lay(x, 1, 6, 7);
        due("at the end", x.alike(0, 1, 3), 5);
        lay(x, 1, 7);
        due("the last sign", x.alike(0, 1, 3), 6);
        lay(x, 1, 5, 5, 6, 7);
        due("after a start that breaks off", x.alike(0, 1, 3), 3);
        lay(x, 1, 7, 5);
        due("it would go on behind the end", x.alike(0, 1, 3), NONE);
        lay(x, 1, 8);
        due("nowhere", x.alike(0, 1, 3), NONE);
        due("all of it", x.alike(0, 0, 3), 0);
        lay(x, 1, 5, 5, 6, 5, 5, 6, 7, 7);
        due("longer", x.alike(0, 1, 3), NONE);
        due("no sign", x.alike(0, 7, 3), 0);
        due("in no sign", x.alike(7, 0, 3), NONE);
        due("no sign in no sign", x.alike(6, 7, 3), 0);
    }

    private static void alikeComesFirst() {
        sentence("13: whether the TEXT of the first one comes first (4: 1; 0 not): its SIGN is less, or it has no SIGN"
                + " there and the other one has.");
        RopeShelf x = new RopeShelf();
        lay(x, 0, 2, 3);
        lay(x, 1, 2, 4);
        due("less", x.alike(0, 1, 4), 1);
        due("greater", x.alike(1, 0, 4), 0);
        due("the same", x.alike(0, 0, 4), 0);
        lay(x, 2, 2);
        due("it ends", x.alike(2, 0, 4), 1);
        due("the other one ends", x.alike(0, 2, 4), 0);
        lay(x, 3, 1, 9999, 9999);
        due("less at the first place, though longer", x.alike(3, 0, 4), 1);
        due("greater at the first place, though shorter", x.alike(0, 3, 4), 0);
        due("none and one", x.alike(7, 2, 4), 1);
        due("one and none", x.alike(2, 7, 4), 0);
        due("none and none", x.alike(6, 7, 4), 0);
        lay(x, 4, 1);
        due("the least sign and none", x.alike(4, 7, 4), 0);
    }

    private static void alikeRefuses() {
        sentence("13: UNKNOWN: both; OUTSIDE.");
        RopeShelf x = new RopeShelf();
        for (int what : new int[] {-1, 5, LEAST, GREATEST}) {
            due("what " + what, x.alike(0, 1, what), OUTSIDE);
        }
        for (int slot : NO_SLOTS) {
            for (int what = 0; what < 5; what++) {
                due("one " + slot, x.alike(slot, 0, what), UNKNOWN);
                due("other " + slot, x.alike(0, slot, what), UNKNOWN);
                due("both " + slot, x.alike(slot, slot, what), UNKNOWN);
            }
        }
    }

    private static void internFull() {
        sentence("14: A SLOT is INTERNED: the number of the ENTRY. FULL: it would be one more than 24.");
        RopeShelf x = new RopeShelf();
        fillTable(x, 0, 100);
        lay(x, 1, 5, 5);
        due("a 25th", x.intern(1), FULL);
        due("a 25th of no sign", x.intern(7), FULL);
        due("its slot holds what it held", x.told(1, 0), 2);
        for (int i = 0; i < 24; i++) {
            lay(x, 2, 100 + i);
            due("one that is there is none more", x.intern(2), i);
        }
        due("still full", x.intern(1), FULL);
    }

    private static void internUnknown() {
        sentence("14: UNKNOWN");
        RopeShelf x = new RopeShelf();
        for (int slot : NO_SLOTS) {
            due("intern " + slot, x.intern(slot), UNKNOWN);
        }
        due("none came", x.count(3), 0);
    }

    private static void sweepAnswers() {
        sentence("15: THE TABLE is SWEPT: how many ENTRIES went.");
        RopeShelf x = new RopeShelf();
        due("none there", x.sweep(), 0);
        fillTable(x, 0, 100);
        due("all but the one that is held", x.sweep(), 23);
        due("the one that stays", x.entry(0, 0), 23);
        due("no other one", x.entry(1, 0), NONE);
        due("none goes again", x.sweep(), 0);
        x.put(0);
        due("the last one", x.sweep(), 1);
        due("none is left", x.sweep(), 0);
    }

    private static void entryThatIsThere() {
        sentence("16: Of the i-th ENTRY that is there, from 0 on: number (0), how many SIGNS (1), SLOTS hold its CELL (2)");
        RopeShelf x = new RopeShelf();
        for (int i = 0; i < 4; i++) {
            layRow(x, i, 10 * i + 1, i);
            x.intern(i);
        }
        x.copy(0, 1);
        x.copy(2, 1);
        due("two go", x.sweep(), 2);
        due("the first that is there", x.entry(0, 0), 1);
        due("the first: signs", x.entry(0, 1), 1);
        due("the first: slots", x.entry(0, 2), 3);
        due("the second that is there", x.entry(1, 0), 3);
        due("the second: signs", x.entry(1, 1), 3);
        due("the second: slots", x.entry(1, 2), 1);
        for (int slot = 0; slot < 8; slot++) {
            x.copy(slot, 3);
        }
        due("all slots", x.entry(1, 2), 8);
        due("no slot", x.entry(0, 2), 0);
        x.join(0, 3, 3);
        due("a slot that holds it in a join does not count", x.entry(1, 2), 7);
    }

    private static void entryNone() {
        sentence("16: NONE: there is none such (i below 0, too).");
        RopeShelf x = new RopeShelf();
        for (int what = 0; what < 3; what++) {
            due("an empty table", x.entry(0, what), NONE);
        }
        x.intern(0);
        for (int what = 0; what < 3; what++) {
            for (int i : new int[] {-1, 1, 23, 24, LEAST, GREATEST}) {
                due("entry " + i, x.entry(i, what), NONE);
            }
        }
        fillTableBehindOne(x);
        due("the 24th", x.entry(23, 0), 23);
        due("the 25th", x.entry(24, 0), NONE);
        due("the first and the last stay", x.sweep(), 22);
        for (int what = 0; what < 3; what++) {
            due("the last went to the second place", x.entry(1, what), what == 0 ? 23 : 1);
            due("none at the third place", x.entry(2, what), NONE);
            due("none where the last was", x.entry(23, what), NONE);
        }
    }

    private static void fillTableBehindOne(RopeShelf x) {
        for (int i = 1; i < 24; i++) {
            lay(x, 1, i);
            x.intern(1);
        }
    }

    private static void entryOutside() {
        sentence("16: OUTSIDE.");
        RopeShelf x = new RopeShelf();
        x.intern(0);
        for (int what : new int[] {-1, 3, LEAST, GREATEST}) {
            due("what " + what, x.entry(0, what), OUTSIDE);
            due("what " + what + ", and none such", x.entry(1, what), OUTSIDE);
        }
    }

    private static void countHeld() {
        sentence("17: How many CELLS are HELD (what = 0), their ROOM, all added (1)");
        RopeShelf x = withoutSmall();
        due("at first", x.count(0), 8);
        due("at first: room", x.count(1), 192);
        for (int slot = 1; slot < 8; slot++) {
            x.copy(slot, 0);
        }
        due("one cell alone", x.count(0), 1);
        due("one cell alone: room", x.count(1), 24);
        lay(x, 0, 256, 1, 1, 1);
        x.cut(1, 0, 1, 3);
        x.join(2, 0, 1);
        due("leaf, slice, join, and the one of before", x.count(0), 4);
        due("their room", x.count(1), 24 + 32 + 28 + 24);
        x.flat(1);
        due("as many", x.count(0), 4);
        due("the slice is a leaf", x.count(1), 24 + 32 + 27 + 24);
    }

    private static void countEntries() {
        sentence("17: how many ENTRIES there are (2), there ever were (3)");
        RopeShelf x = new RopeShelf();
        due("none", x.count(2), 0);
        due("none ever", x.count(3), 0);
        fillTable(x, 0, 100);
        due("24", x.count(2), 24);
        due("24 ever", x.count(3), 24);
        x.intern(0);
        due("one that is there comes not", x.count(3), 24);
        x.intern(7);
        due("a refused one comes not", x.count(3), 24);
        x.sweep();
        due("one is left", x.count(2), 1);
        due("they were", x.count(3), 24);
        x.intern(7);
        due("two", x.count(2), 2);
        due("25 ever", x.count(3), 25);
    }

    private static void countDraft() {
        sentence("17: SIGNS of THE DRAFT (4)");
        RopeShelf x = new RopeShelf();
        due("none", x.count(4), 0);
        for (int i = 0; i < 41; i++) {
            x.say(1);
        }
        due("40", x.count(4), 40);
        x.put(0);
        due("none again", x.count(4), 0);
    }

    private static void countImages() {
        sentence("17: which IMAGES are kept (5: 1 the first, 2 the second, added)");
        RopeShelf x = new RopeShelf();
        due("none", x.count(5), 0);
        x.image(0);
        due("the first", x.count(5), 1);
        x.image(0);
        due("the first again", x.count(5), 1);
        x.image(1);
        due("both", x.count(5), 3);
        x.restore(0);
        due("both stay", x.count(5), 3);
        RopeShelf y = new RopeShelf();
        y.image(1);
        due("the second", y.count(5), 2);
        y.image(2);
        due("no third", y.count(5), 2);
    }

    private static void countRules() {
        sentence("17: RULES (10 to 12).");
        RopeShelf x = new RopeShelf();
        x.rule(0, 31);
        x.rule(1, 11);
        x.rule(2, 7);
        due("SMALL", x.count(10), 31);
        due("DEEP", x.count(11), 11);
        due("LOOSE", x.count(12), 7);
    }

    private static void countOutside() {
        sentence("17: OUTSIDE.");
        RopeShelf x = new RopeShelf();
        for (int what : new int[] {-1, 6, 7, 8, 9, 13, LEAST, LEAST + 9, LEAST + 10, LEAST + 12, GREATEST}) {
            due("count " + what, x.count(what), OUTSIDE);
        }
    }

    private static void imageInPlace() {
        sentence("18: Which CELL each SLOT holds is kept in an IMAGE (0, 1), in place of what was kept there: 1");
        RopeShelf x = new RopeShelf();
        for (int slot = 0; slot < 8; slot++) {
            lay(x, slot, 1 + slot);
        }
        due("the first", x.image(0), 1);
        for (int slot = 0; slot < 8; slot++) {
            lay(x, slot, 11 + slot);
        }
        due("the second", x.image(1), 1);
        for (int slot = 0; slot < 8; slot++) {
            x.put(slot);
        }
        for (int k = 0; k < 2; k++) {
            x.restore(k);
            for (int slot = 0; slot < 8; slot++) {
                due("image " + k + ", slot " + slot, x.sign(slot, 0), 10 * k + 1 + slot);
            }
        }
        due("in place", x.image(0), 1);
        x.put(7);
        x.restore(0);
        due("in place of what was kept", x.sign(7, 0), 18);
    }

    private static void imageOfTheCellsThemselves() {
        sentence("18: (the CELLS themselves: what becomes flat is flat there, too");
        RopeShelf x = withoutSmall();
        lay(x, 0, 1);
        x.join(1, 0, 0);
        x.join(2, 1, 0);
        x.image(0);
        x.flat(1);
        lay(x, 1);
        lay(x, 2);
        x.restore(0);
        due("it is flat", x.told(1, 1), 0);
        due("the join that has it", x.told(2, 2), 1);
        due("the cell that did not become flat", x.told(2, 1), 1);
        x.image(1);
        x.flat(2);
        x.copy(3, 2);
        x.restore(1);
        due("flat in the other one", x.told(2, 1), 0);
        x.restore(0);
        due("flat in both", x.told(2, 1), 0);
    }

    private static void imageDoesNotHold() {
        sentence("18: they are not HELD by that)");
        RopeShelf x = new RopeShelf();
        layRow(x, 0, 1, 9);
        x.intern(0);
        x.image(0);
        x.image(1);
        lay(x, 0);
        due("cells", x.count(0), 8);
        due("room", x.count(1), 192);
        due("its entry goes", x.sweep(), 1);
        x.restore(1);
        due("it comes back itself", x.told(0, 0), 9);
        due("held again", x.count(1), 192 + 9);
        due("the entry is not back", x.count(2), 0);
    }

    private static void imageKeepsNoRest() {
        sentence("18: RULES, THE DRAFT, THE TABLE are not kept.");
        RopeShelf x = new RopeShelf();
        x.say(5);
        x.intern(0);
        x.image(0);
        x.rule(0, 1);
        x.say(6);
        due("the draft goes on", x.put(1), 2);
        lay(x, 2, 9);
        x.intern(2);
        x.say(4);
        x.restore(0);
        due("the rule as it is now", x.count(10), 1);
        due("the draft as it is now", x.count(4), 1);
        due("the table as it is now", x.count(2), 2);
        x.put(3);
        dueText("the draft as it is now", x, 3, 4);
    }

    private static void imageOutside() {
        sentence("18: OUTSIDE.");
        RopeShelf x = new RopeShelf();
        for (int k : NO_IMAGES) {
            due("image " + k, x.image(k), OUTSIDE);
        }
        due("none is kept", x.count(5), 0);
    }

    private static void restoreSlots() {
        sentence("19: SLOTS hold the CELLS that they held when that was kept .. : 1.");
        RopeShelf x = new RopeShelf();
        lay(x, 0, 1);
        x.copy(7, 0);
        x.image(1);
        x.put(0);
        x.copy(3, 7);
        due("restore", x.restore(1), 1);
        dueSame("the same cell again", x, 0, 7, true);
        due("slots that held none", x.told(3, 0), 0);
        dueText("the text", x, 0, 1);
    }

    private static void restoreLeavesTheRest() {
        sentence("19: RULES, THE DRAFT, THE TABLE stay as they are");
        RopeShelf x = new RopeShelf();
        x.image(0);
        x.rule(0, 0);
        x.rule(1, 12);
        x.rule(2, 1);
        lay(x, 0, 1);
        x.intern(0);
        x.say(3);
        x.restore(0);
        due("SMALL", x.count(10), 0);
        due("DEEP", x.count(11), 12);
        due("LOOSE", x.count(12), 1);
        due("draft", x.count(4), 1);
        due("an entry that no slot holds", x.entry(0, 1), 1);
        due("its slots", x.entry(0, 2), 0);
        due("the draft is put", x.put(1), 1);
        due("the draft's sign", x.sign(1, 0), 3);
        lay(x, 2, 1);
        due("its text is found", x.intern(2), 0);
    }

    private static void restoreImageStays() {
        sentence("19: the IMAGE stays");
        RopeShelf x = new RopeShelf();
        lay(x, 0, 1);
        x.image(0);
        for (int i = 0; i < 3; i++) {
            lay(x, 0, 2);
            due("restore", x.restore(0), 1);
            due("the text", x.sign(0, 0), 1);
        }
        due("kept", x.count(5), 1);
        due("the other one is not kept", x.restore(1), STATE);
    }

    private static void restoreRefuses() {
        sentence("19: OUTSIDE; STATE: nothing was kept in it.");
        RopeShelf x = new RopeShelf();
        for (int k : NO_IMAGES) {
            due("restore " + k, x.restore(k), OUTSIDE);
        }
        due("the first", x.restore(0), STATE);
        due("the second", x.restore(1), STATE);
        x.image(1);
        due("the first, the second is kept", x.restore(0), STATE);
        due("the second is kept", x.restore(1), 1);
        for (int k : NO_IMAGES) {
            due("restore " + k + ", one is kept", x.restore(k), OUTSIDE);
        }
    }
}

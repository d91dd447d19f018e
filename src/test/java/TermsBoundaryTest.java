/** Each sentence of the document's "Terms" that names a boundary case, tested by itself and named by its words, shortened where they are many. */
public final class TermsBoundaryTest extends ShelfTest {
    public static void main(String[] args) {
        lastCalls();
        refusalsInOrder();
        noneBehindRefusals();
        toldAsItIsThen();
        signs();
        longestText();
        textOfNoSign();
        firstPlace();
        textOfJoin();
        textOfSlice();
        slots();
        slotsAtFirst();
        sameCell();
        sameBase();
        cellsHeld();
        depth();
        pieces();
        piecesSeveralTimes();
        rules();
        joinWithNoSignRight();
        joinWithNoSignLeft();
        joinOfNoSigns();
        joinOfFewSigns();
        joinOfFewSignsComesAheadOfDeep();
        joinOfMoreSigns();
        joinDeeperThanDeep();
        onePieceAlone();
        halfAsMany();
        balancedWithoutTheRest();
        cutNone();
        cutAll();
        cutOfLeaf();
        cutOfSlice();
        cutAtTheMiddleOfJoin();
        cutInBothOfJoin();
        cutLeavesTheRope();
        flattenForAll();
        flattenLetsGo();
        flattenLeaf();
        hashes();
        roomOfLeaf();
        roomOfJoinAndSlice();
        entriesNumbered();
        entriesNeverMore();
        internSameText();
        internNewText();
        sweeps();
        numbersDoNotComeAgain();
        end("every boundary of the terms holds");
    }

    /** Single signs 1, 2, .. in slots 0 to many - 1, with SMALL 0: joins of them are joins. */
    private static RopeShelf singles(int many) {
        RopeShelf x = new RopeShelf();
        x.rule(SMALL, 0);
        for (int i = 0; i < many; i++) {
            lay(x, i, 1 + i);
        }
        return x;
    }

    /** A chain of single signs, each joined behind the ones before it, in slot 7; slot 0 holds the sign. */
    private static RopeShelf chain(int deep, int pieces) {
        RopeShelf x = singles(1);
        x.rule(DEEP, deep);
        x.copy(7, 0);
        for (int i = 1; i < pieces; i++) {
            x.join(7, 7, 0);
        }
        return x;
    }

    /** Whether a part of a slot's text lies in a cell that the slot's rope has already. Uses slot 6. */
    private static boolean isPart(RopeShelf x, int slot, int f, int n) {
        x.copy(6, slot);
        int before = x.count(0);
        x.cut(6, slot, f, n);
        return x.count(0) == before;
    }

    private static void duePart(String name, RopeShelf x, int slot, int f, int n, boolean part) {
        due(name + ": " + n + " from " + f + " are a part", isPart(x, slot, f, n) ? 1 : 0, part ? 1 : 0);
    }

    private static void lastCalls() {
        sentence("An object is used for at most 512 calls after it has been made");
        RopeShelf x = new RopeShelf();
        for (int i = 0; i < 127; i++) {
            due("say", x.say(1 + i), 1);
            due("put", x.put(0), 1);
            due("intern", x.intern(0), i);
            due("sweep", x.sweep(), i == 0 ? 0 : 1);
        }
        due("call 509", x.count(3), 127);
        due("call 510", x.count(2), 1);
        due("call 511", x.sign(0, 0), 127);
        due("call 512", x.entry(0, 0), 126);
    }

    private static void refusalsInOrder() {
        sentence("Calls that are refused answer the first that fits, in the order in which they are told");
        RopeShelf x = new RopeShelf();
        layMost(x, 1, 0);
        fillTable(x, 2, 100);
        for (int i = 0; i < 40; i++) {
            x.say(1);
        }
        due("say: OUTSIDE, FULL", x.say(0), OUTSIDE);
        due("say: FULL alone", x.say(1), FULL);
        due("join to: UNKNOWN, FULL", x.join(8, 1, 1), UNKNOWN);
        due("join a: UNKNOWN, FULL", x.join(0, -1, 1), UNKNOWN);
        due("join b: UNKNOWN, FULL", x.join(0, 1, 8), UNKNOWN);
        due("join: FULL alone", x.join(0, 1, 1), FULL);
        due("cut to: UNKNOWN, OUTSIDE", x.cut(8, 0, -1, 0), UNKNOWN);
        due("cut from: UNKNOWN, OUTSIDE", x.cut(0, 8, 0, -1), UNKNOWN);
        due("cut: OUTSIDE alone", x.cut(0, 0, 0, -1), OUTSIDE);
        due("told: UNKNOWN, OUTSIDE", x.told(8, 7), UNKNOWN);
        due("told: OUTSIDE alone", x.told(7, 7), OUTSIDE);
        due("piece: UNKNOWN, OUTSIDE", x.piece(8, 0, 4), UNKNOWN);
        due("piece: OUTSIDE alone", x.piece(7, 0, 4), OUTSIDE);
        due("alike one: UNKNOWN, OUTSIDE", x.alike(8, 0, 5), UNKNOWN);
        due("alike other: UNKNOWN, OUTSIDE", x.alike(0, 8, 5), UNKNOWN);
        due("alike: OUTSIDE alone", x.alike(0, 7, 5), OUTSIDE);
        due("intern: UNKNOWN, FULL", x.intern(8), UNKNOWN);
        due("intern: FULL alone", x.intern(0), FULL);
        due("restore: OUTSIDE, STATE", x.restore(2), OUTSIDE);
        due("restore: STATE alone", x.restore(1), STATE);
    }

    private static void noneBehindRefusals() {
        sentence("NONE is told only where no refusal fits.");
        RopeShelf x = new RopeShelf();
        lay(x, 1, 5);
        due("sign: UNKNOWN, NONE", x.sign(8, -1), UNKNOWN);
        due("sign: NONE alone", x.sign(0, -1), NONE);
        due("piece: UNKNOWN, NONE", x.piece(8, -1, 0), UNKNOWN);
        due("piece: UNKNOWN, OUTSIDE, NONE", x.piece(8, -1, 4), UNKNOWN);
        due("piece: OUTSIDE, NONE", x.piece(0, -1, 4), OUTSIDE);
        due("piece: NONE alone", x.piece(0, -1, 0), NONE);
        due("alike one: UNKNOWN, NONE", x.alike(8, 1, 3), UNKNOWN);
        due("alike other: UNKNOWN, NONE", x.alike(0, 8, 3), UNKNOWN);
        due("alike: OUTSIDE", x.alike(0, 1, 5), OUTSIDE);
        due("alike: NONE alone", x.alike(0, 1, 3), NONE);
        due("entry: OUTSIDE, NONE", x.entry(0, 3), OUTSIDE);
        due("entry: NONE alone", x.entry(0, 0), NONE);
    }

    private static void toldAsItIsThen() {
        sentence("Whatever is told is told as it is then.");
        RopeShelf x = singles(3);
        x.join(3, 0, 1);
        x.join(4, 3, 2);
        x.intern(3);
        dueTold("before", x, 4, 3, 1, 2, 3, 5, 2 * 24 + 3 * 25, 0);
        due("before: slots of the entry", x.entry(0, 2), 1);
        x.flat(3);
        dueTold("a part became flat", x, 4, 3, 1, 1, 2, 3, 24 + 26 + 25, 0);
        x.copy(5, 3);
        due("one slot more has the entry's cell", x.entry(0, 2), 2);
        due("cells are held", x.count(0), 5 + 2);
        x.copy(4, 3);
        due("fewer cells are held", x.count(0), 4 + 2);
    }

    private static void signs() {
        sentence("SIGNS are 1 to 9999.");
        RopeShelf x = new RopeShelf();
        due("0", x.say(0), OUTSIDE);
        due("1", x.say(1), 1);
        due("9999", x.say(9999), 2);
        due("10000", x.say(10000), OUTSIDE);
        x.put(0);
        dueText("the least one and the greatest one", x, 0, 1, 9999);
    }

    private static void longestText() {
        sentence("A TEXT is a row of SIGNS, never more than 120");
        RopeShelf x = new RopeShelf();
        layMost(x, 1, 0);
        lay(x, 2, 7);
        due("one more", x.join(1, 1, 2), FULL);
        due("one more, ahead", x.join(1, 2, 1), FULL);
        due("120", x.told(1, 0), 120);
        due("the last sign", x.sign(1, 119), 40);
        due("behind the last", x.sign(1, 120), NONE);
        due("hash of 120", x.hash(1), -1523010628);
        due("cut the last one", x.cut(3, 1, 119, 1), 1);
        dueText("the last one", x, 3, 40);
        due("119", x.cut(4, 1, 1, 119), 119);
        due("119 and 1", x.join(5, 4, 2), 120);
        due("its last sign", x.sign(5, 119), 7);
        dueAlike("with itself", x, 1, 1, 1, 1, 120, 0, 0);
        due("119 within 120", x.alike(1, 4, 3), 1);
        due("flat", x.flat(1), 3);
        dueTold("flat", x, 1, 120, 0, 0, 1, 1, 144, 0);
        due("flat: the last sign", x.sign(1, 119), 40);
        due("interned", x.intern(1), 0);
        due("interned: signs", x.entry(0, 1), 120);
    }

    private static void textOfNoSign() {
        sentence("A TEXT is a row of SIGNS, .. perhaps none");
        RopeShelf x = new RopeShelf();
        lay(x, 1, 4);
        due("put", x.put(0), 0);
        dueTold("no sign", x, 0, 0, 0, 0, 1, 1, 24, 0);
        duePiece("no sign", x, 0, 0, 0, 0, 0, 0);
        due("sign", x.sign(0, 0), NONE);
        due("hash", x.hash(0), 0);
        due("copy", x.copy(2, 0), 0);
        due("cut", x.cut(3, 0, 0, 0), 0);
        due("flat", x.flat(0), 1);
        dueAlike("no sign and one", x, 0, 1, 0, 0, 0, NONE, 1);
        due("intern", x.intern(0), 0);
        due("intern another one of no sign", x.intern(4), 0);
        due("entry", x.entry(0, 1), 0);
    }

    private static void firstPlace() {
        sentence("FROM one on (the first SIGN is at 0)");
        RopeShelf x = new RopeShelf();
        layRow(x, 0, 11, 4);
        due("the sign at 0", x.sign(0, 0), 11);
        x.cut(1, 0, 0, 3);
        duePiece("from the first one on", x, 1, 0, 3, 0, 4, 0);
        dueText("from the first one on", x, 1, 11, 12, 13);
        x.cut(1, 0, 1, 3);
        duePiece("from the second one on", x, 1, 0, 3, 1, 4, 0);
        dueText("from the second one on", x, 1, 12, 13, 14);
    }

    private static void textOfJoin() {
        sentence("The TEXT of a JOIN is that of the left CELL and then that of the right one");
        RopeShelf x = singles(2);
        x.join(2, 0, 1);
        dueText("one sign each", x, 2, 1, 2);
        x.join(2, 1, 0);
        dueText("the other way round", x, 2, 2, 1);
        x.join(2, 2, 2);
        dueText("twice the same cell", x, 2, 2, 1, 2, 1);
    }

    private static void textOfSlice() {
        sentence("the TEXT of a SLICE those SIGNS of its BASE");
        RopeShelf x = new RopeShelf();
        layRow(x, 0, 1, 4);
        x.cut(1, 0, 0, 1);
        due("the first one", x.told(1, 1), 2);
        dueText("the first one", x, 1, 1);
        x.cut(1, 0, 3, 1);
        due("the last one", x.told(1, 1), 2);
        dueText("the last one", x, 1, 4);
        x.cut(1, 0, 1, 2);
        dueText("the middle ones", x, 1, 2, 3);
    }

    private interface SlotCall {
        int on(RopeShelf x, int slot);
    }

    private static void dueSlots(String name, SlotCall call, int right, int refused) {
        for (int slot : new int[] {0, 7}) {
            due(name + " " + slot, call.on(new RopeShelf(), slot), right);
        }
        for (int slot : NO_SLOTS) {
            due(name + " " + slot, call.on(new RopeShelf(), slot), refused);
        }
    }

    private static void slots() {
        sentence("SLOTS are 0 to 7; UNKNOWN -1 (no such SLOT)");
        dueSlots("put", (x, s) -> x.put(s), 0, UNKNOWN);
        dueSlots("copy to", (x, s) -> x.copy(s, 3), 0, UNKNOWN);
        dueSlots("copy from", (x, s) -> x.copy(3, s), 0, UNKNOWN);
        dueSlots("join to", (x, s) -> x.join(s, 3, 4), 0, UNKNOWN);
        dueSlots("join a", (x, s) -> x.join(3, s, 4), 0, UNKNOWN);
        dueSlots("join b", (x, s) -> x.join(3, 4, s), 0, UNKNOWN);
        dueSlots("cut to", (x, s) -> x.cut(s, 3, 0, 0), 0, UNKNOWN);
        dueSlots("cut from", (x, s) -> x.cut(3, s, 0, 0), 0, UNKNOWN);
        dueSlots("flat", (x, s) -> x.flat(s), 1, UNKNOWN);
        dueSlots("sign", (x, s) -> x.sign(s, 0), NONE, UNKNOWN);
        dueSlots("told", (x, s) -> x.told(s, 0), 0, UNKNOWN);
        dueSlots("piece", (x, s) -> x.piece(s, 0, 0), 0, UNKNOWN);
        dueSlots("alike one", (x, s) -> x.alike(s, 3, 0), 1, UNKNOWN);
        dueSlots("alike other", (x, s) -> x.alike(3, s, 0), 1, UNKNOWN);
        dueSlots("intern", (x, s) -> x.intern(s), 0, UNKNOWN);
    }

    private static void slotsAtFirst() {
        sentence("each holds a CELL, at first a LEAF of its own without SIGNS");
        RopeShelf x = new RopeShelf();
        for (int slot = 0; slot < 8; slot++) {
            dueTold("slot " + slot, x, slot, 0, 0, 0, 1, 1, 24, 0);
            for (int other = 0; other < slot; other++) {
                dueSame("slots " + slot + ", " + other, x, slot, other, false);
            }
        }
    }

    private static void sameCell() {
        sentence("Several SLOTS, and JOINS, may have the same CELL");
        RopeShelf x = singles(1);
        for (int slot = 1; slot < 8; slot++) {
            x.copy(slot, 0);
        }
        due("one cell for all slots", x.count(0), 1);
        due("its room once", x.count(1), 25);
        x.join(1, 0, 0);
        x.join(2, 1, 0);
        dueTold("a cell that two joins have", x, 2, 3, 1, 2, 3, 3, 24 + 24 + 25, 0);
        x.join(3, 1, 1);
        due("slots and joins", x.count(0), 4);
    }

    private static void sameBase() {
        sentence("SLICES may have the same BASE.");
        RopeShelf x = new RopeShelf();
        x.rule(SMALL, 0);
        layRow(x, 0, 1, 4);
        x.cut(1, 0, 0, 2);
        x.cut(2, 0, 1, 2);
        x.join(3, 1, 2);
        dueTold("two slices of a leaf", x, 3, 4, 1, 1, 2, 4, 24 + 28 + 28 + 28, 0);
        due("with the others", x.count(0), 4 + 4);
    }

    private static void cellsHeld() {
        sentence("CELLS HELD: those that SLOTS hold, and all that HELD JOINS and SLICES have.");
        RopeShelf x = singles(3);
        due("slots alone", x.count(0), 8);
        x.join(3, 0, 1);
        x.join(3, 3, 2);
        lay(x, 0);
        lay(x, 1);
        lay(x, 2);
        due("through a join in a join", x.count(0), 8 + 4);
        x.intern(3);
        x.image(0);
        lay(x, 3);
        due("not by an image, not by an entry", x.count(0), 8);
        layRow(x, 4, 1, 4);
        x.cut(4, 4, 1, 2);
        due("through a slice", x.count(0), 8 + 1);
        x.join(4, 4, 4);
        due("through a slice in a join", x.count(0), 8 + 2);
    }

    private static void depth() {
        sentence("DEPTH of a CELL: 0 of a LEAF, a SLICE; of a JOIN one more than the greater one of its CELLS'.");
        RopeShelf x = singles(2);
        due("a leaf without signs", x.told(7, 2), 0);
        due("a leaf", x.told(0, 2), 0);
        layRow(x, 2, 1, 4);
        x.cut(2, 2, 1, 2);
        due("a slice", x.told(2, 2), 0);
        x.join(3, 0, 1);
        due("a join of leaves", x.told(3, 2), 1);
        x.join(4, 2, 2);
        due("a join of slices", x.told(4, 2), 1);
        x.join(5, 3, 0);
        due("the left one deeper", x.told(5, 2), 2);
        x.join(6, 0, 3);
        due("the right one deeper", x.told(6, 2), 2);
        x.join(7, 3, 4);
        due("both as deep", x.told(7, 2), 2);
        x.join(7, 7, 3);
        due("two and one", x.told(7, 2), 3);
    }

    private static void pieces() {
        sentence("PIECES of a CELL: itself, if it is a LEAF or a SLICE; of a JOIN those of the left and the right");
        RopeShelf x = singles(2);
        due("a leaf without signs", x.told(7, 3), 1);
        due("no second one", x.piece(7, 1, 0), NONE);
        due("a leaf", x.told(0, 3), 1);
        layRow(x, 2, 11, 4);
        x.cut(2, 2, 1, 3);
        due("a slice: its base is no piece", x.told(2, 3), 1);
        x.join(3, 2, 0);
        x.join(4, 1, 3);
        due("a join in a join", x.told(4, 3), 3);
        duePiece("the left one first", x, 4, 0, 1, 0, 1, 0);
        duePiece("then those of the right one", x, 4, 1, 3, 1, 4, 1);
        duePiece("to the last", x, 4, 2, 1, 0, 1, 2);
    }

    private static void piecesSeveralTimes() {
        sentence("(a CELL may come several times)");
        RopeShelf x = singles(1);
        x.copy(1, 0);
        for (int i = 0; i < 3; i++) {
            x.join(1, 1, 1);
        }
        due("eight times one cell", x.told(1, 3), 8);
        due("four cells", x.told(1, 4), 4);
        due("the first place of the last one", x.piece(1, 7, 3), 0);
        x.copy(2, 1);
        for (int i = 0; i < 14; i++) {
            x.join(2, 2, 1);
        }
        due("120 times one cell", x.told(2, 3), 120);
        duePiece("the 120th", x, 2, 119, 1, 0, 1, 0);
        due("no 121st", x.piece(2, 120, 0), NONE);
        due("flat of 120", x.flat(2), 120);
    }

    private static void rules() {
        sentence("RULES: SMALL, 0 to 32 (8 at first); DEEP, 1 to 12 (6 at first); LOOSE, 1 to 8 (4 at first).");
        int[][] rows = {{0, 32, 8}, {1, 12, 6}, {1, 8, 4}};
        for (int what = 0; what < 3; what++) {
            RopeShelf x = new RopeShelf();
            int least = rows[what][0];
            int greatest = rows[what][1];
            due(what + " at first", x.count(10 + what), rows[what][2]);
            due(what + " below the least", x.rule(what, least - 1), OUTSIDE);
            due(what + " above the greatest", x.rule(what, greatest + 1), OUTSIDE);
            due(what + " least", x.rule(what, least), rows[what][2]);
            due(what + " is the least", x.count(10 + what), least);
            due(what + " greatest", x.rule(what, greatest), least);
            due(what + " is the greatest", x.count(10 + what), greatest);
        }
    }

    private static void joinWithNoSignRight() {
        sentence("(a) the TEXT of b has no SIGN: a");
        RopeShelf x = chain(12, 5);
        x.rule(SMALL, 32);
        x.rule(DEEP, 1);
        due("a rope", x.join(1, 7, 6), 5);
        dueSame("a rope, neither made small nor balanced", x, 1, 7, true);
        due("a leaf", x.join(2, 0, 6), 1);
        dueSame("a leaf", x, 2, 0, true);
        layRow(x, 3, 1, 4);
        x.cut(3, 3, 0, 3);
        x.join(4, 3, 6);
        dueSame("a slice", x, 4, 3, true);
    }

    private static void joinWithNoSignLeft() {
        sentence("(b) the TEXT of a has none: b");
        RopeShelf x = chain(12, 5);
        x.rule(SMALL, 32);
        x.rule(DEEP, 1);
        due("a rope", x.join(1, 6, 7), 5);
        dueSame("a rope, neither made small nor balanced", x, 1, 7, true);
        due("a leaf", x.join(2, 6, 0), 1);
        dueSame("a leaf", x, 2, 0, true);
        layRow(x, 3, 1, 4);
        x.cut(3, 3, 0, 3);
        x.join(4, 6, 3);
        dueSame("a slice", x, 4, 3, true);
    }

    private static void joinOfNoSigns() {
        sentence("To JOIN two CELLS, a and b: the first that fits: (a) ..; (b) ..");
        RopeShelf x = new RopeShelf();
        due("both without", x.join(0, 1, 2), 0);
        dueSame("a", x, 0, 1, true);
        dueSame("not b", x, 0, 2, false);
        due("one with itself", x.join(3, 3, 3), 0);
        due("no new cell", x.count(0), 7);
    }

    private static void joinOfFewSigns() {
        sentence("(c) both TEXTS together have no more than SMALL SIGNS: a new LEAF of both");
        RopeShelf x = new RopeShelf();
        layRow(x, 0, 1, 4);
        layRow(x, 1, 5, 4);
        x.join(2, 0, 1);
        dueTold("as many as SMALL", x, 2, 8, 0, 0, 1, 1, 32, 0);
        dueText("as many as SMALL", x, 2, 1, 2, 3, 4, 5, 6, 7, 8);
        x.join(3, 0, 1);
        dueSame("each time a new one", x, 2, 3, false);
        x.rule(SMALL, 9);
        x.join(3, 0, 1);
        due("fewer than SMALL", x.told(3, 1), 0);
        x.rule(SMALL, 32);
        x.join(3, 2, 2);
        x.join(3, 3, 3);
        dueTold("32, the greatest SMALL", x, 3, 32, 0, 0, 1, 1, 56, 0);
        x.rule(SMALL, 2);
        lay(x, 4, 1);
        lay(x, 5, 2);
        x.join(6, 4, 5);
        due("SMALL 2: two signs", x.told(6, 1), 0);
    }

    private static void joinOfFewSignsComesAheadOfDeep() {
        sentence("the first that fits: .. (c) .. (d)");
        RopeShelf x = chain(12, 13);
        due("12 deep", x.told(7, 2), 12);
        x.rule(SMALL, 14);
        due("few signs, too deep", x.join(1, 7, 0), 14);
        dueTold("few signs, too deep", x, 1, 14, 0, 0, 1, 1, 38, 0);
        x.rule(SMALL, 13);
        x.join(1, 7, 0);
        due("more signs, too deep", x.told(1, 3), 14);
    }

    private static void joinOfMoreSigns() {
        sentence("(d) a new JOIN of both");
        RopeShelf x = new RopeShelf();
        layRow(x, 0, 1, 5);
        layRow(x, 1, 6, 4);
        x.join(2, 0, 1);
        dueTold("one more than SMALL", x, 2, 9, 1, 1, 2, 3, 24 + 29 + 28, 0);
        x.join(3, 0, 1);
        dueSame("each time a new one", x, 2, 3, false);
        x.rule(SMALL, 1);
        lay(x, 4, 1);
        lay(x, 5, 2);
        x.join(6, 4, 5);
        due("SMALL 1: two signs", x.told(6, 1), 1);
        x.rule(SMALL, 0);
        x.join(6, 4, 4);
        due("SMALL 0: two signs", x.told(6, 1), 1);
        layRow(x, 0, 1, 33);
        x.rule(SMALL, 32);
        x.cut(1, 0, 0, 32);
        x.join(6, 1, 4);
        due("SMALL 32: 33 signs", x.told(6, 1), 1);
    }

    private static void joinDeeperThanDeep() {
        sentence("(d) a new JOIN of both; if its DEPTH is greater than DEEP, in its place what its PIECES give");
        int[] balanced = {0, 2, 2, 3, 3, 3, 3, 4, 4, 4, 4, 4, 4};
        for (int deep = 1; deep <= 12; deep++) {
            RopeShelf x = chain(deep, deep + 1);
            due("as deep as DEEP " + deep, x.told(7, 2), deep);
            duePart("as deep as DEEP " + deep + ": a chain", x, 7, 0, deep, true);
            x.join(7, 7, 0);
            due("deeper than DEEP " + deep, x.told(7, 2), balanced[deep]);
            due("deeper than DEEP " + deep + ": pieces", x.told(7, 3), deep + 2);
            duePart("deeper than DEEP " + deep + ": no chain", x, 7, 0, deep + 1, false);
        }
        RopeShelf x = chain(4, 5);
        x.join(7, 0, 7);
        due("the right one too deep", x.told(7, 2), 3);
    }

    private static void onePieceAlone() {
        sentence("PIECES BALANCED: one alone: itself");
        RopeShelf x = singles(3);
        x.rule(DEEP, 1);
        x.join(7, 0, 1);
        x.join(7, 7, 2);
        for (int i = 0; i < 3; i++) {
            x.cut(6, 7, i, 1);
            dueSame("piece " + i, x, 6, i, true);
        }
        dueTold("three pieces, two joins", x, 7, 3, 1, 2, 3, 5, 2 * 24 + 3 * 25, 0);
    }

    /** The halves of a balanced rope of single signs, and theirs: each is a join or a leaf that is there. */
    private static void dueHalves(RopeShelf x, int first, int many) {
        duePart("balanced", x, 7, first, many, true);
        if (many > 1) {
            dueHalves(x, first, many / 2);
            dueHalves(x, first + many / 2, many - many / 2);
        }
    }

    private static void halfAsMany() {
        sentence("else a new JOIN of the first ones, half as many, cut, BALANCED, and of the others, BALANCED.");
        for (int many = 3; many <= 14; many++) {
            RopeShelf x = chain(many - 2, many);
            dueHalves(x, 0, many);
            due("joins and the leaf", x.told(7, 4), many);
        }
    }

    private static void balancedWithoutTheRest() {
        sentence("(Without (a) to (d).)");
        RopeShelf x = chain(3, 4);
        x.rule(SMALL, 4);
        x.join(7, 7, 0);
        dueTold("halves of few signs stay joins", x, 7, 5, 1, 3, 5, 5, 4 * 24 + 25, 0);
        x = chain(1, 60);
        x.join(7, 7, 7);
        due("deeper than DEEP", x.told(7, 2), 7);
        due("all pieces", x.told(7, 3), 120);
    }

    private static void cutNone() {
        sentence("if n is 0: a new LEAF without SIGNS");
        RopeShelf x = new RopeShelf();
        x.rule(SMALL, 0);
        layRow(x, 0, 1, 4);
        x.cut(1, 0, 1, 2);
        x.join(2, 0, 1);
        for (int from = 0; from < 4; from++) {
            int many = x.told(from, 0);
            for (int f : new int[] {0, many / 2, many}) {
                due("none of slot " + from, x.cut(6, from, f, 0), 0);
                dueTold("none of slot " + from, x, 6, 0, 0, 0, 1, 1, 24, 0);
            }
        }
        x.cut(5, 3, 0, 0);
        dueSame("none, which is all: yet a new one", x, 5, 3, false);
        x.cut(5, 5, 0, 0);
        due("a new one for each slot", x.count(0), 8);
    }

    private static void cutAll() {
        sentence("else, if that is all of its TEXT: itself");
        RopeShelf x = new RopeShelf();
        x.rule(SMALL, 0);
        layRow(x, 0, 1, 4);
        x.cut(1, 0, 1, 2);
        x.join(2, 0, 1);
        lay(x, 3, 9);
        for (int loose : new int[] {1, 8}) {
            x.rule(LOOSE, loose);
            for (int from = 0; from < 4; from++) {
                int many = x.told(from, 0);
                due("all of slot " + from, x.cut(6, from, 0, many), many);
                dueSame("all of slot " + from, x, 6, from, true);
            }
        }
        due("one less", x.cut(6, 2, 0, 5), 5);
        dueSame("one less", x, 6, 2, false);
    }

    private static void cutOfLeaf() {
        sentence("of a LEAF: if n times LOOSE is less than how many SIGNS it has: a new LEAF; else a new SLICE of it");
        // LOOSE, how many signs the leaf has, how many are cut, what comes of it (0 a leaf, 2 a slice).
        int[][] rows = {{4, 20, 5, 2}, {4, 21, 5, 0}, {4, 19, 5, 2}, {4, 20, 4, 0}, {1, 2, 1, 0}, {1, 40, 39, 0},
            {2, 2, 1, 2}, {2, 3, 1, 0}, {8, 8, 1, 2}, {8, 9, 1, 0}, {8, 40, 5, 2}, {8, 40, 4, 0}, {3, 9, 3, 2},
            {3, 10, 3, 0}};
        for (int[] row : rows) {
            String name = "LOOSE " + row[0] + ", " + row[2] + " of " + row[1];
            RopeShelf x = new RopeShelf();
            x.rule(LOOSE, row[0]);
            layRow(x, 0, 1, row[1]);
            due(name, x.cut(1, 0, row[1] - row[2], row[2]), row[2]);
            due(name, x.told(1, 1), row[3]);
            due(name + ": cells", x.told(1, 4), row[3] == 2 ? 2 : 1);
            due(name + ": the last sign", x.sign(1, row[2] - 1), row[1]);
            due(name + ", again", x.cut(2, 0, row[1] - row[2], row[2]), row[2]);
            dueSame(name + ": a new one", x, 1, 2, false);
            due(name + ": of the same text", x.alike(1, 2, 0), 1);
            due(name + ", after another join", x.join(3, 1, 2), 2 * row[2]);
            due(name + ", after another join", x.cut(4, 0, 0, row[2]), row[2]);
            due(name + ": the first sign", x.sign(4, 0), 1);
        }
    }

    private static void cutOfSlice() {
        sentence("of a SLICE: what is CUT out of its BASE, from FROM and f, added, on (LOOSE is asked of .. the BASE)");
        RopeShelf x = new RopeShelf();
        layRow(x, 0, 1, 20);
        x.cut(1, 0, 2, 15);
        x.cut(2, 1, 0, 5);
        dueTold("its first ones", x, 2, 5, 2, 0, 1, 2, 28 + 44, 0);
        duePiece("its first ones", x, 2, 0, 5, 2, 20, 0);
        x.cut(2, 1, 10, 5);
        duePiece("its last ones", x, 2, 0, 5, 12, 20, 0);
        dueText("its last ones", x, 2, 13, 14, 15, 16, 17);
        // 4 times 4 is more than the slice's 15, but less than the base's 20.
        x.cut(2, 1, 10, 4);
        dueTold("asked of the base", x, 2, 4, 0, 0, 1, 1, 28, 0);
        dueText("asked of the base", x, 2, 13, 14, 15, 16);
        x.cut(2, 1, 1, 14);
        x.cut(3, 2, 1, 12);
        x.cut(4, 3, 1, 10);
        duePiece("slice of slice of slice", x, 4, 0, 10, 5, 20, 0);
        due("slice of slice of slice: the leaf is its base", x.told(4, 4), 2);
    }

    /** Leaves of four signs each in slots 0 and 1, their join in slot 2. */
    private static RopeShelf twoLeaves() {
        RopeShelf x = new RopeShelf();
        x.rule(SMALL, 0);
        x.rule(LOOSE, 8);
        layRow(x, 0, 1, 4);
        layRow(x, 1, 5, 4);
        x.join(2, 0, 1);
        return x;
    }

    private static void cutAtTheMiddleOfJoin() {
        sentence("of a JOIN: if all of them lie in the left CELL: what is CUT out of that; if in the right one: of that");
        RopeShelf x = twoLeaves();
        x.cut(3, 2, 0, 4);
        dueSame("to the middle", x, 3, 0, true);
        x.cut(3, 2, 4, 4);
        dueSame("from the middle", x, 3, 1, true);
        x.cut(3, 2, 3, 1);
        dueTold("the last one to the left", x, 3, 1, 2, 0, 1, 2, 28 + 28, 0);
        duePiece("the last one to the left", x, 3, 0, 1, 3, 4, 0);
        x.cut(3, 2, 4, 1);
        dueTold("the first one to the right", x, 3, 1, 2, 0, 1, 2, 28 + 28, 0);
        duePiece("the first one to the right", x, 3, 0, 1, 0, 4, 0);
        x.cut(3, 2, 7, 1);
        duePiece("the last one of all", x, 3, 0, 1, 3, 4, 0);
        dueText("the last one of all", x, 3, 8);
        x.rule(LOOSE, 2);
        x.cut(3, 2, 0, 1);
        due("LOOSE is asked of the cell that is cut", x.told(3, 1), 0);
        x.rule(LOOSE, 4);
        x.rule(SMALL, 32);
        x.cut(3, 2, 0, 4);
        dueSame("SMALL is not asked: to the middle", x, 3, 0, true);
        x.cut(3, 2, 3, 1);
        due("SMALL is not asked: to the left", x.told(3, 1), 2);
        x.cut(3, 2, 4, 1);
        due("SMALL is not asked: to the right", x.told(3, 1), 2);
    }

    private static void cutInBothOfJoin() {
        sentence("else what is CUT out of the left one, from f to its end, JOINED with what is CUT out of the right one");
        RopeShelf x = twoLeaves();
        x.cut(3, 2, 3, 2);
        dueTold("one of each", x, 3, 2, 1, 1, 2, 5, 24 + 28 + 28 + 28 + 28, 0);
        duePiece("one of the left", x, 3, 0, 1, 3, 4, 0);
        duePiece("one of the right", x, 3, 1, 1, 0, 4, 1);
        x.cut(3, 2, 0, 5);
        dueTold("the left one whole", x, 3, 5, 1, 1, 2, 4, 24 + 28 + 28 + 28, 0);
        x.cut(3, 2, 3, 5);
        dueTold("the right one whole", x, 3, 5, 1, 1, 2, 4, 24 + 28 + 28 + 28, 0);
        dueText("the right one whole", x, 3, 4, 5, 6, 7, 8);
        x.rule(SMALL, 2);
        x.cut(3, 2, 3, 2);
        dueTold("joined, few signs", x, 3, 2, 0, 0, 1, 1, 26, 0);
        x.cut(3, 2, 3, 3);
        due("joined, one sign more", x.told(3, 1), 1);
        x.rule(SMALL, 0);
        x.join(3, 2, 2);
        x.rule(DEEP, 1);
        x.cut(4, 3, 1, 15);
        dueTold("joined, too deep: balanced", x, 4, 15, 1, 2, 4, 6, 3 * 24 + 28 + 28 + 28, 0);
        x.cut(4, 3, 3, 6);
        dueText("three pieces", x, 4, 4, 5, 6, 7, 8, 1);
        duePart("three pieces: balanced", x, 4, 1, 5, true);
    }

    private static void cutLeavesTheRope() {
        sentence("Texts are joined without copying, and cut without copying");
        for (int f = 0; f < 14; f++) {
            for (int n = 1; f + n <= 14; n++) {
                // Balanced by the last call but one: all its joins were made at once, and the cut is balanced, too.
                RopeShelf x = chain(12, 14);
                x.rule(DEEP, 1);
                x.cut(5, 7, f, n);
                dueTold("the rope stays", x, 7, 14, 1, 4, 14, 14, 13 * 24 + 25, 0);
                due("what is cut out of it: pieces", x.told(5, 3), n);
                due("what is cut out of it: joins and the leaf", x.told(5, 4), n);
            }
        }
        RopeShelf x = singles(2);
        x.join(2, 0, 1);
        x.join(3, 2, 2);
        dueTold("a join stays when it is joined", x, 2, 2, 1, 1, 2, 3, 24 + 25 + 25, 0);
    }

    private static void flattenForAll() {
        sentence("a JOIN or a SLICE becomes, itself, a LEAF of its TEXT: all that have it have a LEAF then");
        RopeShelf x = twoLeaves();
        x.copy(3, 2);
        x.join(4, 2, 0);
        x.intern(2);
        x.image(0);
        due("a join", x.flat(3), 2);
        dueTold("another slot", x, 2, 8, 0, 0, 1, 1, 32, 0);
        dueSame("itself", x, 2, 3, true);
        dueTold("a join that has it", x, 4, 12, 1, 1, 2, 3, 24 + 32 + 28, 0);
        due("the entry", x.entry(0, 2), 2);
        lay(x, 2);
        lay(x, 3);
        x.restore(0);
        due("the image", x.told(2, 1), 0);
        x.cut(5, 0, 0, 2);
        x.join(6, 5, 5);
        due("a slice", x.flat(5), 1);
        dueTold("a slice", x, 5, 2, 0, 0, 1, 1, 26, 0);
        dueTold("a join that has it twice", x, 6, 4, 1, 1, 2, 2, 24 + 26, 0);
        duePiece("it is no part of a leaf any more", x, 6, 1, 2, 0, 2, 0);
    }

    private static void flattenLetsGo() {
        sentence("the CELLS that it had (of a SLICE its BASE) it has no more.");
        RopeShelf x = twoLeaves();
        x.intern(0);
        x.intern(1);
        x.cut(3, 1, 0, 3);
        lay(x, 0);
        lay(x, 1);
        due("before", x.count(0), 8 + 2);
        due("before: swept", x.sweep(), 0);
        x.flat(2);
        due("a join", x.count(0), 8 + 1);
        due("a join: swept", x.sweep(), 1);
        x.flat(3);
        due("a slice", x.count(0), 8);
        due("a slice: swept", x.sweep(), 1);
        dueText("the join's text stays", x, 2, 1, 2, 3, 4, 5, 6, 7, 8);
        dueText("the slice's text stays", x, 3, 5, 6, 7);
    }

    private static void flattenLeaf() {
        sentence("A LEAF stays as it is.");
        RopeShelf x = twoLeaves();
        x.cut(3, 0, 1, 3);
        due("a leaf", x.flat(0), 1);
        dueTold("a leaf", x, 0, 4, 0, 0, 1, 1, 28, 0);
        dueText("a leaf", x, 0, 1, 2, 3, 4);
        dueTold("a slice of it stays", x, 3, 3, 2, 0, 1, 2, 28 + 28, 0);
        dueTold("a join of it stays", x, 2, 8, 1, 1, 2, 3, 24 + 28 + 28, 0);
        due("a leaf without signs", x.flat(7), 1);
        dueTold("a leaf without signs", x, 7, 0, 0, 0, 1, 1, 24, 0);
    }

    private static void dueHash(String name, int want, int... signs) {
        RopeShelf x = new RopeShelf();
        lay(x, 0, signs);
        due(name, x.hash(0), want);
    }

    private static void hashes() {
        sentence("HASH of a TEXT: h is 0 at first; for each SIGN h becomes 31 times h and the SIGN, as ints that wrap.");
        dueHash("no sign", 0);
        dueHash("the least sign", 1, 1);
        dueHash("the greatest sign", 9999, 9999);
        dueHash("from the first one on", 31 * 2 + 3, 2, 3);
        dueHash("the greatest int", GREATEST, 2, 12, 31, 9, 30, 12, 1);
        dueHash("one more wraps", LEAST, 2, 12, 31, 9, 30, 12, 2);
        dueHash("wraps to 0", 0, 4, 25, 31, 19, 29, 24, 4);
        dueHash("wraps once", 952161103, 9999, 9999, 9999, 9999, 9999);
        dueHash("wraps below 0", -547766880, 9999, 9999, 9999, 9999, 9999, 9999);
        RopeShelf x = new RopeShelf();
        layMost(x, 1, 0);
        due("the longest text", x.hash(1), -1523010628);
        x.flat(1);
        due("whatever the cells", x.hash(1), -1523010628);
    }

    private static void roomOfLeaf() {
        sentence("ROOM of a CELL: of a LEAF 24, and for each SIGN 1, if none of them is above 255, else 2");
        RopeShelf x = new RopeShelf();
        due("no sign", x.told(0, 5), 24);
        lay(x, 0, 255);
        due("255", x.told(0, 5), 25);
        lay(x, 0, 256);
        due("256", x.told(0, 5), 26);
        lay(x, 0, 1, 255, 255, 2);
        due("four of one", x.told(0, 5), 28);
        lay(x, 0, 256, 1, 1, 1);
        due("the first one above 255", x.told(0, 5), 32);
        lay(x, 0, 1, 1, 1, 9999);
        due("the last one above 255", x.told(0, 5), 32);
        x.rule(LOOSE, 1);
        x.cut(1, 0, 0, 3);
        due("cut out without it", x.told(1, 5), 27);
    }

    private static void roomOfJoinAndSlice() {
        sentence("ROOM of a CELL: .. of a JOIN 24; of a SLICE 28.");
        RopeShelf x = new RopeShelf();
        x.rule(SMALL, 0);
        lay(x, 0, 300, 300, 300, 300);
        x.cut(1, 0, 0, 1);
        due("a slice of one", x.told(1, 5), 28 + 32);
        x.cut(1, 0, 0, 3);
        due("a slice of three", x.told(1, 5), 28 + 32);
        x.join(2, 0, 0);
        due("a join", x.told(2, 5), 24 + 32);
        x.join(2, 2, 2);
        due("a join of joins", x.told(2, 5), 24 + 24 + 32);
    }

    private static void entriesNumbered() {
        sentence("THE TABLE has ENTRIES, numbered 0, 1, .. as they come, each a CELL");
        RopeShelf x = new RopeShelf();
        for (int i = 0; i < 3; i++) {
            lay(x, i, 9 - i);
            due("its number", x.intern(i), i);
        }
        for (int i = 0; i < 3; i++) {
            due("as they come", x.entry(i, 0), i);
            due("its cell", x.entry(i, 2), 1);
        }
        due("no fourth", x.entry(3, 0), NONE);
    }

    private static void entriesNeverMore() {
        sentence("there are never more than 24 (INTERNING that would make one more is refused)");
        RopeShelf x = new RopeShelf();
        fillTable(x, 0, 100);
        due("24", x.count(2), 24);
        due("the 24th", x.entry(23, 0), 23);
        lay(x, 1, 5);
        due("one more", x.intern(1), FULL);
        due("still 24", x.count(2), 24);
        due("still 24 ever", x.count(3), 24);
        due("no 25th", x.entry(24, 0), NONE);
        lay(x, 2, 100);
        due("one that is there: the first", x.intern(2), 0);
        lay(x, 2, 123);
        due("one that is there: the last", x.intern(2), 23);
        due("room again", x.sweep(), 23);
        due("no more refused", x.intern(1), 24);
    }

    private static void internSameText() {
        sentence("if there is an ENTRY whose TEXT is the same as that of its CELL, the SLOT holds the CELL of that ENTRY");
        RopeShelf x = twoLeaves();
        x.join(3, 0, 1);
        x.flat(3);
        due("a leaf", x.intern(3), 0);
        due("a join of the same text", x.intern(2), 0);
        dueSame("a join of the same text", x, 2, 3, true);
        due("the same slot again", x.intern(2), 0);
        layRow(x, 4, 1, 8);
        x.cut(5, 4, 0, 7);
        due("a slice", x.intern(5), 1);
        layRow(x, 6, 1, 7);
        due("a leaf of the slice's text", x.intern(6), 1);
        dueSame("a leaf of the slice's text", x, 5, 6, true);
        due("the slice", x.told(6, 1), 2);
        due("the signs without the last are another text", x.count(2), 2);
    }

    private static void internNewText() {
        sentence("else its CELL becomes an ENTRY.");
        RopeShelf x = twoLeaves();
        x.intern(0);
        due("a join, whose first signs are an entry", x.intern(2), 1);
        due("it stays a join", x.told(2, 1), 1);
        due("its slot", x.entry(1, 2), 1);
        x.copy(3, 2);
        due("both slots have the entry's cell", x.entry(1, 2), 2);
        due("no sign", x.intern(7), 2);
        due("no sign: how many", x.entry(2, 1), 0);
        // 31 times 2 and 1 is 31 times 1 and 32.
        lay(x, 4, 2, 1);
        lay(x, 5, 1, 32);
        due("the same hash", x.hash(4) - x.hash(5), 0);
        due("a new text", x.intern(4), 3);
        due("another text of the same hash", x.intern(5), 4);
        dueText("it stays", x, 5, 1, 32);
    }

    private static void sweeps() {
        sentence("To SWEEP: all ENTRIES go whose CELLS are not HELD.");
        RopeShelf x = twoLeaves();
        due("no entry", x.sweep(), 0);
        x.intern(0);
        x.intern(1);
        x.intern(2);
        due("all held by slots", x.sweep(), 0);
        lay(x, 0);
        lay(x, 1);
        due("held by a join", x.sweep(), 0);
        x.cut(3, 2, 1, 3);
        x.image(0);
        lay(x, 2);
        due("a base stays; what an image keeps goes", x.sweep(), 2);
        due("the base's entry", x.entry(0, 0), 0);
        due("no other one", x.entry(1, 0), NONE);
        lay(x, 3);
        due("the last one", x.sweep(), 1);
        due("none is left", x.count(2), 0);
        due("none goes", x.sweep(), 0);
        x.restore(0);
        due("what went does not come back", x.count(2), 0);
        sweepAll();
    }

    private static void sweepAll() {
        RopeShelf x = new RopeShelf();
        fillTable(x, 0, 100);
        lay(x, 0);
        due("all 24", x.sweep(), 24);
        due("all 24: none is left", x.count(2), 0);
    }

    private static void numbersDoNotComeAgain() {
        sentence("(Numbers of ENTRIES that went do not come again.)");
        RopeShelf x = new RopeShelf();
        lay(x, 0, 1);
        lay(x, 1, 2);
        lay(x, 2, 3);
        x.intern(0);
        x.intern(1);
        x.intern(2);
        lay(x, 2);
        x.copy(0, 2);
        due("the first and the last went", x.sweep(), 2);
        due("the one between stays", x.entry(0, 0), 1);
        lay(x, 3, 1);
        due("a text that was there before", x.intern(3), 3);
        lay(x, 4, 3);
        due("the number of the last one is not free", x.intern(4), 4);
        due("ever", x.count(3), 5);
        due("the i-th that is there", x.entry(2, 0), 4);
    }
}

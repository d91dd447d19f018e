/** Each promise of the document by itself: ordinary calls, the edges that are named, wrong numbers. */
public final class PromiseTest extends ShelfTest {
    public static void main(String[] args) {
        constants();
        newObject();
        rule();
        say();
        put();
        copy();
        join();
        joinBalances();
        cutLeavesAndSlices();
        cutJoins();
        cutRefuses();
        flat();
        sign();
        hash();
        told();
        piece();
        alike();
        intern();
        sweep();
        entry();
        count();
        image();
        restore();
        end("all promises are kept");
    }

    private static void constants() {
        due("UNKNOWN", RopeShelf.UNKNOWN, -1);
        due("OUTSIDE", RopeShelf.OUTSIDE, -2);
        due("STATE", RopeShelf.STATE, -3);
        due("FULL", RopeShelf.FULL, -4);
        due("NONE", RopeShelf.NONE, -6);
    }

    private static void newObject() {
        RopeShelf x = new RopeShelf();
        for (int slot = 0; slot < 8; slot++) {
            dueTold("new", x, slot, 0, 0, 0, 1, 1, 24, 0);
            for (int other = 0; other < 8; other++) {
                due("new: leaves of their own", x.alike(slot, other, 1), slot == other ? 1 : 0);
            }
        }
        int[] counts = {8, 192, 0, 0, 0, 0};
        for (int what = 0; what < counts.length; what++) {
            due("new: count " + what, x.count(what), counts[what]);
        }
        due("new: SMALL", x.count(10), 8);
        due("new: DEEP", x.count(11), 6);
        due("new: LOOSE", x.count(12), 4);
        due("new: image 0", x.restore(0), RopeShelf.STATE);
        due("new: image 1", x.restore(1), RopeShelf.STATE);
    }

    private static void rule() {
        RopeShelf x = new RopeShelf();
        int[] first = {8, 6, 4};
        int[] least = {0, 1, 1};
        int[] most = {32, 12, 8};
        for (int what = 0; what < 3; what++) {
            due("rule least", x.rule(what, least[what]), first[what]);
            due("rule most", x.rule(what, most[what]), least[what]);
            for (int n : new int[] {least[what] - 1, most[what] + 1, LEAST, GREATEST}) {
                due("rule " + what + " " + n, x.rule(what, n), RopeShelf.OUTSIDE);
            }
            due("rule kept", x.count(10 + what), most[what]);
        }
        for (int what : new int[] {-1, 3, LEAST, GREATEST}) {
            due("rule what " + what, x.rule(what, 1), RopeShelf.OUTSIDE);
        }
    }

    private static void say() {
        RopeShelf x = new RopeShelf();
        for (int sign : new int[] {0, -1, 10000, LEAST, GREATEST}) {
            due("say " + sign, x.say(sign), RopeShelf.OUTSIDE);
        }
        due("say 1", x.say(1), 1);
        due("say 9999", x.say(9999), 2);
        for (int i = 3; i <= 40; i++) {
            due("say", x.say(7), i);
        }
        due("say one more than 40", x.say(7), RopeShelf.FULL);
        due("say: OUTSIDE comes ahead of FULL", x.say(0), RopeShelf.OUTSIDE);
        due("say: draft", x.count(4), 40);
        due("say: put", x.put(0), 40);
        due("say: after put", x.say(5), 1);
    }

    private static void put() {
        RopeShelf x = new RopeShelf();
        x.say(300);
        x.say(2);
        for (int slot : NO_SLOTS) {
            due("put " + slot, x.put(slot), RopeShelf.UNKNOWN);
        }
        due("put: refused, draft stays", x.count(4), 2);
        due("put", x.put(7), 2);
        dueText("put", x, 7, 300, 2);
        due("put: draft is empty", x.count(4), 0);
        due("put none", x.put(7), 0);
        dueText("put none", x, 7);
        due("put: a new leaf", x.alike(7, 0, 1), 0);
    }

    private static void copy() {
        RopeShelf x = new RopeShelf();
        lay(x, 0, 1, 2, 3);
        due("copy", x.copy(1, 0), 3);
        due("copy: the same cell", x.alike(0, 1, 1), 1);
        due("copy to itself", x.copy(1, 1), 3);
        for (int slot : NO_SLOTS) {
            due("copy to " + slot, x.copy(slot, 0), RopeShelf.UNKNOWN);
            due("copy from " + slot, x.copy(1, slot), RopeShelf.UNKNOWN);
        }
        lay(x, 0, 9);
        dueText("copy stays", x, 1, 1, 2, 3);
        due("copy of none", x.copy(1, 2), 0);
    }

    private static void join() {
        RopeShelf x = new RopeShelf();
        layRow(x, 0, 1, 5);
        layRow(x, 1, 6, 3);
        due("join: b without signs", x.join(3, 0, 2), 5);
        due("join: is a", x.alike(3, 0, 1), 1);
        due("join: a without signs", x.join(3, 2, 1), 3);
        due("join: is b", x.alike(3, 1, 1), 1);
        due("join: both without", x.join(3, 2, 4), 0);
        due("join: both without: a", x.alike(3, 2, 1), 1);
        due("join: as many as SMALL", x.join(3, 0, 1), 8);
        dueTold("join: small", x, 3, 8, 0, 0, 1, 1, 32, 0);
        dueText("join: small", x, 3, 1, 2, 3, 4, 5, 6, 7, 8);
        x.rule(0, 7);
        due("join: more than SMALL", x.join(4, 0, 1), 8);
        dueTold("join: not small", x, 4, 8, 1, 1, 2, 3, 24 + 29 + 27, 0);
        due("join with itself, into itself", x.join(4, 4, 4), 16);
        dueTold("join with itself", x, 4, 16, 1, 2, 4, 4, 24 + 24 + 29 + 27, 0);
        for (int slot : NO_SLOTS) {
            due("join to " + slot, x.join(slot, 0, 1), RopeShelf.UNKNOWN);
            due("join a " + slot, x.join(0, slot, 1), RopeShelf.UNKNOWN);
            due("join b " + slot, x.join(0, 1, slot), RopeShelf.UNKNOWN);
        }
        layRow(x, 5, 1, 40);
        due("join 80", x.join(6, 5, 5), 80);
        due("join 120", x.join(7, 6, 5), 120);
        due("join 121", x.join(7, 7, 0), RopeShelf.FULL);
        due("join 120 and none", x.join(6, 7, 2), 120);
        due("join: UNKNOWN comes ahead of FULL", x.join(8, 7, 7), RopeShelf.UNKNOWN);
        due("join: refused changes nothing", x.told(7, 0), 120);
    }

    private static void joinBalances() {
        RopeShelf x = new RopeShelf();
        x.rule(0, 0);
        x.rule(1, 3);
        for (int i = 0; i < 5; i++) {
            lay(x, i, 10 + i);
        }
        x.join(7, 0, 1);
        x.join(7, 7, 2);
        x.join(7, 7, 3);
        dueTold("as deep as DEEP", x, 7, 4, 1, 3, 4, 7, 3 * 24 + 4 * 25, 0);
        x.copy(6, 7);
        due("deeper than DEEP", x.join(7, 7, 4), 5);
        dueTold("balanced", x, 7, 5, 1, 3, 5, 9, 4 * 24 + 5 * 25, 0);
        dueText("balanced", x, 7, 10, 11, 12, 13, 14);
        dueTold("balanced: the old rope stays", x, 6, 4, 1, 3, 4, 7, 172, 0);
        due("balanced: new joins, old leaves", x.count(0), 5 + 3 + 4 + 1);
        // Five pieces: two to the left, three to the right. The left two are a join of their own.
        due("left of the middle", x.cut(5, 7, 0, 2), 2);
        due("left of the middle: a join that is there", x.count(0), 12);
        due("right of the middle", x.cut(5, 7, 2, 3), 3);
        due("right of the middle: a join that is there", x.count(0), 12);
        x.rule(1, 12);
        for (int i = 0; i < 8; i++) {
            x.join(7, 7, 4);
        }
        due("DEEP 12: a chain is not balanced", x.told(7, 2), 11);
        x.join(7, 7, 4);
        due("DEEP 12: depth 12", x.told(7, 2), 12);
        x.join(7, 7, 4);
        due("DEEP 12: 15 pieces balanced", x.told(7, 2), 4);
        due("a piece comes several times", x.piece(7, 14, 3), 4);
    }

    private static void cutLeavesAndSlices() {
        RopeShelf x = new RopeShelf();
        layRow(x, 0, 1, 20);
        due("cut: n times LOOSE is as many", x.cut(1, 0, 3, 5), 5);
        dueTold("slice", x, 1, 5, 2, 0, 1, 2, 28 + 44, 0);
        dueText("slice", x, 1, 4, 5, 6, 7, 8);
        due("cut: n times LOOSE is less", x.cut(2, 0, 16, 4), 4);
        dueTold("cut loose", x, 2, 4, 0, 0, 1, 1, 28, 0);
        dueText("cut loose", x, 2, 17, 18, 19, 20);
        due("cut all", x.cut(3, 0, 0, 20), 20);
        due("cut all: itself", x.alike(3, 0, 1), 1);
        due("cut all of a slice", x.cut(3, 1, 0, 5), 5);
        due("cut all of a slice: itself", x.alike(3, 1, 1), 1);
        x.cut(4, 0, 2, 15);
        due("cut of a slice", x.cut(5, 4, 3, 6), 6);
        due("cut of a slice: slice", x.told(5, 1), 2);
        due("cut of a slice: FROM", x.piece(5, 0, 1), 5);
        due("cut of a slice: the same base", x.piece(5, 0, 2), 20);
        dueText("cut of a slice", x, 5, 6, 7, 8, 9, 10, 11);
        // 4 times 4 is more than 15, the slice, but less than 20, its base.
        due("cut of a slice: LOOSE is asked of the base", x.cut(5, 4, 3, 4), 4);
        due("cut of a slice: leaf", x.told(5, 1), 0);
        due("cut none", x.cut(6, 0, 20, 0), 0);
        dueTold("cut none", x, 6, 0, 0, 0, 1, 1, 24, 0);
        due("cut none of none", x.cut(7, 6, 0, 0), 0);
        due("cut none of none: a new leaf", x.alike(7, 6, 1), 0);
        x.rule(2, 1);
        x.cut(5, 0, 0, 19);
        due("LOOSE 1: never a slice", x.told(5, 1), 0);
        x.rule(2, 8);
        x.cut(5, 0, 0, 3);
        due("LOOSE 8: 24 is not less than 20", x.told(5, 1), 2);
        due("cut into where it comes from", x.cut(0, 0, 1, 2), 2);
        dueText("cut into where it comes from", x, 0, 2, 3);
    }

    private static void cutJoins() {
        RopeShelf x = new RopeShelf();
        x.rule(0, 0);
        layRow(x, 0, 1, 4);
        layRow(x, 1, 5, 4);
        x.join(2, 0, 1);
        x.cut(3, 2, 0, 4);
        due("the left one whole: itself", x.alike(3, 0, 1), 1);
        x.cut(3, 2, 4, 4);
        due("the right one whole: itself", x.alike(3, 1, 1), 1);
        x.cut(3, 2, 1, 3);
        dueText("in the left one", x, 3, 2, 3, 4);
        due("in the left one: slice", x.told(3, 1), 2);
        x.cut(3, 2, 5, 2);
        dueText("in the right one", x, 3, 6, 7);
        x.cut(3, 2, 3, 2);
        dueText("in both", x, 3, 4, 5);
        dueTold("in both", x, 3, 2, 1, 1, 2, 5, 24 + 28 + 28 + 28 + 28, 0);
        due("in both: FROM of the left one", x.piece(3, 0, 1), 3);
        due("in both: FROM of the right one", x.piece(3, 1, 1), 0);
        x.rule(0, 2);
        x.cut(3, 2, 3, 2);
        dueTold("in both, joined by SMALL", x, 3, 2, 0, 0, 1, 1, 26, 0);
        x.rule(0, 0);
        x.join(4, 2, 2);
        x.join(4, 4, 2);
        due("a rope of depth 3", x.told(4, 2), 3);
        x.rule(1, 1);
        due("cut of a rope, balanced by DEEP", x.cut(5, 4, 1, 22), 22);
        due("cut of a rope: pieces", x.told(5, 3), 6);
        due("cut of a rope: depth", x.told(5, 2), 3);
        due("cut of a rope: the rope stays", x.told(4, 3), 6);
        due("cut of a rope: the text stays", x.alike(4, 5, 3), 1);
    }

    private static void cutRefuses() {
        RopeShelf x = new RopeShelf();
        layRow(x, 0, 1, 5);
        for (int slot : NO_SLOTS) {
            due("cut to " + slot, x.cut(slot, 0, 0, 1), RopeShelf.UNKNOWN);
            due("cut from " + slot, x.cut(0, slot, 0, 0), RopeShelf.UNKNOWN);
            due("cut: UNKNOWN comes ahead of OUTSIDE", x.cut(slot, 0, -1, -1), RopeShelf.UNKNOWN);
        }
        int[][] outside = {{-1, 1}, {1, -1}, {0, 6}, {5, 1}, {6, 0}, {6, -1}, {GREATEST, GREATEST}, {GREATEST, 1},
            {1, GREATEST}, {LEAST, LEAST}, {LEAST, 1}, {1, LEAST}};
        for (int[] fn : outside) {
            due("cut " + fn[0] + ", " + fn[1], x.cut(1, 0, fn[0], fn[1]), RopeShelf.OUTSIDE);
        }
        due("cut: refused changes nothing", x.told(1, 0), 0);
    }

    private static void flat() {
        RopeShelf x = new RopeShelf();
        x.rule(0, 0);
        layRow(x, 0, 1, 4);
        layRow(x, 1, 254, 2);
        x.join(2, 0, 1);
        x.join(3, 2, 0);
        x.cut(4, 0, 1, 2);
        for (int slot : NO_SLOTS) {
            due("flat " + slot, x.flat(slot), RopeShelf.UNKNOWN);
        }
        due("flat of a leaf", x.flat(0), 1);
        due("a rope over it, before", x.told(3, 2), 2);
        due("flat of a join", x.flat(2), 2);
        dueTold("flat", x, 2, 6, 0, 0, 1, 1, 30, 0);
        dueTold("a rope over it, after", x, 3, 10, 1, 1, 2, 3, 24 + 30 + 28, 0);
        dueText("a rope over it", x, 3, 1, 2, 3, 4, 254, 255, 1, 2, 3, 4);
        due("flat of a slice", x.flat(4), 1);
        dueTold("flat of a slice", x, 4, 2, 0, 0, 1, 1, 26, 0);
        due("flat of a slice: FROM", x.piece(4, 0, 1), 0);
        due("flat of a slice: base", x.piece(4, 0, 2), 2);
        dueText("flat of a slice", x, 4, 2, 3);
        x.cut(5, 2, 1, 5);
        due("a slice of what became flat", x.told(5, 1), 2);
        x.copy(6, 3);
        x.image(0);
        due("flat for all", x.flat(6), 2);
        due("flat for all: told", x.told(3, 1), 0);
        due("flat for all: the same cell", x.alike(3, 6, 1), 1);
    }

    private static void sign() {
        RopeShelf x = new RopeShelf();
        lay(x, 0, 9999, 1);
        due("sign 0", x.sign(0, 0), 9999);
        due("sign 1", x.sign(0, 1), 1);
        for (int i : new int[] {-1, 2, LEAST, GREATEST}) {
            due("sign " + i, x.sign(0, i), RopeShelf.NONE);
        }
        due("sign of none", x.sign(1, 0), RopeShelf.NONE);
        for (int slot : NO_SLOTS) {
            due("sign of slot " + slot, x.sign(slot, -1), RopeShelf.UNKNOWN);
        }
    }

    private static void hash() {
        RopeShelf x = new RopeShelf();
        due("hash of none", x.hash(0), 0);
        for (int slot : NO_SLOTS) {
            due("hash of slot " + slot, x.hash(slot), 0);
        }
        lay(x, 0, 7, 9);
        due("hash", x.hash(0), 31 * 7 + 9);
        int h = 0;
        for (int i = 0; i < 40; i++) {
            h = 31 * h + 9999;
            x.say(9999);
        }
        x.put(0);
        due("hash that wraps", x.hash(0), h);
        layRow(x, 0, 97, 10);
        x.rule(0, 0);
        x.cut(1, 0, 0, 4);
        x.cut(2, 0, 4, 6);
        x.join(3, 1, 2);
        due("hash of a rope of slices", x.hash(3), x.hash(0));
    }

    private static void told() {
        RopeShelf x = new RopeShelf();
        x.rule(0, 0);
        lay(x, 0, 255, 255, 255);
        dueTold("told: narrow", x, 0, 3, 0, 0, 1, 1, 27, 0);
        lay(x, 1, 1, 2, 256);
        dueTold("told: wide", x, 1, 3, 0, 0, 1, 1, 30, 1);
        x.cut(2, 1, 0, 2);
        dueTold("told: a narrow slice of a wide leaf", x, 2, 2, 2, 0, 1, 2, 58, 0);
        x.join(3, 2, 1);
        dueTold("told: the base is a piece, too", x, 3, 5, 1, 1, 2, 3, 24 + 28 + 30, 1);
        x.join(4, 3, 3);
        dueTold("told: the same cell twice", x, 4, 10, 1, 2, 4, 4, 24 + 24 + 28 + 30, 1);
        x.join(5, 0, 4);
        dueTold("told: the deeper one counts", x, 5, 13, 1, 3, 5, 6, 24 + 27 + 106, 1);
        for (int what : new int[] {-1, 7, LEAST, GREATEST}) {
            due("told what " + what, x.told(0, what), RopeShelf.OUTSIDE);
        }
        for (int slot : NO_SLOTS) {
            due("told of slot " + slot, x.told(slot, -1), RopeShelf.UNKNOWN);
        }
    }

    private static void piece() {
        RopeShelf x = new RopeShelf();
        x.rule(0, 0);
        layRow(x, 0, 1, 4);
        x.cut(1, 0, 2, 2);
        x.join(2, 1, 0);
        x.join(3, 2, 2);
        int[][] all = {{2, 2, 4, 0}, {4, 0, 4, 1}, {2, 2, 4, 0}, {4, 0, 4, 1}};
        for (int i = 0; i < all.length; i++) {
            for (int what = 0; what < 4; what++) {
                due("piece " + i + ", " + what, x.piece(3, i, what), all[i][what]);
            }
        }
        for (int i : new int[] {-1, 4, LEAST, GREATEST}) {
            due("piece " + i, x.piece(3, i, 0), RopeShelf.NONE);
            due("piece: OUTSIDE comes ahead of NONE", x.piece(3, i, 4), RopeShelf.OUTSIDE);
        }
        for (int what : new int[] {-1, 4, LEAST, GREATEST}) {
            due("piece what " + what, x.piece(3, 0, what), RopeShelf.OUTSIDE);
        }
        for (int slot : NO_SLOTS) {
            due("piece of slot " + slot, x.piece(slot, 0, -1), RopeShelf.UNKNOWN);
        }
        due("the piece without signs", x.piece(7, 0, 2), 0);
        due("no second one", x.piece(7, 1, 0), RopeShelf.NONE);
    }

    private static void alike() {
        RopeShelf x = new RopeShelf();
        lay(x, 0, 5, 5, 6, 5, 5, 6, 7);
        lay(x, 1, 5, 6, 7);
        lay(x, 2, 5, 5, 6);
        lay(x, 3, 5, 5, 6);
        lay(x, 4, 5, 7);
        dueAlike("later on", x, 0, 1, 0, 0, 1, 4, 1);
        dueAlike("the longer one within", x, 1, 0, 0, 0, 1, RopeShelf.NONE, 0);
        dueAlike("the first ones", x, 0, 2, 0, 0, 3, 0, 0);
        dueAlike("shorter", x, 2, 0, 0, 0, 3, RopeShelf.NONE, 1);
        dueAlike("the same text", x, 2, 3, 1, 0, 3, 0, 0);
        dueAlike("the same slot", x, 2, 2, 1, 1, 3, 0, 0);
        dueAlike("less, though longer", x, 0, 4, 0, 0, 1, RopeShelf.NONE, 1);
        dueAlike("greater, though shorter", x, 4, 0, 0, 0, 1, RopeShelf.NONE, 0);
        dueAlike("the second one without signs", x, 0, 7, 0, 0, 0, 0, 0);
        dueAlike("the first one without signs", x, 7, 0, 0, 0, 0, RopeShelf.NONE, 1);
        dueAlike("both without signs", x, 6, 7, 1, 0, 0, 0, 0);
        for (int what : new int[] {-1, 5, LEAST, GREATEST}) {
            due("alike what " + what, x.alike(0, 1, what), RopeShelf.OUTSIDE);
        }
        for (int slot : NO_SLOTS) {
            due("alike one " + slot, x.alike(slot, 0, -1), RopeShelf.UNKNOWN);
            due("alike other " + slot, x.alike(0, slot, 0), RopeShelf.UNKNOWN);
        }
    }

    private static void intern() {
        RopeShelf x = new RopeShelf();
        for (int i = 0; i < 24; i++) {
            lay(x, 0, 100 + i);
            due("intern a new one", x.intern(0), i);
        }
        lay(x, 0, 5);
        due("intern one more than 24", x.intern(0), RopeShelf.FULL);
        due("intern: refused, none came", x.count(3), 24);
        lay(x, 1, 103);
        due("intern one that is there, though full", x.intern(1), 3);
        lay(x, 2, 103);
        due("intern: before", x.alike(1, 2, 1), 0);
        due("intern again", x.intern(2), 3);
        due("intern: the cell of the entry", x.alike(1, 2, 1), 1);
        due("intern an entry's own cell", x.intern(2), 3);
        for (int slot : NO_SLOTS) {
            due("intern slot " + slot, x.intern(slot), RopeShelf.UNKNOWN);
        }
        due("intern: swept", x.sweep(), 23);
        due("intern: numbers do not come again", x.intern(0), 24);
        ropesAreInterned();
    }

    private static void ropesAreInterned() {
        RopeShelf x = new RopeShelf();
        layRow(x, 0, 1, 9);
        due("intern a leaf", x.intern(0), 0);
        layRow(x, 1, 1, 4);
        layRow(x, 2, 5, 5);
        x.join(3, 1, 2);
        due("a rope of the same text", x.told(3, 1), 1);
        due("intern a rope", x.intern(3), 0);
        due("intern a rope: the leaf now", x.told(3, 1), 0);
        x.join(4, 2, 1);
        due("a rope that is new", x.intern(4), 1);
        due("stays a rope", x.told(4, 1), 1);
        x.flat(4);
        layRow(x, 5, 5, 5);
        x.join(5, 5, 1);
        x.intern(5);
        due("an entry that became flat", x.told(5, 1), 0);
    }

    private static void sweep() {
        RopeShelf x = new RopeShelf();
        x.rule(0, 0);
        due("sweep none", x.sweep(), 0);
        layRow(x, 0, 1, 8);
        layRow(x, 1, 11, 8);
        layRow(x, 2, 21, 8);
        for (int i = 0; i < 3; i++) {
            due("sweep: intern", x.intern(i), i);
        }
        x.join(3, 0, 0);
        x.cut(4, 1, 1, 4);
        x.image(0);
        lay(x, 0);
        lay(x, 1);
        lay(x, 2);
        due("held by a join, by a slice; not by an image", x.sweep(), 1);
        due("sweep: the first stays", x.entry(0, 0), 0);
        due("sweep: the second stays", x.entry(1, 0), 1);
        due("sweep: no third", x.entry(2, 0), RopeShelf.NONE);
        x.flat(4);
        due("a flat slice lets its base go", x.sweep(), 1);
        due("sweep: again", x.sweep(), 0);
        x.restore(0);
        due("sweep: the cell is back, the entry is not", x.count(2), 1);
        due("sweep: a new number", x.intern(2), 3);
        due("sweep: i-th that is there", x.entry(1, 0), 3);
    }

    private static void entry() {
        RopeShelf x = new RopeShelf();
        due("entry of none", x.entry(0, 0), RopeShelf.NONE);
        lay(x, 0, 1, 2, 3);
        x.intern(0);
        x.copy(1, 0);
        x.copy(2, 0);
        x.rule(0, 0);
        x.join(3, 0, 0);
        due("entry number", x.entry(0, 0), 0);
        due("entry signs", x.entry(0, 1), 3);
        due("entry slots: those that hold it themselves", x.entry(0, 2), 3);
        lay(x, 0);
        lay(x, 1);
        lay(x, 2);
        due("entry slots: none", x.entry(0, 2), 0);
        for (int i : new int[] {-1, 1, LEAST, GREATEST}) {
            due("entry " + i, x.entry(i, 0), RopeShelf.NONE);
            due("entry: OUTSIDE comes ahead of NONE", x.entry(i, 3), RopeShelf.OUTSIDE);
        }
        for (int what : new int[] {-1, 3, LEAST, GREATEST}) {
            due("entry what " + what, x.entry(0, what), RopeShelf.OUTSIDE);
        }
    }

    private static void count() {
        RopeShelf x = new RopeShelf();
        x.rule(0, 0);
        layRow(x, 0, 254, 4);
        x.cut(1, 0, 0, 2);
        x.cut(2, 0, 2, 2);
        x.join(3, 1, 2);
        for (int slot = 4; slot < 8; slot++) {
            x.copy(slot, 3);
        }
        due("count cells", x.count(0), 4);
        due("count room", x.count(1), 32 + 28 + 28 + 24);
        lay(x, 0);
        due("count: the base is held by slices", x.count(0), 5);
        due("count: their room", x.count(1), 32 + 28 + 28 + 24 + 24);
        x.intern(3);
        x.intern(0);
        due("count entries", x.count(2), 2);
        lay(x, 0, 6);
        due("count: an entry nobody holds", x.count(0), 5);
        x.sweep();
        due("count entries, swept", x.count(2), 1);
        due("count entries ever", x.count(3), 2);
        x.say(4);
        due("count draft", x.count(4), 1);
        x.image(1);
        due("count the second image", x.count(5), 2);
        x.image(0);
        due("count both images", x.count(5), 3);
        due("count rule 0", x.count(10), 0);
        for (int what : new int[] {-1, 6, 7, 8, 9, 13, LEAST, LEAST + 9, LEAST + 10, GREATEST}) {
            due("count what " + what, x.count(what), RopeShelf.OUTSIDE);
        }
    }

    private static void image() {
        RopeShelf x = new RopeShelf();
        for (int k : new int[] {-1, 2, 32, LEAST, GREATEST}) {
            due("image " + k, x.image(k), RopeShelf.OUTSIDE);
        }
        due("image: none kept", x.count(5), 0);
        lay(x, 0, 1);
        due("image 0", x.image(0), 1);
        due("image: the first", x.count(5), 1);
        lay(x, 0, 2);
        due("image 1", x.image(1), 1);
        lay(x, 0, 3);
        due("image 0 again", x.image(0), 1);
        lay(x, 0, 4);
        x.restore(0);
        dueText("image 0 in place of what was kept", x, 0, 3);
        x.restore(1);
        dueText("image 1", x, 0, 2);
        due("image: not held by it", x.count(0), 8);
    }

    private static void restore() {
        RopeShelf x = new RopeShelf();
        for (int k : new int[] {-1, 2, 32, LEAST, GREATEST}) {
            due("restore " + k, x.restore(k), RopeShelf.OUTSIDE);
        }
        due("restore: nothing kept", x.restore(1), RopeShelf.STATE);
        x.rule(0, 0);
        layRow(x, 0, 1, 2);
        layRow(x, 1, 3, 2);
        x.join(2, 0, 1);
        x.copy(3, 2);
        x.image(0);
        due("restore: nothing kept in the other", x.restore(1), RopeShelf.STATE);
        x.flat(2);
        lay(x, 2, 9);
        lay(x, 3, 9);
        x.intern(3);
        x.rule(1, 2);
        x.say(8);
        due("restore", x.restore(0), 1);
        dueText("restore", x, 2, 1, 2, 3, 4);
        due("restore: what became flat is flat", x.told(2, 1), 0);
        due("restore: the same cell again", x.alike(2, 3, 1), 1);
        due("restore: rules stay", x.count(11), 2);
        due("restore: draft stays", x.count(4), 1);
        due("restore: table stays", x.count(2), 1);
        x.put(2);
        due("restore: the image stays", x.count(5), 1);
        due("restore again", x.restore(0), 1);
        dueText("restore again", x, 2, 1, 2, 3, 4);
    }
}

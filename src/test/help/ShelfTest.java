/** What the tests share: answers that are due, texts that are laid, wrong numbers. */
abstract class ShelfTest {
    static final int UNKNOWN = RopeShelf.UNKNOWN, OUTSIDE = RopeShelf.OUTSIDE, STATE = RopeShelf.STATE,
            FULL = RopeShelf.FULL, NONE = RopeShelf.NONE;
    static final int LEAST = Integer.MIN_VALUE, GREATEST = Integer.MAX_VALUE;
    static final int[] NO_SLOTS = {-1, 8, LEAST, GREATEST};
    static final int SMALL = 0, DEEP = 1, LOOSE = 2;

    private static int wrong = 0;
    private static int sentences = 0;
    private static String sentence = "";

    /** The document's words that the answers from here on are due by. */
    static void sentence(String words) {
        sentences++;
        sentence = words;
    }

    static void due(String what, int got, int want) {
        if (got != want) {
            wrong++;
            String by = sentence.isEmpty() ? "" : "  [" + sentence + "]";
            System.out.println(what + " answered " + got + ", due is " + want + by);
        }
    }

    /** Ends the test, with exit code 1 if an answer was not the one that was due. */
    static void end(String kept) {
        String of = sentences == 0 ? "" : " (" + sentences + " sentences)";
        System.out.println(wrong == 0 ? kept + of : wrong + " answers are not as due");
        if (wrong != 0) {
            System.exit(1);
        }
    }

    /** Puts a leaf with these signs into a slot. */
    static void lay(RopeShelf x, int slot, int... signs) {
        for (int sign : signs) {
            x.say(sign);
        }
        due("put of " + signs.length, x.put(slot), signs.length);
    }

    /** Puts a leaf with the signs first, first + 1, .. into a slot. */
    static void layRow(RopeShelf x, int slot, int first, int many) {
        int[] signs = new int[many];
        for (int i = 0; i < many; i++) {
            signs[i] = first + i;
        }
        lay(x, slot, signs);
    }

    /** 120 signs, thrice the signs 1 to 40, into a slot: three pieces if SMALL lets them be. 44 calls. */
    static void layMost(RopeShelf x, int slot, int helper) {
        layRow(x, helper, 1, 40);
        x.join(slot, helper, helper);
        due("the longest text", x.join(slot, slot, helper), 120);
    }

    /** 24 entries, of the texts first, first + 1, ..; the slot holds the last one's cell. 72 calls. */
    static void fillTable(RopeShelf x, int slot, int first) {
        for (int i = 0; i < 24; i++) {
            lay(x, slot, first + i);
            due("intern while there is room", x.intern(slot), i);
        }
    }

    static void dueText(String what, RopeShelf x, int slot, int... signs) {
        due(what + ": how many", x.told(slot, 0), signs.length);
        for (int i = 0; i < signs.length; i++) {
            due(what + ": sign " + i, x.sign(slot, i), signs[i]);
        }
        due(what + ": behind the last", x.sign(slot, signs.length), NONE);
    }

    /** what 0 to 6 of told. */
    static void dueTold(String name, RopeShelf x, int slot, int... all) {
        for (int what = 0; what < all.length; what++) {
            due(name + ": told " + what, x.told(slot, what), all[what]);
        }
    }

    /** what 0 to 3 of piece. */
    static void duePiece(String name, RopeShelf x, int slot, int i, int... all) {
        for (int what = 0; what < all.length; what++) {
            due(name + ": piece " + i + ", " + what, x.piece(slot, i, what), all[what]);
        }
    }

    /** what 0 to 4 of alike. */
    static void dueAlike(String name, RopeShelf x, int one, int other, int... all) {
        for (int what = 0; what < all.length; what++) {
            due(name + ": alike " + what, x.alike(one, other, what), all[what]);
        }
    }

    static void dueSame(String name, RopeShelf x, int one, int other, boolean same) {
        due(name + ": the same cell", x.alike(one, other, 1), same ? 1 : 0);
    }
}

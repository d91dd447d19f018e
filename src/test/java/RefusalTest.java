import java.util.ArrayList;
import java.util.List;

/**
 * "What is refused changes nothing." Every refused call is made on one of two objects that are otherwise used alike;
 * then both tell the same of all that can be told, and of what put and restore bring to light.
 */
public final class RefusalTest extends ShelfTest {
    private interface Making {
        RopeShelf make();
    }

    private interface Call {
        int on(RopeShelf x);
    }

    /** What brings to light what no call tells: nothing, the draft's signs, what the images keep. */
    private static final List<Call> PROBES = List.of(x -> 0, x -> x.put(7), x -> x.restore(0), x -> x.restore(1));

    public static void main(String[] args) {
        sentence("What is refused changes nothing.");
        unknownSlots();
        numbersOutside();
        nothingKept();
        full();
        noneThere();
        end("what is refused changes nothing");
    }

    /** Ropes, slices, two entries, the first image alone, two signs of the draft. Some 50 calls. */
    private static RopeShelf ordinary() {
        RopeShelf x = new RopeShelf();
        x.rule(SMALL, 2);
        x.rule(DEEP, 3);
        x.rule(LOOSE, 5);
        layRow(x, 0, 1, 4);
        layRow(x, 1, 254, 4);
        x.join(2, 0, 1);
        x.cut(3, 1, 1, 2);
        x.join(4, 2, 3);
        x.image(0);
        x.intern(2);
        x.intern(3);
        lay(x, 5, 9999);
        x.say(11);
        x.say(12);
        return x;
    }

    /** A draft of 40, a text of 120, a table of 24, the second image alone. Some 165 calls. */
    private static RopeShelf filled() {
        RopeShelf x = new RopeShelf();
        layMost(x, 1, 0);
        x.image(1);
        fillTable(x, 2, 100);
        lay(x, 3, 9, 9);
        for (int i = 0; i < 40; i++) {
            x.say(1 + i);
        }
        return x;
    }

    private static void unknownSlots() {
        for (int slot : NO_SLOTS) {
            for (Making making : List.<Making>of(RefusalTest::ordinary, RefusalTest::filled)) {
                dueNothing("put", making, x -> x.put(slot), UNKNOWN);
                dueNothing("copy to", making, x -> x.copy(slot, 1), UNKNOWN);
                dueNothing("copy from", making, x -> x.copy(1, slot), UNKNOWN);
                dueNothing("join to", making, x -> x.join(slot, 0, 1), UNKNOWN);
                dueNothing("join a", making, x -> x.join(5, slot, 1), UNKNOWN);
                dueNothing("join b", making, x -> x.join(5, 0, slot), UNKNOWN);
                dueNothing("cut to", making, x -> x.cut(slot, 1, 1, 2), UNKNOWN);
                dueNothing("cut from", making, x -> x.cut(1, slot, 0, 0), UNKNOWN);
                dueNothing("flat", making, x -> x.flat(slot), UNKNOWN);
                dueNothing("sign", making, x -> x.sign(slot, 0), UNKNOWN);
                dueNothing("hash", making, x -> x.hash(slot), 0);
                dueNothing("told", making, x -> x.told(slot, 0), UNKNOWN);
                dueNothing("piece", making, x -> x.piece(slot, 0, 0), UNKNOWN);
                dueNothing("alike one", making, x -> x.alike(slot, 0, 0), UNKNOWN);
                dueNothing("alike other", making, x -> x.alike(0, slot, 0), UNKNOWN);
                dueNothing("intern", making, x -> x.intern(slot), UNKNOWN);
            }
        }
    }

    private static void numbersOutside() {
        for (int no : new int[] {-1, 33, LEAST, GREATEST}) {
            dueNothing("rule what", RefusalTest::ordinary, x -> x.rule(no, 1), OUTSIDE);
            for (int what = 0; what < 3; what++) {
                int rule = what;
                dueNothing("rule n", RefusalTest::ordinary, x -> x.rule(rule, no), OUTSIDE);
            }
            dueNothing("cut f", RefusalTest::ordinary, x -> x.cut(0, 2, no, 1), OUTSIDE);
            dueNothing("cut n", RefusalTest::ordinary, x -> x.cut(0, 2, 1, no), OUTSIDE);
            dueNothing("told what", RefusalTest::ordinary, x -> x.told(2, no), OUTSIDE);
            dueNothing("piece what", RefusalTest::ordinary, x -> x.piece(2, 0, no), OUTSIDE);
            dueNothing("alike what", RefusalTest::ordinary, x -> x.alike(0, 1, no), OUTSIDE);
            dueNothing("entry what", RefusalTest::ordinary, x -> x.entry(0, no), OUTSIDE);
            dueNothing("count what", RefusalTest::ordinary, x -> x.count(no), OUTSIDE);
            dueNothing("image", RefusalTest::ordinary, x -> x.image(no), OUTSIDE);
            dueNothing("restore", RefusalTest::ordinary, x -> x.restore(no), OUTSIDE);
        }
        for (int no : new int[] {0, -1, 10000, LEAST, GREATEST}) {
            dueNothing("say", RefusalTest::ordinary, x -> x.say(no), OUTSIDE);
            dueNothing("say, full", RefusalTest::filled, x -> x.say(no), OUTSIDE);
        }
        dueNothing("cut one too many", RefusalTest::ordinary, x -> x.cut(2, 2, 1, 8), OUTSIDE);
        dueNothing("image 2", RefusalTest::ordinary, x -> x.image(2), OUTSIDE);
        dueNothing("restore 2", RefusalTest::ordinary, x -> x.restore(2), OUTSIDE);
    }

    private static void nothingKept() {
        dueNothing("restore 1", RefusalTest::ordinary, x -> x.restore(1), STATE);
        dueNothing("restore 0", RefusalTest::filled, x -> x.restore(0), STATE);
    }

    private static void full() {
        dueNothing("say", RefusalTest::filled, x -> x.say(5), FULL);
        dueNothing("join a, b", RefusalTest::filled, x -> x.join(4, 1, 3), FULL);
        dueNothing("join into a", RefusalTest::filled, x -> x.join(1, 1, 3), FULL);
        dueNothing("join into b", RefusalTest::filled, x -> x.join(3, 1, 3), FULL);
        dueNothing("join all one", RefusalTest::filled, x -> x.join(1, 1, 1), FULL);
        dueNothing("intern", RefusalTest::filled, x -> x.intern(3), FULL);
        dueNothing("intern a rope", RefusalTest::filled, x -> x.intern(1), FULL);
    }

    /** NONE is no refusal, but it changes nothing either. */
    private static void noneThere() {
        for (int no : new int[] {-1, 120, LEAST, GREATEST}) {
            dueNothing("sign", RefusalTest::ordinary, x -> x.sign(2, no), NONE);
            dueNothing("piece", RefusalTest::ordinary, x -> x.piece(2, no, 3), NONE);
            dueNothing("entry", RefusalTest::ordinary, x -> x.entry(no, 2), NONE);
        }
        dueNothing("alike", RefusalTest::ordinary, x -> x.alike(0, 1, 3), NONE);
    }

    private static void dueNothing(String name, Making making, Call refused, int answer) {
        for (int probe = 0; probe < PROBES.size(); probe++) {
            RopeShelf without = making.make();
            RopeShelf with = making.make();
            due(name, refused.on(with), answer);
            due(name + ", then probe " + probe, PROBES.get(probe).on(with), PROBES.get(probe).on(without));
            dueLikeStates(name + ", then probe " + probe, state(with), state(without));
        }
    }

    private static void dueLikeStates(String name, List<Integer> got, List<Integer> want) {
        due(name + ": how much is told", got.size(), want.size());
        for (int i = 0; i < got.size() && i < want.size(); i++) {
            due(name + ": state " + i, got.get(i), want.get(i));
        }
    }

    /** All that can be told without a change. Some 250 calls: with those before them they stay below 512. */
    private static List<Integer> state(RopeShelf x) {
        List<Integer> all = new ArrayList<>();
        for (int slot = 0; slot < 8; slot++) {
            for (int what = 0; what < 7; what++) {
                all.add(x.told(slot, what));
            }
            all.add(x.hash(slot));
            int pieces = all.get(all.size() - 5);
            for (int i = 0; i < pieces; i++) {
                for (int what = 0; what < 4; what++) {
                    all.add(x.piece(slot, i, what));
                }
            }
            for (int other = 0; other < slot; other++) {
                all.add(x.alike(slot, other, 1));
            }
        }
        for (int what = 0; what < 13; what++) {
            all.add(x.count(what));
        }
        for (int i = 0; i < 25; i++) {
            all.add(x.entry(i, 0));
            all.add(x.entry(i, 2));
        }
        return all;
    }
}

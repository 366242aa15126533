/** Promises 36 to 38: SLOTS that hold and give back, and all that is counted. */
public final class KeptTest {
    private static final Check check = new Check();
    private static final String CHAIN =
        "post r; post a; post b; link r a 1; link a b 1; goal costs; first 2; twice 2; enough 9; rise 30; rest 3;";

    public static void main(String[] args) {
        slots();
        held();
        counts();
        emptyOnes();
        check.finish("KeptTest");
    }

    private static void slots() {
        SensorTree tree = Check.of(CHAIN);
        int[] bad = {-1, 3, Integer.MIN_VALUE, Integer.MAX_VALUE};
        for (int slot : bad) {
            check.due("hold(" + slot + ")", tree.hold(slot), false);
            check.due("restore(" + slot + ")", tree.restore(slot), false);
        }
        for (int slot = 0; slot < 3; slot++) {
            check.due("restore(" + slot + ") of nothing", tree.restore(slot), false);
            check.due("hold(" + slot + ")", tree.hold(slot), true);
            check.due("count(11)", tree.count(11), slot + 1);
        }
        check.due("hold(1) again", tree.hold(1), true);
        check.due("count(11)", tree.count(11), 3);
        check.due("count(9): holding is no thing done", tree.count(9), 0);
    }

    private static void held() {
        SensorTree tree = Check.of(CHAIN);
        tree.ticks(31);
        tree.join(1, false);
        tree.hold(2);
        int[] was = new int[18];
        for (int what = 0; what < was.length; what++) {
            was[what] = tree.count(what);
        }
        tree.ticks(7);
        tree.join(1, true);
        tree.cost(0, 3);
        tree.power(2, false);
        tree.repair();
        tree.feed(1, 2, 3, 4, 5);
        check.due("restore(2)", tree.restore(2), true);
        check.due("the tape stays", tree.count(8), 20);
        check.due("nothing can be undone", tree.count(9), 0);
        check.due("undo()", tree.undo(), false);
        for (int what = 0; what < was.length; what++) {
            if (what != 8 && what != 9 && what != 11) {
                check.due("count(" + what + ") as it was", tree.count(what), was[what]);
            }
        }
        check.due("link(1, 3)", tree.link(1, 3), 0);
        check.due("link(0, 2)", tree.link(0, 2), 1);
        check.due("post(0, 1)", tree.post(0, 1), 0);
        check.due("post(2, 0)", tree.post(2, 0), 1);
        tree.ticks(5);
        check.due("it stays there", tree.restore(2), true);
        check.due("count(2)", tree.count(2), 31);
        // what goes on from it does so as it would have
        SensorTree other = Check.of(CHAIN);
        other.ticks(31);
        other.join(1, false);
        other.ticks(20);
        tree.ticks(20);
        for (int what = 0; what <= 10; what++) {
            check.due("post(1, " + what + ") gone on from", tree.post(1, what), other.post(1, what));
        }
        tree.back(20);
        check.due("a text", Check.read(tree, "post r;"), 0);
        check.due("restore(2) behind a text", tree.restore(2), false);
        check.due("count(11) behind a text", tree.count(11), 0);
    }

    private static void counts() {
        SensorTree tree = Check.of(CHAIN);
        check.due("count(-1)", tree.count(-1), -1);
        check.due("count(18)", tree.count(18), -1);
        check.due("count(least)", tree.count(Integer.MIN_VALUE), -1);
        int[] atFirst = {3, 2, 0, 0, 0, 0, 0, 0, 0, 0, 7, 0, 0, 0, 0, 10, 0, 6};
        for (int what = 0; what < atFirst.length; what++) {
            check.due("count(" + what + ") at first", tree.count(what), atFirst[what]);
        }
        tree.ticks(60);
        check.due("count(2)", tree.count(2), 60);
        check.due("count(7)", tree.count(7), 3);
        check.due("count(9)", tree.count(9), 1);
        check.due("count(15)", tree.count(15), 30);
        check.due("count(17)", tree.count(17), 0);
        // a may not rise so far: POISON
        tree.join(1, false);
        check.due("count(6)", tree.count(6), 1);
        check.due("count(17) of b", tree.count(17), 4);
        check.due("count(15) without b", tree.count(15), 20);
        tree.cost(0, 9);
        check.due("count(12)", tree.count(12), 1);
        check.due("count(16)", tree.count(16), 2);
        check.due("count(17) of a and b", tree.count(17), 6);
        check.due("count(15) of the ROOT", tree.count(15), 10);
        tree.power(1, false);
        check.due("count(10)", tree.count(10), 5);
        check.due("count(16) of one that is off", tree.count(16), 2);
        check.due("count(17) of b alone", tree.count(17), 4);
        tree.ticks(1);
        // the GONES of b to a and of a and b to r: their ways are no more
        check.due("count(13)", tree.count(13), 3);
        tree.feed(0, 0, 0, 0, 0);
        check.due("count(8)", tree.count(8), 20);
    }

    private static void emptyOnes() {
        SensorTree tree = new SensorTree();
        check.due("hold(0) of none", tree.hold(0), true);
        tree.ticks(5);
        check.due("restore(0) of none", tree.restore(0), true);
        check.due("count(2)", tree.count(2), 0);
        check.due("count(9)", tree.count(9), 0);
    }
}

import java.nio.charset.StandardCharsets;

/** What the tests share: rows that are due, and texts put on the tape. */
final class Check {
    private int wrong = 0;
    private int rows = 0;

    void due(String call, long got, long want) {
        rows++;
        if (got != want) {
            wrong++;
            if (wrong <= 40) {
                System.out.println(call + " answered " + got + ", due is " + want);
            }
        }
    }

    void due(String call, boolean got, boolean want) {
        due(call, got ? 1 : 0, want ? 1 : 0);
    }

    int wrong() {
        return wrong;
    }

    void finish(String name) {
        System.out.println(name + ": " + rows + " rows, " + wrong + " wrong");
        if (wrong != 0) {
            System.exit(1);
        }
    }

    /** Puts a text of any length on the tape: twenty bytes at a time, what is too much taken back. */
    static void type(SensorTree tree, String text) {
        type(tree, text.getBytes(StandardCharsets.ISO_8859_1));
    }

    static void type(SensorTree tree, byte[] text) {
        for (int at = 0; at < text.length; at += 20) {
            int[] five = new int[5];
            for (int i = 0; i < 20; i++) {
                int b = at + i < text.length ? text[at + i] & 255 : 32;
                five[i / 4] = five[i / 4] << 8 | b;
            }
            if (tree.feed(five[0], five[1], five[2], five[3], five[4]) == SensorTree.NONE) {
                throw new IllegalStateException("the tape is full");
            }
            if (at + 20 > text.length) {
                tree.back(at + 20 - text.length);
            }
        }
    }

    static int read(SensorTree tree, String text) {
        type(tree, text);
        return tree.read();
    }

    static SensorTree of(String text) {
        SensorTree tree = new SensorTree();
        int fault = read(tree, text);
        if (fault != 0) {
            throw new IllegalStateException("fault " + fault + " at " + tree.place() + " of " + text);
        }
        return tree;
    }
}

/** Promises 1 to 5: a new object, the tape, what a text may tell and which FAULT it has, where. */
public final class TextTest {
    private static final Check check = new Check();

    public static void main(String[] args) {
        newObject();
        feedAndBack();
        bytesInOrder();
        syntax();
        room();
        twiceNameWrong();
        firstFamilyFirst();
        faultChangesNothing();
        goodTextBeginsAll();
        settings();
        check.finish("TextTest");
    }

    private static void fault(String text, int number, int place) {
        SensorTree tree = new SensorTree();
        String shown = text.length() > 60 ? text.substring(0, 60) + ".." : text;
        check.due("read() of '" + shown + "'", Check.read(tree, text), number);
        check.due("place() of '" + shown + "'", tree.place(), place);
        check.due("the tape behind it", tree.count(8), 0);
    }

    private static void newObject() {
        SensorTree tree = new SensorTree();
        check.due("place() of a new one", tree.place(), -1);
        for (int what = 0; what <= 17; what++) {
            check.due("count(" + what + ") of a new one", tree.count(what), 0);
        }
        check.due("right() of a new one", tree.right(), 1);
        check.due("post(0, 0) of a new one", tree.post(0, 0), -1);
        check.due("link(0, 0) of a new one", tree.link(0, 0), -1);
        check.due("undo() of a new one", tree.undo(), false);
        check.due("NONE", SensorTree.NONE, -1);
    }

    private static void feedAndBack() {
        SensorTree tree = new SensorTree();
        check.due("back(0) of an empty tape", tree.back(0), 0);
        check.due("back(1) of an empty tape", tree.back(1), -1);
        for (int i = 1; i <= 100; i++) {
            check.due("feed " + i, tree.feed(i, 0, -1, Integer.MIN_VALUE, 7), 20 * i);
        }
        check.due("feed 101", tree.feed(1, 2, 3, 4, 5), -1);
        check.due("the tape", tree.count(8), 2000);
        check.due("back(-1)", tree.back(-1), -1);
        check.due("back(2001)", tree.back(2001), -1);
        check.due("back(least)", tree.back(Integer.MIN_VALUE), -1);
        check.due("back(most)", tree.back(Integer.MAX_VALUE), -1);
        check.due("back(1)", tree.back(1), 1999);
        check.due("feed to 2019", tree.feed(1, 2, 3, 4, 5), -1);
        check.due("back(19)", tree.back(19), 1980);
        check.due("feed to 2000", tree.feed(1, 2, 3, 4, 5), 2000);
        check.due("back(2000)", tree.back(2000), 0);
        check.due("read() of what is left", tree.read(), 0);
    }

    private static void bytesInOrder() {
        SensorTree tree = new SensorTree();
        // "post" "   r" ";pos" "t a;" "    "
        check.due("feed", tree.feed(0x706f7374, 0x20202072, 0x3b706f73, 0x7420613b, 0x20202020), 20);
        check.due("read()", tree.read(), 0);
        check.due("count(0)", tree.count(0), 2);
        String most = "post r;" + " ".repeat(1992) + "x";
        fault(most, 1, 1999);
        fault("post r;" + "\t\n\r ".repeat(498), 0, -1);
    }

    private static void syntax() {
        fault("", 0, -1);
        fault("  \t\r\n", 0, -1);
        fault(";", 1, 0);
        fault(" r", 1, 1);
        fault("7;", 1, 0);
        fault("hops;", 1, 0);
        fault("post", 1, 4);
        fault("post  ", 1, 6);
        fault("post r", 1, 6);
        fault("post r r;", 1, 7);
        fault("post post;", 1, 5);
        fault("post seed;", 1, 5);
        fault("post costs;", 1, 5);
        fault("post 5;", 1, 5);
        fault("post;", 1, 4);
        fault("posts r;", 1, 0);
        fault("postr;", 1, 0);
        fault("post posts;", 0, -1);
        fault("post abcdefgh;", 0, -1);
        fault("post abcdefghi;", 1, 5);
        fault("post r1;", 1, 6);
        fault("post R;", 1, 5);
        fault("post r,", 1, 6);
        fault("post r" + (char) 233 + ";", 1, 6);
        fault("post r" + (char) 0 + ";", 1, 6);
        fault("post r" + (char) 11 + ";", 1, 6);
        fault("seed1;", 0, -1);
        fault("seed 0001;", 0, -1);
        fault("seed 9999;", 0, -1);
        fault("seed 00001;", 1, 5);
        fault("seed 12 34;", 1, 8);
        fault("seed -1;", 1, 5);
        fault("seed x;", 1, 5);
        fault("goal hops;goal\tcosts\n;", 0, -1);
        fault("goal;", 1, 4);
        fault("goal seed;", 1, 5);
        fault("goal 1;", 1, 5);
        fault("goal r;", 1, 5);
        fault("post a;post b;link a b 1", 1, 24);
        fault("post a;post b;link a b;", 1, 22);
        fault("post a;post b;link a 1;", 1, 21);
        fault("post a;post b;linkab1;", 1, 14);
        fault("post a;post b;link ab 1;", 1, 22);
        fault("post a;post b;link a b1;", 0, -1);
    }

    private static String posts(int n) {
        StringBuilder text = new StringBuilder();
        for (int i = 0; i < n; i++) {
            text.append("post ").append((char) ('a' + i)).append(';');
        }
        return text.toString();
    }

    private static String links(int n) {
        StringBuilder text = new StringBuilder(posts(7));
        int told = 0;
        for (int a = 0; a < 7; a++) {
            for (int b = a + 1; b < 7 && told < n; b++) {
                text.append("link ").append((char) ('a' + a)).append(' ').append((char) ('a' + b)).append(" 1;");
                told++;
            }
        }
        return text.toString();
    }

    private static void room() {
        fault(posts(7), 0, -1);
        fault(posts(8), 2, 49);
        fault(posts(7) + "post 1", 2, 49);
        fault(posts(7) + "seed 1;seed;post h;", 1, 60);
        fault(links(16), 0, -1);
        fault(links(17), 2, 49 + 16 * 11);
        fault(links(16) + "link", 2, 49 + 16 * 11);
        // 133 TELLS of three TOKENS are 399; "goal" is the 400th, what follows the 401st
        String many = "rest1;".repeat(133);
        fault(many, 0, -1);
        fault(many + "goal", 1, 802);
        fault(many + "goal hops", 2, 803);
        fault(many + "goal goal", 1, 803);
        fault(many + "goal !", 1, 803);
        fault(many + "rest 1;", 2, 803);
        fault("rest1;".repeat(333), 2, 802);
        // 11 TOKENS and 387 and 2: the text's end is no TOKEN, the sign is the 401st
        fault("post a;post b;link a b 1;" + "rest1;".repeat(129) + "rest 1", 1, 25 + 129 * 6 + 6);
        fault("post a;post b;link a b 1;" + "rest1;".repeat(129) + "rest 1;", 2, 25 + 129 * 6 + 6);
        // 19 TOKENS and 381 are 400
        fault("post a;post b;link a b 1;post c;link a c 1;" + "rest1;".repeat(127), 0, -1);
        fault("post a;post b;link a b 1;post c;link a c 1;" + "rest1;".repeat(128), 2, 43 + 127 * 6);
    }

    private static void twiceNameWrong() {
        fault("post a;post a;", 3, 12);
        fault("post a;link a a 1;", 3, 14);
        fault("post a;post b;link a b 1;link a b 2;", 3, 32);
        fault("post a;post b;link a b 1;link b a 2;", 3, 32);
        fault("post a;link a b 1;post b;", 4, 14);
        fault("post a;link b a 1;post b;", 4, 12);
        fault("post a;link b b 1;", 4, 12);
        fault("post a;post b;link a b 0;", 5, 23);
        fault("post a;post b;link a b 9;", 0, -1);
        fault("post a;post b;link a b 10;", 5, 23);
        fault("post a;post b;link a b 99;post a;", 5, 23);
        fault("seed 1;first 1;", 5, 13);
        String[] words = {"first", "twice", "enough", "apart", "rise", "rest", "fresh", "noise", "seed"};
        int[] least = {2, 0, 1, 0, 0, 1, 2, 0, 0};
        int[] most = {8, 4, 9, 99, 999, 20, 60, 100, 9999};
        for (int i = 0; i < words.length; i++) {
            int at = words[i].length() + 1;
            fault(words[i] + " " + least[i] + ";", 0, -1);
            fault(words[i] + " " + most[i] + ";", 0, -1);
            if (least[i] > 0) {
                fault(words[i] + " " + (least[i] - 1) + ";", 5, at);
            }
            if (most[i] < 9999) {
                fault(words[i] + " " + (most[i] + 1) + ";" + words[i] + " " + most[i] + ";", 5, at);
            }
        }
    }

    private static void firstFamilyFirst() {
        fault("first 1;post a;post a;link x y 0;!", 1, 33);
        fault("first 1;post a;post a;link x y 0;", 5, 6);
        fault("first 1;" + posts(8), 2, 57);
        fault("post a;post a", 1, 13);
    }

    private static void faultChangesNothing() {
        SensorTree tree = Check.of("post r; post a; link r a 3; first 2; twice 0;");
        tree.ticks(5);
        tree.hold(1);
        check.due("a FAULT", Check.read(tree, "post q; post q;"), 3);
        check.due("place()", tree.place(), 13);
        check.due("count(0)", tree.count(0), 2);
        check.due("count(1)", tree.count(1), 1);
        check.due("count(2)", tree.count(2), 5);
        check.due("count(9)", tree.count(9), 1);
        check.due("count(11)", tree.count(11), 1);
        check.due("post(1, 2)", tree.post(1, 2), 20);
        check.due("link(0, 2)", tree.link(0, 2), 3);
        check.due("restore(1)", tree.restore(1), true);
        check.due("place() still", tree.place(), 13);
        check.due("read() of nothing", tree.read(), 0);
        check.due("place() then", tree.place(), -1);
        check.due("count(0) then", tree.count(0), 0);
    }

    private static void goodTextBeginsAll() {
        SensorTree tree = Check.of("post r; post a; post b; link r a 3; link a b 2; first 2; noise 50;");
        tree.ticks(50);
        tree.join(0, false);
        tree.power(2, false);
        tree.hold(0);
        check.due("a text", Check.read(tree, "post r; post a; link a r 2;"), 0);
        int[] due = {2, 1, 0, 0, 0, 0, 0, 0, 0, 0, 3, 0, 0, 0, 0, 10, 0, 2};
        for (int what = 0; what < due.length; what++) {
            check.due("count(" + what + ") behind a text", tree.count(what), due[what]);
        }
        check.due("undo()", tree.undo(), false);
        check.due("restore(0)", tree.restore(0), false);
        check.due("link(0, 0)", tree.link(0, 0), 1);
        check.due("link(0, 1)", tree.link(0, 1), 0);
        check.due("link(0, 3)", tree.link(0, 3), 1);
        check.due("post(1, 6)", tree.post(1, 6), 0);
        check.due("post(2, 0)", tree.post(2, 0), -1);
    }

    private static void settings() {
        check.due("FIRST untold", Check.of("post r;").post(0, 7), 4);
        check.due("FIRST 3", Check.of("post r;first 3;").post(0, 7), 2);
        check.due("FIRST 7", Check.of("post r;first 7;").post(0, 7), 6);
        check.due("FIRST 8", Check.of("first 2;post r;first 8;").post(0, 7), 8);
        String two = "post r;post a;link r a 7;";
        check.due("GOAL untold", Check.of(two).link(0, 4), 10);
        check.due("GOAL costs", Check.of(two + "goal costs;").link(0, 4), 70);
        check.due("GOAL, the last one", Check.of(two + "goal costs;goal hops;").link(0, 4), 10);
        SensorTree twice = Check.of("post r;first 2;");
        twice.ticks(200);
        check.due("LONG with TWICE untold", twice.post(0, 7), 16);
        SensorTree none = Check.of("post r;first 2;twice 4;twice 0;");
        none.ticks(200);
        check.due("LONG with TWICE 0, the last one", none.post(0, 7), 2);
    }
}

/** Promises 13 to 22: what each POST knows, ROUTES, LINKS, TRUE RANKS, RIGHT, circles, who is below whom. */
public final class StandsTest {
    private static final Check check = new Check();
    private static final int NEVER = 9999;
    private static final String CHAIN =
        "post r; post a; post b; link r a 2; link b a 3; goal costs; first 2; twice 0; enough 9; rise 999;";

    public static void main(String[] args) {
        wrongOnes();
        rows();
        neighbours();
        truth();
        right();
        circleBelowWay();
        seven();
        check.finish("StandsTest");
    }

    private static void wrongOnes() {
        SensorTree tree = Check.of(CHAIN);
        int[] bad = {-1, 3, Integer.MIN_VALUE, Integer.MAX_VALUE};
        for (int n : bad) {
            check.due("post(" + n + ", 0)", tree.post(n, 0), -1);
            check.due("heard(" + n + ", 0)", tree.heard(n, 0), -1);
            check.due("heard(0, " + n + ")", tree.heard(0, n), -1);
            check.due("route(" + n + ", 0, 0)", tree.route(n, 0, 0), -1);
            check.due("route(0, " + n + ", 0)", tree.route(0, n, 0), -1);
            check.due("link(" + n + ", 0)", tree.link(n, 0), -1);
            check.due("neighbours(" + n + ")", tree.neighbours(n), -1);
            check.due("truth(" + n + ")", tree.truth(n), -1);
            check.due("below(" + n + ")", tree.below(n), -1);
            check.due("way(" + n + ", 0)", tree.way(n, 0), -1);
        }
        int[] whats = {-1, 11, Integer.MIN_VALUE, Integer.MAX_VALUE};
        for (int what : whats) {
            check.due("post(0, " + what + ")", tree.post(0, what), -1);
            check.due("route(0, 1, " + what + ")", tree.route(0, 1, what), -1);
            check.due("link(0, " + what + ")", tree.link(0, what), -1);
            check.due("way(0, " + what + ")", tree.way(0, what), -1);
        }
        check.due("heard(1, 1)", tree.heard(1, 1), -1);
        check.due("route(1, 1, 0)", tree.route(1, 1, 0), -1);
        check.due("route(0, 1, 2)", tree.route(0, 1, 2), -1);
        check.due("link(0, 5)", tree.link(0, 5), -1);
        check.due("link(2, 0)", tree.link(2, 0), -1);
        check.due("way(1, 21)", tree.way(1, 21), -1);
    }

    private static void rows() {
        SensorTree tree = Check.of(CHAIN);
        check.due("route(0, 1, 0) at first", tree.route(0, 1, 0), -2);
        check.due("route(0, 1, 1) at first", tree.route(0, 1, 1), -2);
        check.due("heard(2, 0) at first", tree.heard(2, 0), NEVER);
        tree.ticks(8);
        int[] link1 = {2, 1, 3, 1, 30};
        for (int what = 0; what < link1.length; what++) {
            check.due("link(1, " + what + ")", tree.link(1, what), link1[what]);
        }
        check.due("heard(0, 1)", tree.heard(0, 1), 30);
        check.due("heard(1, 0)", tree.heard(1, 0), 10);
        check.due("heard(2, 1)", tree.heard(2, 1), 30);
        check.due("heard(2, 0), no LINK", tree.heard(2, 0), NEVER);
        check.due("post(2, 2)", tree.post(2, 2), 60);
        check.due("post(2, 3)", tree.post(2, 3), 1);
        check.due("route(0, 2, 0)", tree.route(0, 2, 0), 1);
        check.due("route(1, 2, 0)", tree.route(1, 2, 0), 2);
        check.due("route(1, 2, 1)", tree.route(1, 2, 1), tree.post(2, 6));
        check.due("route(2, 0, 0)", tree.route(2, 0, 0), -2);
        tree.join(1, false);
        check.due("link(1, 3)", tree.link(1, 3), 0);
        check.due("link(1, 4) though it is down", tree.link(1, 4), 30);
    }

    private static void neighbours() {
        SensorTree tree = Check.of(CHAIN);
        check.due("neighbours(0)", tree.neighbours(0), 2);
        check.due("neighbours(1)", tree.neighbours(1), 5);
        check.due("neighbours(2)", tree.neighbours(2), 2);
        tree.join(0, false);
        check.due("neighbours(1), one down", tree.neighbours(1), 4);
        tree.power(1, false);
        check.due("neighbours(1), off", tree.neighbours(1), 0);
        check.due("neighbours(2), it off", tree.neighbours(2), 0);
    }

    private static void truth() {
        SensorTree tree = Check.of("post r;post a;post b;post c;link r a 9;link r b 2;link b a 3;link a c 1;goal costs;");
        int[] due = {10, 60, 30, 70};
        for (int post = 0; post < due.length; post++) {
            check.due("truth(" + post + ")", tree.truth(post), due[post]);
        }
        tree.power(2, false);
        check.due("truth(2), off", tree.truth(2), -1);
        check.due("truth(3), round", tree.truth(3), 110);
        tree.join(0, false);
        check.due("truth(1), cut off", tree.truth(1), NEVER);
        check.due("truth(0)", tree.truth(0), 10);
        SensorTree hops = Check.of("post r;post a;post b;post c;link r a 9;link r b 2;link b a 3;link a c 1;");
        check.due("truth(3) by hops", hops.truth(3), 30);
    }

    private static void right() {
        SensorTree tree = Check.of(CHAIN);
        check.due("right() at first", tree.right(), 0);
        check.due("soon()", tree.soon(), 4);
        tree.ticks(4);
        check.due("right()", tree.right(), 1);
        tree.repair();
        check.due("right() with another VERSION", tree.right(), 0);
        tree.undo();
        tree.cost(0, 3);
        check.due("right() while b's RANK is not a's and STEP", tree.right(), 0);
        tree.undo();
        tree.power(2, false);
        check.due("right() without b", tree.right(), 1);
        tree.undo();
        tree.join(1, false);
        check.due("right(): b has no RANK and none is true", tree.right(), 1);
        tree.repair();
        tree.ticks(4);
        check.due("VERSION of b, which is cut off", tree.post(2, 1), 0);
        check.due("right(): b needs the VERSION, too", tree.right(), 0);
        check.due("right() of a ROOT alone", Check.of("post r;").right(), 1);
        SensorTree apart = Check.of("post r;post a;");
        check.due("right(): nobody has a LINK", apart.right(), 1);
        // a turns to b, which hangs on it: nobody comes to the ROOT
        tree.undo();
        tree.undo();
        tree.undo();
        tree.ticks(4);
        tree.join(0, false);
        check.due("circle()", tree.circle(), 6);
        check.due("right() in a circle", tree.right(), 0);
    }

    private static void circleBelowWay() {
        SensorTree tree = Check.of(CHAIN);
        check.due("circle() at first", tree.circle(), 0);
        check.due("below(0) at first", tree.below(0), 0);
        tree.ticks(8);
        check.due("circle()", tree.circle(), 0);
        check.due("below(0)", tree.below(0), 6);
        check.due("below(1)", tree.below(1), 4);
        check.due("below(2)", tree.below(2), 0);
        int[] way = {2, 1, 0, -1, -1};
        for (int i = 0; i < way.length; i++) {
            check.due("way(2, " + i + ")", tree.way(2, i), way[i]);
        }
        tree.power(2, false);
        check.due("below(0): who is off has its PARENT still", tree.below(0), 6);
        check.due("way(2, 2) of one that is off", tree.way(2, 2), 0);
        tree.undo();
        tree.join(0, false);
        check.due("circle() of two", tree.circle(), 6);
        check.due("below(0) then", tree.below(0), 0);
        check.due("below(1) then", tree.below(1), 4);
        check.due("below(2) then", tree.below(2), 2);
        for (int i = 0; i <= 20; i++) {
            check.due("way(1, " + i + ") round", tree.way(1, i), i % 2 == 0 ? 1 : 2);
        }
        check.due("way(1, 21) round", tree.way(1, 21), -1);
    }

    /** The most POSTS and LINKS. */
    private static void seven() {
        StringBuilder text = new StringBuilder();
        for (char c = 'a'; c <= 'g'; c++) {
            text.append("post ").append(c).append(';');
        }
        for (char c = 'a'; c < 'g'; c++) {
            text.append("link ").append(c).append(' ').append((char) (c + 1)).append(" 9;");
        }
        String more = "ac ad ae bd be bf ce cf cg df";
        for (String two : more.split(" ")) {
            text.append("link ").append(two.charAt(0)).append(' ').append(two.charAt(1)).append(" 9;");
        }
        SensorTree tree = Check.of(text + "first 2;twice 0;enough 9;goal costs;rise 999;");
        check.due("count(0)", tree.count(0), 7);
        check.due("count(1)", tree.count(1), 16);
        check.due("neighbours(2)", tree.neighbours(2), 0b1111011);
        tree.ticks(40);
        check.due("right()", tree.right(), 1);
        check.due("truth(6)", tree.truth(6), 190);
        check.due("way(6, 2)", tree.way(6, 2), 0);
        for (int link = 6; link < 16; link++) {
            tree.join(link, false);
        }
        check.due("truth(6) of a chain", tree.truth(6), 550);
        check.due("link(15, 1)", tree.link(15, 1), 5);
        check.due("link(16, 1)", tree.link(16, 1), -1);
        tree.ticks(200);
        check.due("right() of a chain", tree.right(), 1);
        check.due("deep() of a chain", tree.deep(), 6);
        check.due("below(0) of a chain", tree.below(0), 0b1111110);
        check.due("count(15)", tree.count(15), 550);
        check.due("reached()", tree.reached(), 42);
    }
}

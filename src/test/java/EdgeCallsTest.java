/** Promises 6 to 38 and how long an object is used: what each call answers at its edges, sentence by sentence. */
public final class EdgeCallsTest {
    private static final int NEVER = Edge.NEVER;
    private static final int NONE = Edge.NONE;
    private static final int NOBODY = Edge.NOBODY;
    /** All FIRE in every second tick, from tick 0 on. */
    private static final String STEADY = "first 2;twice 0;enough 9;rise 999;goal costs;";
    private static final String PAIR = "post r;post a;link r a 1;";
    private static final String CHAIN = "post r;post a;post b;link r a 1;link b a 1;";

    public static void main(String[] args) throws IllegalAccessException {
        Edge.runAll(EdgeCallsTest.class);
    }

    /** CHAIN, three POSTS and two LINKS, behind ticks enough to have ROUTES. */
    private static SensorTree chain() {
        SensorTree tree = Check.of(CHAIN + STEADY);
        tree.ticks(12);
        return tree;
    }

    private static void unchanged(SensorTree tree, String ahead) {
        Edge.alike("what stands", Edge.all(tree), ahead);
    }

    // ---- how long an object is used

    static void used512Calls() {
        Edge.says("Use", "An object is used for at most 512 calls after it has been made; what later calls answer is free.");
        SensorTree tree = new SensorTree();
        SensorTree other = new SensorTree();
        for (int call = 1; call <= 511; call++) {
            Edge.due("call " + call, tree.ticks(200), 200 * call);
            other.ticks(call % 2);
        }
        Edge.due("call 512", tree.ticks(200), 102400);
        Edge.due("call 512 of another one", other.count(2), 256);
        // the longest that can be with a text: 24 calls to feed it, then ticks
        SensorTree long1 = Check.of(CHAIN + STEADY);
        for (int i = 0; i < 480; i++) {
            long1.ticks(200);
        }
        Edge.due("right() behind 96,000 ticks", long1.right(), 1);
        Edge.due("then(2, 200, 0)", long1.then(2, 200, 0), 30);
    }

    /** Every call on an object that is full: 7 POSTS, 16 LINKS, all of them with what they can have. */
    static void usedWhenFull() {
        Edge.says("Use", "An object is used for at most 512 calls after it has been made;");
        String text = "post a;post b;post c;post d;post e;post f;post g;link a b 1;link b c 1;link c d 1;link d e 1;link e f 1;link f g 1;"
            + "link a c 9;link a d 9;link a e 9;link b d 9;link b e 9;link b f 9;link c e 9;link c f 9;link c g 9;link d f 9;";
        SensorTree tree = Check.of(text + STEADY);
        tree.ticks(60);
        int[][] counts = {{0, 7}, {1, 16}, {2, 60}, {4, 210}, {7, 21}, {9, 1}, {10, 0b1111111}, {12, 0}, {13, 0}, {14, 0}, {15, 70}, {16, 0},
            {17, 0}};
        for (int[] whatAndDue : counts) {
            Edge.count(tree, whatAndDue[0], whatAndDue[1]);
        }
        for (int post = 0; post < 7; post++) {
            Edge.due("truth(" + post + ")", tree.truth(post), 10 + 10 * post);
            Edge.due("below(" + post + ")", tree.below(post), 0b1111111 << post + 1 & 0b1111111);
            Edge.due("way(" + post + ", " + post + ")", tree.way(post, post), 0);
            Edge.due("needs(" + post + ")", tree.needs(post), (1 << post) - 1);
            Edge.due("then(" + post + ", 200, 1)", tree.then(post, 200, 1), post == 0 ? NOBODY : post - 1);
            for (int to = 0; to < 7; to++) {
                Edge.due("would(" + post + ", " + to + ", 0)", tree.would(post, to, 0), post == to ? NONE : 0);
                Edge.due("would(" + post + ", " + to + ", 1)", tree.would(post, to, 1), post == to ? NONE : Math.abs(post - to));
            }
        }
        for (int link = 0; link < 16; link++) {
            Edge.due("cut(" + link + ")", tree.cut(link), 0);
        }
        int[] asked = {tree.right(), tree.circle(), tree.soon(), tree.deep(), tree.reached(), tree.stretch(), tree.year(200, 10)};
        int[] due = {1, 0, 0, 6, 42, 0, 10};
        for (int i = 0; i < due.length; i++) {
            Edge.due("right, circle, soon, deep, reached, stretch, year: " + i, asked[i], due[i]);
        }
        for (int post = 1; post < 7; post++) {
            tree.power(post, false);
        }
        Edge.count(tree, 10, 1);
        Edge.due("truth(6), off", tree.truth(6), NONE);
        Edge.due("right(): all are off", tree.right(), 1);
    }

    // ---- promises 6 to 12: what is done

    static void promise6Ticks() {
        Edge.says("Promise 6", "n TICKS (0 .. 200; 0 is no thing done) go by: which it is; NONE, and nothing happens: no such n.");
        SensorTree tree = Check.of(CHAIN + STEADY);
        String first = Edge.all(tree);
        Edge.due("ticks(0)", tree.ticks(0), 0);
        unchanged(tree, first);
        Edge.count(tree, 9, 0);
        Edge.due("ticks(1)", tree.ticks(1), 1);
        Edge.count(tree, 9, 1);
        Edge.due("ticks(199)", tree.ticks(199), 200);
        Edge.due("ticks(200)", tree.ticks(200), 400);
        Edge.due("ticks(0)", tree.ticks(0), 400);
        Edge.count(tree, 9, 3);
        String ahead = Edge.all(tree);
        for (int n : Edge.not0To(200)) {
            Edge.due("ticks(" + n + ")", tree.ticks(n), NONE);
            unchanged(tree, ahead);
        }
        SensorTree empty = new SensorTree();
        Edge.due("ticks(200) without POSTS", empty.ticks(200), 200);
        Edge.due("undo()", empty.undo(), true);
        Edge.count(empty, 2, 0);
    }

    static void promise7Join() {
        Edge.says("Promise 7", "A LINK goes up, down: true; false, and nothing happens: it is so, no such one.");
        SensorTree tree = chain();
        String ahead = Edge.all(tree);
        for (int link : Edge.not0To(1)) {
            Edge.due("join(" + link + ", false)", tree.join(link, false), false);
            Edge.due("join(" + link + ", true)", tree.join(link, true), false);
        }
        Edge.due("join(0, true), it is so", tree.join(0, true), false);
        Edge.due("join(1, true), it is so", tree.join(1, true), false);
        unchanged(tree, ahead);
        Edge.due("join(1, false)", tree.join(1, false), true);
        Edge.due("link(1, 3)", tree.link(1, 3), 0);
        Edge.count(tree, 9, 2);
        String down = Edge.all(tree);
        Edge.due("join(1, false), it is so", tree.join(1, false), false);
        unchanged(tree, down);
        Edge.due("join(1, true)", tree.join(1, true), true);
        Edge.due("link(1, 3)", tree.link(1, 3), 1);
        Edge.due("join(0, false) without LINKS", Check.of("post r;post a;").join(0, false), false);
    }

    static void promise8Cost() {
        Edge.says("Promise 8", "A LINK has another COST (1 .. 9): true; false, and nothing happens: it is so, no such ones.");
        SensorTree tree = chain();
        String ahead = Edge.all(tree);
        for (int link : Edge.not0To(1)) {
            Edge.due("cost(" + link + ", 2)", tree.cost(link, 2), false);
        }
        for (int cost : Edge.not(1, 9)) {
            Edge.due("cost(0, " + cost + ")", tree.cost(0, cost), false);
        }
        Edge.due("cost(0, 1), it is so", tree.cost(0, 1), false);
        unchanged(tree, ahead);
        for (int cost = 9; cost >= 1; cost--) {
            Edge.due("cost(1, " + cost + ")", tree.cost(1, cost), true);
            Edge.due("link(1, 2)", tree.link(1, 2), cost);
            Edge.due("cost(1, " + cost + "), it is so", tree.cost(1, cost), false);
        }
        Edge.count(tree, 9, 10);
        // a LINK that is down can have another COST, too
        tree.join(1, false);
        Edge.due("cost(1, 5), down", tree.cost(1, 5), true);
        Edge.due("link(1, 4)", tree.link(1, 4), 50);
        Edge.due("cost(0, 2) without LINKS", Check.of("post r;post a;").cost(0, 2), false);
    }

    static void promise9Power() {
        Edge.says("Promise 9", "A POST is on, off: true; false, and nothing happens: it is so, the ROOT, no such one.");
        SensorTree tree = chain();
        String ahead = Edge.all(tree);
        for (int post : Edge.not0To(2)) {
            Edge.due("power(" + post + ", false)", tree.power(post, false), false);
            Edge.due("power(" + post + ", true)", tree.power(post, true), false);
        }
        Edge.due("power(0, false), the ROOT", tree.power(0, false), false);
        Edge.due("power(0, true), the ROOT", tree.power(0, true), false);
        Edge.due("power(1, true), it is so", tree.power(1, true), false);
        unchanged(tree, ahead);
        Edge.due("power(2, false)", tree.power(2, false), true);
        Edge.post(tree, 2, 0, 0);
        Edge.count(tree, 10, 0b011);
        String off = Edge.all(tree);
        Edge.due("power(2, false), it is so", tree.power(2, false), false);
        unchanged(tree, off);
        Edge.due("power(2, true)", tree.power(2, true), true);
        Edge.post(tree, 2, 0, 1);
        Edge.count(tree, 9, 3);
    }

    static void promise10Repair() {
        Edge.says("Promise 10", "REPAIR: the VERSION then; NONE, and nothing happens: it is 99, no POSTS.");
        SensorTree empty = new SensorTree();
        Edge.due("repair() without POSTS", empty.repair(), NONE);
        Edge.count(empty, 9, 0);
        SensorTree tree = chain();
        for (int version = 1; version <= 99; version++) {
            Edge.due("repair()", tree.repair(), version);
            Edge.post(tree, 0, 1, version);
        }
        String ahead = Edge.all(tree);
        Edge.due("repair() at 99", tree.repair(), NONE);
        unchanged(tree, ahead);
        Edge.due("undo()", tree.undo(), true);
        Edge.due("repair() at 98", tree.repair(), 99);
    }

    static void promise11Send() {
        Edge.says("Promise 11", "DATA: how it ends: 0 CAME, 1 NO WAY, 2 UNKNOWN, 3 BROKEN, 4 LOOP, 5 WRONG, 6 FAR.");
        SensorTree tree = Check.of(CHAIN + STEADY);
        Edge.due("NO WAY", tree.send(2, 0), 1);
        Edge.due("UNKNOWN", tree.send(0, 2), 2);
        tree.ticks(12);
        Edge.due("CAME", tree.send(0, 2), 0);
        tree.join(1, false);
        Edge.due("BROKEN", tree.send(0, 2), 3);
        tree.undo();
        tree.undo();
        tree.cost(0, 9);
        Edge.due("LOOP", tree.send(2, 0), 4);
        tree.undo();
        tree.undo();
        tree.power(1, false);
        tree.power(1, true);
        Edge.due("WRONG", tree.send(0, 2), 5);
        // each is a thing done, though nothing else comes of it
        int done = tree.count(9);
        tree.send(1, 0);
        Edge.count(tree, 9, done + 1);
    }

    static void promise11SendNone() {
        Edge.says("Promise 11", "NONE, and nothing happens: one and the same, off, no such ones.");
        SensorTree tree = chain();
        String ahead = Edge.all(tree);
        for (int post = 0; post < 3; post++) {
            Edge.due("send(" + post + ", " + post + ")", tree.send(post, post), NONE);
        }
        for (int post : Edge.not0To(2)) {
            Edge.due("send(0, " + post + ")", tree.send(0, post), NONE);
            Edge.due("send(" + post + ", 0)", tree.send(post, 0), NONE);
            Edge.due("send(" + post + ", " + post + ")", tree.send(post, post), NONE);
        }
        unchanged(tree, ahead);
        tree.power(2, false);
        String off = Edge.all(tree);
        Edge.due("send(0, 2), off", tree.send(0, 2), NONE);
        Edge.due("send(2, 0), off", tree.send(2, 0), NONE);
        unchanged(tree, off);
        Edge.due("send(0, 1) without POSTS", new SensorTree().send(0, 1), NONE);
    }

    static void promise12Undo() {
        Edge.says("Promise 12", "The last thing done (ticks, join, cost, power, repair, send) is undone: true;");
        SensorTree tree = Check.of(CHAIN + STEADY + "twice 3;noise 5;");
        String[] stood = new String[10];
        for (int i = 0; i < 10; i++) {
            stood[i] = Edge.all(tree);
            doOne(tree, i);
            Edge.count(tree, 9, i + 1);
        }
        // what is asked, held, fed or refused is no thing done
        tree.hold(0);
        tree.soon();
        tree.ticks(0);
        tree.join(9, true);
        Edge.count(tree, 9, 10);
        for (int i = 9; i >= 0; i--) {
            Edge.due("undo() of " + i, tree.undo(), true);
            // a SLOT holds something since then; that is not undone
            Edge.count(tree, 11, 1);
            Edge.alike("as it stood ahead of " + i, withoutSlots(Edge.all(tree)), withoutSlots(stood[i]));
        }
        Edge.due("undo() of nothing", tree.undo(), false);
    }

    private static void doOne(SensorTree tree, int i) {
        switch (i) {
            case 0 -> tree.ticks(30);
            case 1 -> tree.join(0, false);
            case 2 -> tree.join(0, true);
            case 3 -> tree.cost(1, 7);
            case 4 -> tree.power(1, false);
            case 5 -> tree.power(1, true);
            case 6 -> tree.repair();
            case 7 -> tree.send(0, 2);
            case 8 -> tree.ticks(1);
            default -> tree.ticks(200);
        }
    }

    /** Without count(11). */
    private static String withoutSlots(String line) {
        String[] all = line.split(" ");
        all[11] = "";
        return String.join(" ", all);
    }

    static void promise12UndoOfAllThatIsCounted() {
        Edge.says("Promise 12", "is undone: true;");
        // POISON, what RESTS, what was lost and spared is undone, too, and held
        SensorTree tree = Check.of(CHAIN + "goal costs;first 2;twice 2;enough 1;rise 0;rest 9;noise 20;seed 4;");
        tree.ticks(40);
        String calm = goingOn(tree);
        tree.cost(0, 2);
        tree.ticks(3);
        Edge.due("it RESTS", tree.post(1, 5), 6);
        Edge.due("POISONED", tree.count(12) > 0, true);
        Edge.due("lost", tree.count(13) > 0, true);
        Edge.due("spared", tree.count(14) > 0, true);
        String rests = goingOn(tree);
        tree.hold(0);
        tree.ticks(50);
        Edge.due("RESTS no more", tree.post(1, 5), 0);
        Edge.due("undo()", tree.undo(), true);
        Edge.alike("as it stood", goingOn(tree), rests);
        Edge.due("then(1, 5, 1): it RESTS still", tree.then(1, 5, 1), NOBODY);
        Edge.due("then(1, 6, 1): it CHOSE", tree.then(1, 6, 1), 0);
        tree.undo();
        tree.undo();
        Edge.alike("as it stood", goingOn(tree), calm);
        tree.restore(0);
        Edge.alike("as it was held", goingOn(tree), rests);
        tree.ticks(50);
        tree.restore(0);
        Edge.alike("as it was held", goingOn(tree), rests);
    }

    static void promise12LastTwenty() {
        Edge.says("Promise 12", "false: there is none (the last 20 can be).");
        Edge.due("undo() of a new one", new SensorTree().undo(), false);
        for (int things = 18; things <= 45; things += 1) {
            SensorTree tree = Check.of(PAIR + STEADY);
            for (int i = 0; i < things; i++) {
                tree.ticks(1);
                Edge.count(tree, 9, Math.min(20, i + 1));
            }
            int can = Math.min(20, things);
            for (int i = 1; i <= can; i++) {
                Edge.due("undo() " + i + " of " + things, tree.undo(), true);
                Edge.count(tree, 2, things - i);
                Edge.count(tree, 9, can - i);
            }
            String ahead = Edge.all(tree);
            Edge.due("undo() beyond", tree.undo(), false);
            unchanged(tree, ahead);
            // things done behind it can be undone again
            tree.ticks(2);
            Edge.count(tree, 9, 1);
            Edge.due("undo()", tree.undo(), true);
            Edge.count(tree, 2, things - can);
        }
    }

    // ---- promises 13 to 22: what stands

    static void promise13Post() {
        Edge.says("Promise 13", "Of a POST: what 0: 1 on, else 0, 1 VERSION, 2 RANK, 3 PARENT (-2: none), 4 LOWEST, 5 how long it RESTS, "
            + "6 SEQUENCE, 7 LONG, 8 how far its TIMER is, 9 how many it HEARD, 10 when it FIRES.");
        SensorTree tree = Check.of("post r;post a;post b;link r a 1;link a b 1;goal costs;first 2;twice 0;enough 9;rise 30;rest 5;");
        tree.repair();
        tree.ticks(13);
        // a took VERSION 1 at 20; it is 40 now; it CHOSE in tick 1 and REPORTED then; b's RANK was alike
        tree.cost(0, 3);
        int[] a = {1, 1, 40, 0, 20, 0, 2, 2, 1, 0, 1};
        for (int what = 0; what <= 10; what++) {
            Edge.post(tree, 1, what, a[what]);
        }
        tree.ticks(1);
        Edge.post(tree, 1, 6, 3);
        Edge.post(tree, 1, 8, 0);
        tree.power(2, false);
        tree.cost(0, 9);
        int[] poisoned = {1, 1, NEVER, NOBODY, NEVER, 5, 3};
        for (int what = 0; what < poisoned.length; what++) {
            Edge.post(tree, 1, what, poisoned[what]);
        }
        Edge.post(tree, 2, 0, 0);
        Edge.post(tree, 0, 3, NOBODY);
        // HEARD, seen on a TIMER that is LONG enough: b is POST 1 here and hears NEVER of a POST that has no way either
        SensorTree heard = Check.of("post r;post b;post c;link b c 1;first 8;twice 0;enough 9;");
        Edge.until(heard, () -> heard.post(1, 9) > 0);
        Edge.post(heard, 1, 9, 1);
        Edge.post(heard, 1, 7, 8);
        Edge.post(heard, 1, 10, Edge.fires(8, 0, 0, 1));
    }

    static void promise13NoneForOthers() {
        Edge.says("Promise 13", "NONE for others.");
        SensorTree tree = chain();
        for (int post : Edge.not0To(2)) {
            for (int what = 0; what <= 10; what++) {
                Edge.due("post(" + post + ", " + what + ")", tree.post(post, what), NONE);
            }
        }
        for (int what : Edge.not0To(10)) {
            for (int post = 0; post < 3; post++) {
                Edge.due("post(" + post + ", " + what + ")", tree.post(post, what), NONE);
            }
        }
    }

    static void promise14Heard() {
        Edge.says("Promise 14", "The RANK that a POST HEARD of another one; NONE: one and the same, no such ones.");
        SensorTree tree = chain();
        int[][] due = {{NONE, 20, NEVER}, {10, NONE, 30}, {NEVER, 20, NONE}};
        for (int post = 0; post < 3; post++) {
            for (int of = 0; of < 3; of++) {
                Edge.due("heard(" + post + ", " + of + ")", tree.heard(post, of), due[post][of]);
            }
        }
        for (int post : Edge.not0To(2)) {
            Edge.due("heard(" + post + ", 0)", tree.heard(post, 0), NONE);
            Edge.due("heard(0, " + post + ")", tree.heard(0, post), NONE);
            Edge.due("heard(" + post + ", " + post + ")", tree.heard(post, post), NONE);
        }
        // it stays though the LINK is down and the other one off
        tree.join(1, false);
        tree.power(2, false);
        Edge.due("heard(1, 2)", tree.heard(1, 2), 30);
        Edge.due("heard(2, 1)", tree.heard(2, 1), 20);
    }

    static void promise15Route() {
        Edge.says("Promise 15", "A ROUTE: what 0 the one to which it goes on, 1 SEQUENCE (-2: there is none); NONE: one and the same, no such ones.");
        SensorTree tree = chain();
        int[][] due = {{NONE, 1, 1}, {NOBODY, NONE, 2}, {NOBODY, NOBODY, NONE}};
        for (int post = 0; post < 3; post++) {
            for (int to = 0; to < 3; to++) {
                Edge.route(tree, post, to, due[post][to]);
                int sequence = due[post][to] < 0 ? due[post][to] : tree.post(to, 6);
                Edge.due("route(" + post + ", " + to + ", 1)", tree.route(post, to, 1), sequence);
            }
        }
        for (int post : Edge.not0To(2)) {
            for (int what = 0; what <= 1; what++) {
                Edge.due("route(" + post + ", 0, " + what + ")", tree.route(post, 0, what), NONE);
                Edge.due("route(0, " + post + ", " + what + ")", tree.route(0, post, what), NONE);
            }
        }
        for (int what : Edge.not0To(1)) {
            Edge.due("route(0, 1, " + what + ")", tree.route(0, 1, what), NONE);
            Edge.due("route(1, 0, " + what + "), there is none", tree.route(1, 0, what), NONE);
        }
    }

    static void promise16Link() {
        Edge.says("Promise 16", "Of a LINK: what 0, 1 its POSTS, as told, 2 COST, 3: 1 up, else 0, 4 STEP. NONE for others.");
        SensorTree tree = Check.of("post r;post a;post b;link a r 7;link b a 3;goal costs;");
        int[][] due = {{1, 0, 7, 1, 70}, {2, 1, 3, 0, 30}};
        tree.join(1, false);
        for (int link = 0; link < 2; link++) {
            for (int what = 0; what <= 4; what++) {
                Edge.due("link(" + link + ", " + what + ")", tree.link(link, what), due[link][what]);
            }
            for (int what : Edge.not0To(4)) {
                Edge.due("link(" + link + ", " + what + ")", tree.link(link, what), NONE);
            }
        }
        for (int link : Edge.not0To(1)) {
            for (int what = 0; what <= 4; what++) {
                Edge.due("link(" + link + ", " + what + ")", tree.link(link, what), NONE);
            }
        }
        tree.cost(0, 2);
        Edge.due("link(0, 2)", tree.link(0, 2), 2);
        Edge.due("link(0, 4)", tree.link(0, 4), 20);
        Edge.due("link(0, 4) by hops", Check.of(PAIR).link(0, 4), 10);
    }

    static void promise17Neighbours() {
        Edge.says("Promise 17", "NEIGHBOURS of a POST (bits); NONE: no such one.");
        SensorTree tree = Check.of("post r;post a;post b;post c;post d;post e;post f;link f a 1;link a r 1;link a d 1;");
        int[] due = {0b0000010, 0b1010001, 0, 0, 0b0000010, 0, 0b0000010};
        for (int post = 0; post < 7; post++) {
            Edge.due("neighbours(" + post + ")", tree.neighbours(post), due[post]);
        }
        for (int post : Edge.not0To(6)) {
            Edge.due("neighbours(" + post + ")", tree.neighbours(post), NONE);
        }
        tree.power(1, false);
        Edge.due("neighbours(1), off: there is such a one", tree.neighbours(1), 0);
    }

    static void promise18Truth() {
        Edge.says("Promise 18", "TRUE RANK; NONE: off, no such one.");
        SensorTree tree = chain();
        Edge.due("truth(0)", tree.truth(0), 10);
        Edge.due("truth(2)", tree.truth(2), 30);
        for (int post : Edge.not0To(2)) {
            Edge.due("truth(" + post + ")", tree.truth(post), NONE);
        }
        tree.power(1, false);
        Edge.due("truth(1), off", tree.truth(1), NONE);
        Edge.due("truth(2), cut off", tree.truth(2), NEVER);
    }

    static void promise19Right() {
        Edge.says("Promise 19", "RIGHT: 1, 0 (no POSTS: 1).");
        Edge.due("right() without POSTS", new SensorTree().right(), 1);
        SensorTree emptied = chain();
        emptied.read();
        Edge.due("right() without POSTS any more", emptied.right(), 1);
        Edge.due("right() of a ROOT alone", Check.of("post r;").right(), 1);
        SensorTree tree = Check.of(CHAIN + STEADY);
        Edge.due("right()", tree.right(), 0);
        tree.ticks(12);
        Edge.due("right()", tree.right(), 1);
    }

    static void promise20Circle() {
        Edge.says("Promise 20", "CIRCLE (bits).");
        Edge.due("circle() without POSTS", new SensorTree().circle(), 0);
        SensorTree tree = chain();
        Edge.due("circle()", tree.circle(), 0);
        tree.join(0, false);
        Edge.due("circle()", tree.circle(), 0b110);
    }

    static void promise21Below() {
        Edge.says("Promise 21", "BELOW (bits); NONE: no such one.");
        SensorTree tree = chain();
        Edge.due("below(0)", tree.below(0), 0b110);
        Edge.due("below(1)", tree.below(1), 0b100);
        Edge.due("below(2)", tree.below(2), 0);
        for (int post : Edge.not0To(2)) {
            Edge.due("below(" + post + ")", tree.below(post), NONE);
        }
    }

    static void promise22Way() {
        Edge.says("Promise 22", "The i-th POST on the way by PARENTS, itself being 0; NONE: not so many, no such ones (i 0 .. 20).");
        SensorTree tree = chain();
        int[] due = {2, 1, 0, NONE, NONE};
        for (int i = 0; i < due.length; i++) {
            Edge.due("way(2, " + i + ")", tree.way(2, i), due[i]);
        }
        Edge.due("way(0, 0)", tree.way(0, 0), 0);
        Edge.due("way(0, 1)", tree.way(0, 1), NONE);
        Edge.due("way(2, 20)", tree.way(2, 20), NONE);
        for (int post : Edge.not0To(2)) {
            Edge.due("way(" + post + ", 0)", tree.way(post, 0), NONE);
        }
        tree.join(0, false);
        for (int i = 0; i <= 20; i++) {
            Edge.due("way(1, " + i + ") round", tree.way(1, i), i % 2 == 0 ? 1 : 2);
        }
        for (int i : Edge.not0To(20)) {
            Edge.due("way(1, " + i + ") round", tree.way(1, i), NONE);
        }
    }

    // ---- promises 23 to 35: what would be

    static void promise23Would() {
        Edge.says("Promise 23", "What DATA would do: what 0 how it ends, 1 over how many hops it has gone, 2 how many were AGAINST. NONE: one and "
            + "the same, off, no such ones.");
        SensorTree tree = chain();
        int[] came = {0, 2, 0};
        tree.cost(0, 9);
        int[] loop = {4, 3, 2};
        for (int what = 0; what <= 2; what++) {
            Edge.due("would(2, 0, " + what + ")", tree.would(2, 0, what), loop[what]);
        }
        tree.undo();
        for (int what = 0; what <= 2; what++) {
            Edge.due("would(0, 2, " + what + ")", tree.would(0, 2, what), came[what]);
            Edge.due("would(1, 1, " + what + ")", tree.would(1, 1, what), NONE);
            for (int post : Edge.not0To(2)) {
                Edge.due("would(0, " + post + ", " + what + ")", tree.would(0, post, what), NONE);
                Edge.due("would(" + post + ", 0, " + what + ")", tree.would(post, 0, what), NONE);
            }
        }
        for (int what : Edge.not0To(2)) {
            Edge.due("would(0, 2, " + what + ")", tree.would(0, 2, what), NONE);
        }
        tree.power(2, false);
        Edge.due("would(0, 2, 0), off", tree.would(0, 2, 0), NONE);
        Edge.due("would(2, 0, 0), off", tree.would(2, 0, 0), NONE);
        // no hop: 0, not NONE
        SensorTree first = Check.of(CHAIN + STEADY);
        Edge.due("would(2, 0, 0)", first.would(2, 0, 0), 1);
        Edge.due("would(2, 0, 1)", first.would(2, 0, 1), 0);
        Edge.due("would(2, 0, 2)", first.would(2, 0, 2), 0);
    }

    static void promise24Hop() {
        Edge.says("Promise 24", "The i-th POST to which DATA would come (the first hop: 0); NONE: not so many, likewise.");
        SensorTree tree = chain();
        Edge.due("hop(0, 2, 0)", tree.hop(0, 2, 0), 1);
        Edge.due("hop(0, 2, 1)", tree.hop(0, 2, 1), 2);
        for (int i : Edge.not0To(1)) {
            Edge.due("hop(0, 2, " + i + ")", tree.hop(0, 2, i), NONE);
        }
        Edge.due("hop(1, 1, 0)", tree.hop(1, 1, 0), NONE);
        for (int post : Edge.not0To(2)) {
            Edge.due("hop(0, " + post + ", 0)", tree.hop(0, post, 0), NONE);
            Edge.due("hop(" + post + ", 0, 0)", tree.hop(post, 0, 0), NONE);
        }
        // a longer way first: nothing of it is left when a shorter one is asked for
        Edge.due("hop(1, 2, 0)", tree.hop(1, 2, 0), 2);
        Edge.due("hop(1, 2, 1)", tree.hop(1, 2, 1), NONE);
        // where it ended BROKEN it did not come, where it ended LOOP it did
        tree.join(1, false);
        Edge.due("hop(0, 2, 0)", tree.hop(0, 2, 0), 1);
        Edge.due("hop(0, 2, 1)", tree.hop(0, 2, 1), NONE);
        tree.undo();
        tree.cost(0, 9);
        int[] loop = {1, 2, 1, NONE};
        for (int i = 0; i < loop.length; i++) {
            Edge.due("hop(2, 0, " + i + ")", tree.hop(2, 0, i), loop[i]);
        }
        tree.power(2, false);
        Edge.due("hop(0, 2, 0), off", tree.hop(0, 2, 0), NONE);
        Edge.due("hop(2, 0, 0), off", tree.hop(2, 0, 0), NONE);
    }

    static void promise25Soon() {
        Edge.says("Promise 25", "SOON; -2: not.");
        Edge.due("soon() without POSTS", new SensorTree().soon(), 0);
        Edge.due("soon()", Check.of(PAIR + STEADY).soon(), 2);
        Edge.due("soon(): nothing is heard", Check.of(PAIR + STEADY + "noise 100;").soon(), NOBODY);
        SensorTree cut = chain();
        cut.repair();
        cut.join(0, false);
        Edge.due("soon(): the VERSION can't come", cut.soon(), NOBODY);
    }

    static void promise26Busy() {
        Edge.says("Promise 26", "BUSY; NONE: no such n.");
        SensorTree tree = Check.of(PAIR + STEADY);
        Edge.due("busy(0)", tree.busy(0), 0);
        Edge.due("busy(1)", tree.busy(1), 2);
        Edge.due("busy(200)", tree.busy(200), 200 + 2 + 16);
        for (int n : Edge.not0To(200)) {
            Edge.due("busy(" + n + ")", tree.busy(n), NONE);
        }
        Edge.due("busy(200) without POSTS", new SensorTree().busy(200), 0);
    }

    static void promise27Cut() {
        Edge.says("Promise 27", "CUT; NONE: down, no such one.");
        SensorTree tree = chain();
        Edge.due("cut(0)", tree.cut(0), 2);
        Edge.due("cut(1)", tree.cut(1), 1);
        for (int link : Edge.not0To(1)) {
            Edge.due("cut(" + link + ")", tree.cut(link), NONE);
        }
        tree.join(0, false);
        Edge.due("cut(0), down", tree.cut(0), NONE);
        Edge.due("cut(1), up", tree.cut(1), 0);
    }

    static void promise28Needs() {
        Edge.says("Promise 28", "NEEDS (bits); NONE: off, no such one.");
        SensorTree tree = chain();
        Edge.due("needs(0)", tree.needs(0), 0);
        Edge.due("needs(1)", tree.needs(1), 0b01);
        Edge.due("needs(2)", tree.needs(2), 0b11);
        for (int post : Edge.not0To(2)) {
            Edge.due("needs(" + post + ")", tree.needs(post), NONE);
        }
        tree.power(1, false);
        Edge.due("needs(1), off", tree.needs(1), NONE);
        Edge.due("needs(2), cut off", tree.needs(2), 0);
    }

    static void promise29Spare() {
        Edge.says("Promise 29", "SPARE; -2: none; NONE: the ROOT, off, without PARENT, no such one.");
        SensorTree tree = chain();
        Edge.due("spare(1)", tree.spare(1), 2);
        Edge.due("spare(2), none", tree.spare(2), NOBODY);
        Edge.due("spare(0), the ROOT", tree.spare(0), NONE);
        for (int post : Edge.not0To(2)) {
            Edge.due("spare(" + post + ")", tree.spare(post), NONE);
        }
        Edge.due("spare(1) without PARENT", Check.of(CHAIN).spare(1), NONE);
        tree.power(2, false);
        Edge.due("spare(2), off", tree.spare(2), NONE);
        Edge.due("its PARENT", tree.post(2, 3), 1);
        Edge.due("spare(1), none any more", tree.spare(1), NOBODY);
    }

    static void promise30Deep() {
        Edge.says("Promise 30", "DEEP.");
        Edge.due("deep() without POSTS", new SensorTree().deep(), 0);
        Edge.due("deep() at first", Check.of(CHAIN).deep(), 0);
        Edge.due("deep()", chain().deep(), 2);
    }

    static void promise31Reached() {
        Edge.says("Promise 31", "REACHED.");
        Edge.due("reached() without POSTS", new SensorTree().reached(), 0);
        Edge.due("reached() of a ROOT alone", Check.of("post r;").reached(), 0);
        Edge.due("reached()", chain().reached(), 6);
    }

    static void promise32Lull() {
        Edge.says("Promise 32", "LULL; NONE: no such n.");
        SensorTree tree = Check.of(PAIR + STEADY);
        Edge.due("lull(1)", tree.lull(1), 0);
        Edge.due("lull(200)", tree.lull(200), 1);
        for (int n : Edge.not(1, 200)) {
            Edge.due("lull(" + n + ")", tree.lull(n), NONE);
        }
        Edge.due("lull(0)", tree.lull(0), NONE);
        Edge.due("lull(1) of a ROOT that waits", Check.of("post r;first 8;").lull(1), 1);
    }

    static void promise33Stretch() {
        Edge.says("Promise 33", "STRETCH.");
        Edge.due("stretch() without POSTS", new SensorTree().stretch(), 0);
        SensorTree tree = chain();
        Edge.due("stretch()", tree.stretch(), 0);
        tree.cost(1, 4);
        Edge.due("stretch(): b knows a's RANK", tree.stretch(), 0);
        tree.cost(0, 2);
        Edge.due("stretch(): b knows not that a rose by 10", tree.stretch(), -10);
    }

    static void promise34Then() {
        Edge.says("Promise 34", "IN n TICKS: what 0 RANK, 1 PARENT (-2: none); NONE: no such ones.");
        SensorTree tree = Check.of(CHAIN + STEADY);
        Edge.due("then(2, 3, 0)", tree.then(2, 3, 0), NEVER);
        Edge.due("then(2, 3, 1)", tree.then(2, 3, 1), NOBODY);
        Edge.due("then(2, 4, 0)", tree.then(2, 4, 0), 30);
        Edge.due("then(2, 4, 1)", tree.then(2, 4, 1), 1);
        Edge.due("then(0, 0, 0)", tree.then(0, 0, 0), 10);
        Edge.due("then(0, 200, 1)", tree.then(0, 200, 1), NOBODY);
        for (int what = 0; what <= 1; what++) {
            for (int post : Edge.not0To(2)) {
                Edge.due("then(" + post + ", 0, " + what + ")", tree.then(post, 0, what), NONE);
            }
            for (int n : Edge.not0To(200)) {
                Edge.due("then(0, " + n + ", " + what + ")", tree.then(0, n, what), NONE);
            }
        }
        for (int what : Edge.not0To(1)) {
            Edge.due("then(0, 0, " + what + ")", tree.then(0, 0, what), NONE);
        }
        // of one that is off it can be asked, too
        tree.ticks(12);
        tree.power(2, false);
        Edge.due("then(2, 9, 0), off", tree.then(2, 9, 0), 30);
        Edge.due("then(2, 9, 1), off", tree.then(2, 9, 1), 1);
    }

    static void promise35Year() {
        Edge.says("Promise 35", "YEAR; NONE: no such ones.");
        SensorTree tree = Check.of(PAIR + STEADY);
        Edge.due("year(0, 1)", tree.year(0, 1), 0);
        Edge.due("year(2, 1)", tree.year(2, 1), 1);
        Edge.due("year(200, 10)", tree.year(200, 10), 10);
        for (int n : Edge.not0To(200)) {
            Edge.due("year(" + n + ", 1)", tree.year(n, 1), NONE);
        }
        for (int s : Edge.not(1, 10)) {
            Edge.due("year(2, " + s + ")", tree.year(2, s), NONE);
        }
        Edge.due("year(0, 10) without POSTS", new SensorTree().year(0, 10), 10);
        Edge.due("year(0, 11) without POSTS", new SensorTree().year(0, 11), NONE);
    }

    // ---- promises 36 to 38: what is kept and counted

    static void promise36Hold() {
        Edge.says("Promise 36", "All that goes on (not the tape) is held in a SLOT (0 .. 2): true; false: no such one.");
        SensorTree tree = chain();
        for (int slot : Edge.not0To(2)) {
            Edge.due("hold(" + slot + ")", tree.hold(slot), false);
            Edge.count(tree, 11, 0);
        }
        String[] stood = new String[3];
        for (int slot = 0; slot < 3; slot++) {
            tree.feed(0, 0, 0, 0, 0);
            tree.ticks(7);
            tree.repair();
            tree.cost(slot % 2, 3 + slot);
            stood[slot] = goingOn(tree);
            Edge.due("hold(" + slot + ")", tree.hold(slot), true);
            Edge.count(tree, 11, slot + 1);
        }
        for (int slot = 0; slot < 3; slot++) {
            Edge.due("restore(" + slot + ")", tree.restore(slot), true);
            Edge.alike("what SLOT " + slot + " held", goingOn(tree), stood[slot]);
            Edge.due("the tape stays", tree.count(8), 60);
        }
        // what was held before in it is gone
        tree.ticks(3);
        String later = goingOn(tree);
        tree.hold(0);
        tree.ticks(3);
        tree.restore(0);
        Edge.alike("what it holds now", goingOn(tree), later);
        Edge.count(tree, 11, 3);
        Edge.due("hold(2) without POSTS", new SensorTree().hold(2), true);
    }

    /** What goes on: all but the tape, what can be undone, the SLOTS. */
    private static String goingOn(SensorTree tree) {
        String[] all = Edge.all(tree).split(" ");
        all[8] = "";
        all[9] = "";
        all[11] = "";
        return String.join(" ", all);
    }

    static void promise37Restore() {
        Edge.says("Promise 37", "It goes on from what a SLOT holds (that stays there; nothing can be undone then): true;");
        SensorTree tree = Check.of(CHAIN + STEADY + "twice 3;noise 20;seed 6;");
        tree.ticks(21);
        tree.join(1, false);
        tree.hold(1);
        SensorTree other = Check.of(CHAIN + STEADY + "twice 3;noise 20;seed 6;");
        other.ticks(21);
        other.join(1, false);
        for (int round = 0; round < 3; round++) {
            tree.ticks(30);
            tree.join(1, true);
            tree.power(2, false);
            tree.repair();
            Edge.due("restore(1)", tree.restore(1), true);
            Edge.alike("it stays there", goingOn(tree), goingOn(other));
            Edge.count(tree, 9, 0);
            Edge.due("undo()", tree.undo(), false);
        }
        tree.ticks(40);
        other.ticks(40);
        Edge.alike("it goes on from there", goingOn(tree), goingOn(other));
        Edge.due("undo() of what was done since", tree.undo(), true);
        Edge.due("undo() beyond", tree.undo(), false);
    }

    static void promise37NothingHeld() {
        Edge.says("Promise 37", "false, and nothing happens: no such one, nothing is held.");
        SensorTree tree = chain();
        tree.hold(1);
        tree.ticks(5);
        String ahead = Edge.all(tree);
        for (int slot : Edge.not0To(2)) {
            Edge.due("restore(" + slot + ")", tree.restore(slot), false);
        }
        Edge.due("restore(0), nothing is held", tree.restore(0), false);
        Edge.due("restore(2), nothing is held", tree.restore(2), false);
        unchanged(tree, ahead);
        Edge.due("what was done can be undone", tree.undo(), true);
        Edge.due("restore(0) of a new one", new SensorTree().restore(0), false);
    }

    static void promise38Count() {
        Edge.says("Promise 38", "0 POSTS, 1 LINKS, 2 the tick, 3 messages waiting to come, 4 ADVERTS put so far, 5 REACHES, 6 GONES, 7 ROUTES of all, "
            + "8 bytes on the tape, 9 things that can be undone, 10 POSTS on (bits), 11 SLOTS that hold something, 12 POISONED so far, 13 "
            + "messages lost so far, 14 ADVERTS spared so far (FIRES, but enough was HEARD), 15 the greatest RANK less than NEVER (0: none), "
            + "16 POSTS that REST, on or off (bits), 17 POSTS that are on without a PARENT, the ROOT not (bits).");
        SensorTree none = new SensorTree();
        for (int what = 0; what <= 17; what++) {
            Edge.count(none, what, 0);
        }
        SensorTree tree = Check.of("post r;post a;post b;post c;link r a 1;link a b 3;first 2;twice 0;enough 9;goal costs;rise 20;rest 3;");
        counts(tree, 4, 2, 0, 0, 0, 0, 0, 0, 0, 0, 0b1111, 0, 0, 0, 0, 10, 0, 0b1110);
        // ticks 0, 2, 4 .. : four ADVERTS; in tick 1 a CHOOSES and REPORTS twice, in tick 3 b once, put on once
        tree.ticks(6);
        counts(tree, 4, 2, 6, 0, 12, 4, 0, 3, 0, 1, 0b1111, 0, 0, 0, 0, 50, 0, 0b1000);
        tree.feed(0, 0, 0, 0, 0);
        tree.hold(2);
        // a would have 60: POISON, GONES of a and b to r
        tree.cost(0, 5);
        counts(tree, 4, 2, 6, 2, 12, 4, 2, 3, 20, 2, 0b1111, 1, 1, 0, 0, 50, 0b0010, 0b1010);
        tree.power(1, false);
        counts(tree, 4, 2, 6, 3, 12, 4, 3, 3, 20, 3, 0b1101, 1, 1, 0, 0, 10, 0b0010, 0b1100);
        // the three GONES are from or to a, which is off; r, b and c put ADVERTS
        tree.ticks(1);
        counts(tree, 4, 2, 7, 3, 15, 4, 3, 3, 20, 4, 0b1101, 1, 1, 3, 0, 10, 0b0010, 0b1100);
        // one that RESTS for one tick more RESTS
        SensorTree rests = Check.of(PAIR + "goal costs;first 2;twice 0;enough 9;rise 0;rest 1;");
        rests.ticks(4);
        rests.cost(0, 2);
        Edge.count(rests, 16, 0b10);
        rests.ticks(1);
        Edge.count(rests, 16, 0);
        // the greatest RANK is that of one that is off, too, if it had one when it went off
        SensorTree off = chain();
        off.power(2, false);
        Edge.count(off, 15, 30);
        // spared: r HEARD a's ADVERT, alike, ahead of where it FIRES
        SensorTree spared = Check.of(PAIR + "first 4;twice 0;seed 9;enough 1;");
        spared.ticks(7);
        Edge.count(spared, 14, 1);
        Edge.count(spared, 4, 3);
    }

    private static void counts(SensorTree tree, int... due) {
        for (int what = 0; what < due.length; what++) {
            Edge.count(tree, what, due[what]);
        }
    }

    static void promise38NoneForOthers() {
        Edge.says("Promise 38", "NONE for others.");
        SensorTree tree = chain();
        for (int what : Edge.not0To(17)) {
            Edge.due("count(" + what + ")", tree.count(what), NONE);
            Edge.due("count(" + what + ") without POSTS", new SensorTree().count(what), NONE);
        }
    }
}

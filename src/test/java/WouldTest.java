/** Promises 23 to 35: what would be, while nothing happens. */
public final class WouldTest {
    private static final Check check = new Check();
    private static final int NEVER = 9999;
    private static final String PAIR = "post r; post a; link r a 1; first 2; twice 0; enough 9;";
    private static final String CHAIN =
        "post r; post a; post b; link r a 1; link a b 1; goal costs; first 2; twice 2; enough 9; rise 999;";
    /** c hangs on a or b, both on r, all by one LINK. */
    private static final String RING =
        "post r;post a;post b;post c;link r a 1;link r b 2;link a c 1;link b c 1;goal costs;first 2;twice 0;enough 9;";

    public static void main(String[] args) {
        wrongOnes();
        wouldAndHop();
        soon();
        busyAndLull();
        cutAndNeeds();
        spare();
        deepAndReached();
        stretch();
        then();
        year();
        nothingHappens();
        check.finish("WouldTest");
    }

    private static void wrongOnes() {
        SensorTree tree = Check.of(RING);
        tree.ticks(10);
        tree.power(3, false);
        int[] bad = {-1, 3, 4, Integer.MIN_VALUE, Integer.MAX_VALUE};
        for (int n : bad) {
            check.due("would(" + n + ", 0, 0)", tree.would(n, 0, 0), -1);
            check.due("would(0, " + n + ", 0)", tree.would(0, n, 0), -1);
            check.due("hop(" + n + ", 0, 0)", tree.hop(n, 0, 0), -1);
            check.due("hop(0, " + n + ", 0)", tree.hop(0, n, 0), -1);
            check.due("needs(" + n + ")", tree.needs(n), -1);
            check.due("spare(" + n + ")", tree.spare(n), -1);
            check.due("would(0, 1, " + n + ")", tree.would(0, 1, n), -1);
            check.due("hop(0, 1, " + n + ")", tree.hop(0, 1, n), -1);
        }
        check.due("would(1, 1, 0)", tree.would(1, 1, 0), -1);
        check.due("hop(1, 1, 0)", tree.hop(1, 1, 0), -1);
        check.due("spare(0)", tree.spare(0), -1);
        int[] ticks = {-1, 201, Integer.MIN_VALUE, Integer.MAX_VALUE};
        for (int n : ticks) {
            check.due("busy(" + n + ")", tree.busy(n), -1);
            check.due("lull(" + n + ")", tree.lull(n), -1);
            check.due("then(0, " + n + ", 0)", tree.then(0, n, 0), -1);
            check.due("year(" + n + ", 1)", tree.year(n, 1), -1);
        }
        check.due("lull(0)", tree.lull(0), -1);
        check.due("year(0, 0)", tree.year(0, 0), -1);
        check.due("year(0, 11)", tree.year(0, 11), -1);
        check.due("then(4, 0, 0)", tree.then(4, 0, 0), -1);
        check.due("then(-1, 0, 0)", tree.then(-1, 0, 0), -1);
        check.due("then(0, 0, -1)", tree.then(0, 0, -1), -1);
        check.due("then(0, 0, 2)", tree.then(0, 0, 2), -1);
        check.due("cut(-1)", tree.cut(-1), -1);
        check.due("cut(4)", tree.cut(4), -1);
        tree.join(0, false);
        check.due("cut(0), down", tree.cut(0), -1);
    }

    private static void data(SensorTree tree, int from, int to, int end, int against, int... hops) {
        String two = "(" + from + ", " + to + ", ";
        check.due("would" + two + "0)", tree.would(from, to, 0), end);
        check.due("would" + two + "1)", tree.would(from, to, 1), hops.length);
        check.due("would" + two + "2)", tree.would(from, to, 2), against);
        for (int i = 0; i < hops.length; i++) {
            check.due("hop" + two + i + ")", tree.hop(from, to, i), hops[i]);
        }
        check.due("hop" + two + hops.length + ")", tree.hop(from, to, hops.length), -1);
    }

    private static void wouldAndHop() {
        SensorTree tree = Check.of(RING);
        data(tree, 1, 0, 1, 0);
        data(tree, 0, 1, 2, 0);
        tree.ticks(20);
        data(tree, 0, 3, 0, 0, 1, 3);
        data(tree, 3, 2, 0, 0, 1, 0, 2);
        data(tree, 1, 3, 0, 0, 3);
        data(tree, 2, 1, 0, 0, 0, 1);
        tree.join(2, false);
        data(tree, 0, 3, 3, 0, 1);
        data(tree, 3, 1, 0, 0, 2, 0, 1);
        tree.undo();
        tree.power(1, false);
        tree.power(1, true);
        data(tree, 0, 3, 5, 0, 1);
        check.due("the ROUTE is there still", tree.route(0, 3, 0), 1);
        SensorTree chain = Check.of(CHAIN);
        chain.ticks(60);
        chain.cost(0, 9);
        data(chain, 1, 2, 0, 1, 2);
        data(chain, 2, 0, 4, 2, 1, 2, 1);
    }

    private static void soon() {
        check.due("soon() at first", Check.of(PAIR).soon(), 2);
        check.due("soon() of nothing heard", Check.of(PAIR + "noise 100;").soon(), -2);
        check.due("soon() of none", new SensorTree().soon(), 0);
        SensorTree tree = Check.of(CHAIN);
        int soon = tree.soon();
        for (int i = 0; i < soon; i++) {
            check.due("right() at " + i, tree.right(), 0);
            tree.ticks(1);
        }
        check.due("right() then", tree.right(), 1);
        check.due("soon() then", tree.soon(), 0);
        // with so much NOISE some are RIGHT behind 200 TICKS to the tick, some behind 202
        int at200 = 0;
        int at202 = 0;
        for (int seed = 0; seed < 900; seed++) {
            SensorTree noisy = Check.of(PAIR + "noise 99;seed " + seed + ";");
            int told = noisy.soon();
            noisy.ticks(198);
            if (noisy.right() == 0) {
                noisy.ticks(2);
                at200 += noisy.right();
                check.due("soon() of SEED " + seed, told, noisy.right() == 1 ? 200 : -2);
                int still = noisy.right();
                noisy.ticks(2);
                at202 += noisy.right() - still;
            }
        }
        check.due("some at 200", at200 > 0, true);
        check.due("some at 202", at202 > 0, true);
    }

    private static void busyAndLull() {
        SensorTree tree = Check.of(PAIR);
        // two ADVERTS, two REACHES, two ADVERTS, nothing, two ADVERTS ..; in tick 13 a REACH
        int[] due = {0, 2, 4, 6, 6, 8, 8, 10, 10, 12, 12, 14, 14, 16, 17, 19, 19};
        for (int n = 0; n < due.length; n++) {
            check.due("busy(" + n + ")", tree.busy(n), due[n]);
        }
        check.due("busy(200)", tree.busy(200), 200 + 2 + 16);
        check.due("lull(1)", tree.lull(1), 0);
        check.due("lull(3)", tree.lull(3), 0);
        check.due("lull(4)", tree.lull(4), 1);
        check.due("lull(200)", tree.lull(200), 1);
        SensorTree calm = Check.of("post r; first 8; twice 4; seed 77;");
        // it FIRES at 6 of 8, then at 9 of 16
        check.due("lull(5)", calm.lull(5), 5);
        check.due("lull(6)", calm.lull(6), 5);
        check.due("lull(16)", calm.lull(16), 10);
        check.due("lull(17)", calm.lull(17), 10);
        check.due("busy(17)", calm.busy(17), 2);
        check.due("lull(200) of none", new SensorTree().lull(200), 200);
        check.due("busy(200) of none", new SensorTree().busy(200), 0);
    }

    private static void cutAndNeeds() {
        SensorTree tree = Check.of(RING + "post d;link c d 1;");
        int[] cut = {0, 0, 0, 0, 1};
        for (int link = 0; link < cut.length; link++) {
            check.due("cut(" + link + ")", tree.cut(link), cut[link]);
        }
        // r 10, a 20, b 30, c by a 30, d 40
        int[] needs = {0, 0b00001, 0b00010, 0b00101, 0b10101};
        for (int post = 0; post < needs.length; post++) {
            check.due("needs(" + post + ")", tree.needs(post), needs[post]);
        }
        tree.join(0, false);
        check.due("cut(1), the last way", tree.cut(1), 4);
        check.due("cut(3)", tree.cut(3), 3);
        check.due("needs(1), round", tree.needs(1), 0b01110);
        tree.join(1, false);
        check.due("needs(4), cut off", tree.needs(4), 0);
        check.due("cut(4), cut off", tree.cut(4), 0);
        tree.power(4, false);
        check.due("needs(4), off", tree.needs(4), -1);
        check.due("cut(4), it off", tree.cut(4), 0);
        // two ways alike: none is needed
        SensorTree alike = Check.of("post r;post a;post b;post c;link r a 1;link r b 1;link a c 1;link b c 1;");
        check.due("needs(3), alike", alike.needs(3), 0);
        check.due("cut(2), alike", alike.cut(2), 0);
    }

    private static void spare() {
        SensorTree tree = Check.of(RING);
        check.due("spare(3) without PARENT", tree.spare(3), -1);
        tree.ticks(20);
        check.due("c by a", tree.post(3, 3), 1);
        check.due("spare(3)", tree.spare(3), 2);
        check.due("spare(1): c, which hangs on it", tree.spare(1), 3);
        check.due("spare(2)", tree.spare(2), 3);
        tree.join(3, false);
        check.due("spare(3), none", tree.spare(3), -2);
        // RISE aside
        SensorTree stiff = Check.of(RING + "rise 0;");
        stiff.ticks(20);
        check.due("spare(3) with RISE 0", stiff.spare(3), 2);
        tree.power(1, false);
        check.due("spare(1), off", tree.spare(1), -1);
    }

    private static void deepAndReached() {
        SensorTree tree = Check.of(CHAIN);
        check.due("deep() at first", tree.deep(), 0);
        check.due("reached() at first", tree.reached(), 0);
        tree.ticks(2);
        check.due("deep() of one", tree.deep(), 1);
        tree.ticks(60);
        check.due("deep()", tree.deep(), 2);
        check.due("reached()", tree.reached(), 6);
        tree.power(2, false);
        check.due("reached() of two", tree.reached(), 2);
        check.due("deep(): who is off has its PARENT still", tree.deep(), 2);
        tree.undo();
        tree.join(0, false);
        check.due("deep() in a circle", tree.deep(), 0);
        // a and b reach each other: b by its PARENT, a by its ROUTE
        check.due("reached() in a circle", tree.reached(), 2);
    }

    private static void stretch() {
        SensorTree tree = Check.of("post r;post a;post b;link r a 9;link r b 1;link a b 1;goal costs;first 2;twice 3;enough 9;apart 99;");
        check.due("stretch() at first", tree.stretch(), 0);
        tree.ticks(8);
        check.due("a stays with r", tree.post(1, 2), 100);
        check.due("stretch()", tree.stretch(), 70);
        tree.power(1, false);
        check.due("stretch() without a", tree.stretch(), 0);
        SensorTree chain = Check.of(CHAIN);
        chain.ticks(60);
        chain.cost(0, 9);
        // true are 100 and 110; they have 40 and 30
        check.due("stretch() below 0", chain.stretch(), -140);
        chain.join(0, false);
        check.due("stretch() of who is cut off", chain.stretch(), 0);
    }

    private static void then() {
        SensorTree tree = Check.of(PAIR);
        check.due("then(1, 0, 0)", tree.then(1, 0, 0), NEVER);
        check.due("then(1, 0, 1)", tree.then(1, 0, 1), -2);
        check.due("then(1, 1, 0)", tree.then(1, 1, 0), NEVER);
        check.due("then(1, 2, 0)", tree.then(1, 2, 0), 20);
        check.due("then(1, 2, 1)", tree.then(1, 2, 1), 0);
        check.due("then(1, 200, 0)", tree.then(1, 200, 0), 20);
        check.due("then(0, 200, 1)", tree.then(0, 200, 1), -2);
    }

    private static void year() {
        SensorTree tree = Check.of(PAIR);
        check.due("year(1, 10)", tree.year(1, 10), 0);
        check.due("year(2, 10)", tree.year(2, 10), 10);
        check.due("year(200, 1)", tree.year(200, 1), 1);
        check.due("year(0, 10) of none", new SensorTree().year(0, 10), 10);
        // FIRST 2, TWICE 0: FIRES are the same for all SEEDS, so a YEAR is as many texts
        String noisy = PAIR + "noise 60;";
        for (int n = 2; n <= 12; n += 2) {
            int due = 0;
            for (int s = 1; s <= 10; s++) {
                SensorTree other = Check.of(noisy + "seed " + (99 + s) + ";");
                other.ticks(n);
                due += other.right();
                check.due("year(" + n + ", " + s + ")", Check.of(noisy + "seed 100;").year(n, s), due);
            }
        }
        check.due("year() beyond the greatest SEED", Check.of(noisy + "seed 9999;").year(200, 10), 10);
    }

    private static void nothingHappens() {
        SensorTree asked = Check.of(RING + "noise 20;seed 5;first 4;twice 3;");
        SensorTree left = Check.of(RING + "noise 20;seed 5;first 4;twice 3;");
        for (int i = 0; i < 12; i++) {
            askAll(asked);
            asked.ticks(3);
            left.ticks(3);
            if (i == 7) {
                asked.join(0, false);
                left.join(0, false);
            }
            for (int what = 0; what <= 17; what++) {
                check.due("count(" + what + "), asked or not", asked.count(what), left.count(what));
            }
            for (int post = 0; post < 4; post++) {
                for (int what = 0; what <= 10; what++) {
                    check.due("post(" + post + ", " + what + ")", asked.post(post, what), left.post(post, what));
                }
            }
        }
    }

    private static void askAll(SensorTree tree) {
        tree.soon();
        tree.busy(200);
        tree.lull(200);
        tree.year(50, 10);
        tree.stretch();
        tree.deep();
        tree.reached();
        for (int post = 0; post < 4; post++) {
            tree.then(post, 30, 0);
            tree.needs(post);
            tree.spare(post);
            tree.cut(post);
            tree.would(post, 3 - post, 0);
            tree.hop(post, 3 - post, 0);
        }
    }
}

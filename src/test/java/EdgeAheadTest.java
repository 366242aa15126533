/** Part III: what would be, sentence by sentence. */
public final class EdgeAheadTest {
    private static final int NEVER = Edge.NEVER;
    private static final int NOBODY = Edge.NOBODY;
    /** All FIRE in every second tick, from tick 0 on. */
    private static final String STEADY = "first 2;twice 0;enough 9;";
    private static final String PAIR = "post r;post a;link r a 1;";
    private static final String CHAIN = "post r;post a;post b;link r a 1;link a b 1;goal costs;rise 999;";
    /** c hangs on a (30) or b (40), both on r; d on c alone. */
    private static final String RING = "post r;post a;post b;post c;post d;link r a 1;link r b 2;link a c 1;link b c 1;link c d 1;"
        + "goal costs;rise 999;";

    public static void main(String[] args) throws IllegalAccessException {
        Edge.runAll(EdgeAheadTest.class);
    }

    private static int put(SensorTree tree) {
        return tree.count(4) + tree.count(5) + tree.count(6);
    }

    static void nothingHappens() {
        Edge.says("III", "What would be (nothing happens).");
        SensorTree tree = Check.of(RING + "first 4;twice 3;noise 20;seed 5;");
        for (int round = 0; round < 5; round++) {
            String ahead = Edge.all(tree);
            askAll(tree);
            Edge.alike("what stands, asked " + round, Edge.all(tree), ahead);
            tree.ticks(17);
            tree.cost(0, 9 - round);
            tree.repair();
        }
        SensorTree left = Check.of(RING + "first 4;twice 3;noise 20;seed 5;");
        for (int round = 0; round < 5; round++) {
            left.ticks(17);
            left.cost(0, 9 - round);
            left.repair();
        }
        Edge.alike("what stands, asked or not", Edge.all(tree), Edge.all(left));
    }

    private static void askAll(SensorTree tree) {
        tree.soon();
        tree.busy(200);
        tree.lull(200);
        tree.year(60, 10);
        tree.stretch();
        tree.deep();
        tree.reached();
        tree.right();
        tree.circle();
        for (int post = 0; post < 5; post++) {
            tree.then(post, 40, 0);
            tree.then(post, 200, 1);
            tree.truth(post);
            tree.below(post);
            tree.needs(post);
            tree.spare(post);
            tree.cut(post);
            for (int to = 0; to < 5; to++) {
                tree.would(post, to, 0);
                tree.hop(post, to, 0);
            }
        }
    }

    static void trueRank() {
        Edge.says("III", "TRUE RANK of a POST that is on: the least that comes to it from the ROOT's 10 by STEPS of LINKS that are up between "
            + "POSTS that are on (none does: NEVER).");
        SensorTree tree = Check.of(RING + STEADY);
        int[] first = {10, 20, 30, 30, 40};
        for (int post = 0; post < 5; post++) {
            Edge.due("truth(" + post + ")", tree.truth(post), first[post]);
        }
        tree.join(2, false);
        Edge.due("truth(3), a LINK down", tree.truth(3), 40);
        tree.join(2, true);
        tree.power(1, false);
        Edge.due("truth(3), a POST off", tree.truth(3), 40);
        Edge.due("truth(1), off", tree.truth(1), Edge.NONE);
        tree.power(2, false);
        Edge.due("truth(3), nobody", tree.truth(3), NEVER);
        Edge.due("truth(4), nobody", tree.truth(4), NEVER);
        Edge.due("truth(0)", tree.truth(0), 10);
        // the farthest: six LINKS of 90; and the LINKS told from the far end on
        SensorTree far = Check.of("post r;post a;post b;post c;post d;post e;post f;link f e 9;link e d 9;link d c 9;link c b 9;link b a 9;"
            + "link a r 9;goal costs;");
        Edge.due("truth(6)", far.truth(6), 10 + 6 * 90);
        SensorTree hops = Check.of("post r;post a;post b;link r a 9;link a b 9;link r b 9;");
        Edge.due("truth(2) by hops", hops.truth(2), 20);
    }

    static void right() {
        Edge.says("III", "RIGHT: each POST that is on, but the ROOT, has the ROOT's VERSION, and, its TRUE RANK being less than NEVER, a PARENT "
            + "that is a NEIGHBOUR, the RANK of which and STEP is its own, by PARENTS coming to the ROOT; else RANK NEVER.");
        SensorTree tree = Check.of(CHAIN + STEADY);
        Edge.due("no PARENTS yet", tree.right(), 0);
        tree.ticks(2);
        Edge.due("b has none yet", tree.right(), 0);
        tree.ticks(2);
        Edge.due("all have", tree.right(), 1);
        tree.repair();
        Edge.due("the ROOT's VERSION is another one", tree.right(), 0);
        tree.ticks(2);
        Edge.due("b's VERSION is another one", tree.right(), 0);
        tree.ticks(2);
        Edge.due("all have it", tree.right(), 1);
        tree.cost(0, 2);
        Edge.due("a's RANK and STEP is not b's", tree.right(), 0);
        tree.undo();
        tree.cost(1, 2);
        Edge.due("b's STEP and RANK are new", tree.right(), 1);
        tree.undo();
        tree.join(0, false);
        Edge.due("a and b hang on each other", tree.right(), 0);
        tree.undo();
        tree.join(1, false);
        Edge.due("b can't, and has NEVER", tree.right(), 1);
        tree.undo();
        tree.power(2, false);
        tree.repair();
        tree.ticks(2);
        Edge.due("b is off: its VERSION counts not", tree.right(), 1);
        tree.power(2, true);
        Edge.due("b is on again", tree.right(), 0);
        // cut off with the RANK that it had: a hears nothing of it; cut off with another VERSION
        SensorTree off = Check.of("post r;post a;post b;post c;link r a 1;link a b 1;link b c 1;goal costs;rise 999;" + STEADY);
        off.ticks(12);
        off.join(0, false);
        Edge.due("they can't, but have RANKS", off.right(), 0);
        SensorTree version = Check.of("post r;post a;");
        Edge.due("a can't, and has NEVER", version.right(), 1);
        version.repair();
        Edge.due("a has not the VERSION", version.right(), 0);
        // a RANK that is not the TRUE one can be RIGHT
        SensorTree wide = Check.of("post r;post a;post b;link r b 3;link r a 1;link a b 1;goal costs;apart 99;" + STEADY);
        wide.ticks(8);
        Edge.due("b's RANK less its TRUE one", wide.post(2, 2) - wide.truth(2), 10);
        Edge.due("right()", wide.right(), 1);
    }

    static void circle() {
        Edge.says("III", "CIRCLE: POSTS that by PARENTS come to themselves.");
        SensorTree tree = Check.of("post r;post a;post b;post c;link r a 1;link a b 1;link b c 1;goal costs;rise 999;" + STEADY);
        Edge.due("circle() at first", tree.circle(), 0);
        tree.ticks(12);
        Edge.due("circle()", tree.circle(), 0);
        tree.join(0, false);
        Edge.due("c comes to the circle, not to itself", tree.circle(), 0b0110);
        // one that is off has its PARENT still
        tree.power(1, false);
        Edge.due("the PARENT of a", tree.post(1, 3), 2);
        Edge.due("b turned to c, c still hangs on b", tree.circle(), 0b1100);
    }

    static void below() {
        Edge.says("III", "BELOW a POST: those that by PARENTS come to it, itself not.");
        SensorTree tree = Check.of("post r;post a;post b;post c;link r a 1;link a b 1;link b c 1;goal costs;rise 999;" + STEADY);
        Edge.due("below(0) at first", tree.below(0), 0);
        tree.ticks(12);
        int[] due = {0b1110, 0b1100, 0b1000, 0};
        for (int post = 0; post < 4; post++) {
            Edge.due("below(" + post + ")", tree.below(post), due[post]);
        }
        tree.join(0, false);
        int[] round = {0, 0b1100, 0b1010, 0};
        for (int post = 0; post < 4; post++) {
            Edge.due("below(" + post + ") of a circle, itself not", tree.below(post), round[post]);
        }
    }

    static void soon() {
        Edge.says("III", "SOON: behind how many TICKS (0 .. 200) it is RIGHT first.");
        SensorTree tree = Check.of(CHAIN + STEADY);
        for (int left = 4; left >= 0; left--) {
            Edge.due("soon()", tree.soon(), left);
            tree.ticks(1);
        }
        Edge.due("soon() when it is RIGHT", tree.soon(), 0);
        // with NOISE 99 a hears r in the first odd tick in which the LOT is 99
        int[] seeds = {seedHearing(1), seedHearing(3), seedHearing(197), seedHearing(199), seedHearing(201)};
        int[] due = {2, 4, 198, 200, NOBODY};
        for (int i = 0; i < seeds.length; i++) {
            Edge.due("soon()", Check.of(PAIR + STEADY + "noise 99;seed " + seeds[i] + ";").soon(), due[i]);
        }
        // who can't have a RANK needs none; nothing was asked ahead of this, then a LINK went down
        SensorTree apart = Check.of("post r;post a;");
        Edge.due("soon(): a has no LINK", apart.soon(), 0);
        SensorTree cut = Check.of(PAIR + STEADY);
        cut.right();
        cut.join(0, false);
        Edge.due("soon(): the LINK is down", cut.soon(), 0);
        cut.join(0, true);
        Edge.due("soon(): the LINK is up", cut.soon(), 2);
        // first: it is RIGHT, then not, then again
        SensorTree twice = Check.of("post r;post a;post b;link r a 9;link r b 1;link a b 1;goal costs;" + STEADY);
        Edge.due("soon()", twice.soon(), 2);
        twice.ticks(2);
        Edge.due("right()", twice.right(), 1);
    }

    /** A SEED by which a first hears r in this tick, NOISE being 99. */
    private static int seedHearing(int tick) {
        for (int seed = 0; seed <= 9999; seed++) {
            int first = 1;
            while (first < tick && Edge.lot(100, seed, 1000000 + 64 * first + 1) < 99) {
                first += 2;
            }
            if (first == tick && Edge.lot(100, seed, 1000000 + 64 * tick + 1) == 99) {
                return seed;
            }
        }
        throw new IllegalStateException("no such SEED");
    }

    static void busy() {
        Edge.says("III", "BUSY of n (0 .. 200) TICKS: how many messages are put in them.");
        SensorTree tree = Check.of(RING + "first 2;twice 3;noise 10;");
        tree.ticks(9);
        tree.cost(0, 9);
        Edge.due("busy(0), though messages wait", tree.busy(0), 0);
        int ahead = put(tree);
        int[] all = {1, 2, 3, 10, 50, 199, 200};
        for (int n : all) {
            int busy = tree.busy(n);
            tree.ticks(n);
            Edge.due("busy(" + n + ")", busy, put(tree) - ahead);
            tree.undo();
        }
        // REACHES and GONES count as ADVERTS do
        SensorTree pair = Check.of(PAIR + STEADY);
        int[] due = {0, 2, 4, 6, 6, 8};
        for (int n = 0; n < due.length; n++) {
            Edge.due("busy(" + n + ")", pair.busy(n), due[n]);
        }
    }

    static void cut() {
        Edge.says("III", "CUT of a LINK that is up: how many POSTS have a TRUE RANK of less than NEVER now, and not without it.");
        SensorTree tree = Check.of(RING + STEADY);
        int[] due = {0, 0, 0, 0, 1};
        for (int link = 0; link < 5; link++) {
            Edge.due("cut(" + link + ")", tree.cut(link), due[link]);
        }
        tree.join(1, false);
        // b hangs on c now, and all on a
        int[] line = {4, Edge.NONE, 3, 1, 1};
        for (int link = 0; link < 5; link++) {
            Edge.due("cut(" + link + ") of a line", tree.cut(link), line[link]);
        }
        tree.power(1, false);
        Edge.due("cut(0), its POST off", tree.cut(0), 0);
        Edge.due("cut(4), they have none now", tree.cut(4), 0);
    }

    static void needs() {
        Edge.says("III", "NEEDS of a POST: LINKS that are up without each of which alone its TRUE RANK would be more.");
        SensorTree tree = Check.of(RING + STEADY);
        int[] due = {0, 0b00001, 0b00010, 0b00101, 0b10101};
        for (int post = 0; post < 5; post++) {
            Edge.due("needs(" + post + ")", tree.needs(post), due[post]);
        }
        // two ways alike: none is needed alone
        tree.cost(1, 1);
        Edge.due("needs(3), two ways alike", tree.needs(3), 0);
        Edge.due("needs(4), behind them", tree.needs(4), 0b10000);
        tree.join(4, false);
        Edge.due("needs(4), cut off", tree.needs(4), 0);
        // the sixteenth LINK has the highest bit
        SensorTree many = Check.of("post a;post b;post c;post d;post e;post f;post g;link b c 1;link b d 1;link b e 1;link b f 1;link c d 1;"
            + "link c e 1;link c f 1;link d e 1;link d f 1;link e f 1;link b g 1;link c g 1;link d g 1;link e g 1;link f g 1;link a g 1;");
        Edge.due("needs(6)", many.needs(6), 1 << 15);
        Edge.due("needs(1)", many.needs(1), 1 << 15 | 1 << 10);
    }

    static void spare() {
        Edge.says("III", "SPARE of a POST: the one that it would CHOOSE (RISE and RESTS aside) were the LINK to its PARENT down.");
        SensorTree tree = Check.of(RING + STEADY);
        tree.ticks(20);
        Edge.due("c by a", tree.post(3, 3), 1);
        Edge.due("spare(3)", tree.spare(3), 2);
        Edge.due("spare(1): c, though it hangs on a", tree.spare(1), 3);
        Edge.due("spare(4)", tree.spare(4), NOBODY);
        // what it would do is what it does, RISE being great enough
        for (int post = 1; post < 5; post++) {
            int spare = tree.spare(post);
            int[] parentLink = {0, 0, 1, 2, 4};
            tree.join(parentLink[post], false);
            Edge.due("the PARENT of " + post + " then", tree.post(post, 3), spare);
            tree.undo();
        }
        // RISE aside: it would be POISONED
        SensorTree stiff = Check.of(RING + "rise 0;" + STEADY);
        stiff.ticks(20);
        Edge.due("spare(3) with RISE 0", stiff.spare(3), 2);
        stiff.join(2, false);
        Edge.due("POISONED", stiff.post(3, 5), 4);
        // of alike ones the lowest number
        SensorTree fan = Check.of("post r;post a;post b;post c;post d;link r a 1;link r b 1;link r c 1;link d a 1;link d b 1;link d c 1;" + STEADY);
        fan.ticks(12);
        Edge.due("d by a", fan.post(4, 3), 1);
        Edge.due("spare(4)", fan.spare(4), 2);
    }

    static void deep() {
        Edge.says("III", "DEEP: the most PARENTS that any POST has above it, one behind the other, to the ROOT (others are not counted).");
        Edge.due("deep() without POSTS", new SensorTree().deep(), 0);
        Edge.due("deep() of a ROOT alone", Check.of("post r;").deep(), 0);
        SensorTree line = Check.of("post r;post a;post b;post c;post d;post e;post f;link r a 1;link a b 1;link b c 1;link c d 1;link d e 1;"
            + "link e f 1;goal costs;rise 999;" + STEADY);
        for (int deep = 0; deep <= 6; deep++) {
            Edge.due("deep()", line.deep(), deep);
            line.ticks(2);
        }
        line.join(2, false);
        // c turned to d, so c .. f come to no ROOT
        Edge.due("deep() of what comes to the ROOT", line.deep(), 2);
        line.join(0, false);
        Edge.due("deep() of circles alone", line.deep(), 0);
    }

    static void reached() {
        Edge.says("III", "REACHED: of all two POSTS that are on, unlike, in both orders, for how many DATA would come.");
        Edge.due("reached() without POSTS", new SensorTree().reached(), 0);
        SensorTree tree = Check.of(CHAIN + STEADY);
        Edge.due("reached() at first", tree.reached(), 0);
        tree.ticks(2);
        // a hangs on r, which has no ROUTE yet
        Edge.due("reached(): a to r", tree.reached(), 1);
        tree.ticks(1);
        Edge.due("reached(): r to a", tree.reached(), 2);
        tree.ticks(9);
        Edge.due("reached(): all", tree.reached(), 6);
        tree.power(2, false);
        Edge.due("reached() without b", tree.reached(), 2);
        tree.power(2, true);
        Edge.due("reached(): r and a to b, but not b to them", tree.reached(), 2 + 2);
    }

    static void lull() {
        Edge.says("III", "LULL of n (1 .. 200) TICKS: the most of them one behind the other in which no message is put.");
        // by SEED 77 r alone FIRES in tick 5 (6 of 8), then in tick 8 + 8 (9 of 16)
        SensorTree tree = Check.of("post r;first 8;twice 4;seed 77;");
        int[] due = {1, 2, 3, 4, 5, 5, 5, 5, 5, 5, 5, 6, 7, 8, 9, 10, 10, 10};
        for (int n = 1; n <= due.length; n++) {
            Edge.due("lull(" + n + ")", tree.lull(n), due[n - 1]);
        }
        Edge.due("lull(200) without POSTS", new SensorTree().lull(200), 200);
        Edge.due("lull(1) without POSTS", new SensorTree().lull(1), 1);
        SensorTree pair = Check.of(PAIR + STEADY);
        Edge.due("lull(3): ADVERTS, REACHES, ADVERTS", pair.lull(3), 0);
        Edge.due("lull(4)", pair.lull(4), 1);
        // the whole of it, and its end
        SensorTree slow = Check.of("post r;first 8;twice 4;seed 1;");
        slow.ticks(120);
        for (int n = 1; n <= 200; n += 7) {
            Edge.due("lull(" + n + ")", slow.lull(n), lullByHand(slow, n));
        }
        Edge.due("lull(200)", slow.lull(200), lullByHand(slow, 200));
    }

    private static int lullByHand(SensorTree tree, int n) {
        int most = 0;
        int calm = 0;
        for (int i = 0; i < n; i++) {
            calm = tree.busy(i + 1) == tree.busy(i) ? calm + 1 : 0;
            most = Math.max(most, calm);
        }
        return most;
    }

    static void stretch() {
        Edge.says("III", "STRETCH: RANKS of POSTS that are on less their TRUE ones, of those both of which are less than NEVER, added.");
        Edge.due("stretch() without POSTS", new SensorTree().stretch(), 0);
        SensorTree tree = Check.of("post r;post a;post b;post c;link r b 3;link r a 1;link a b 1;link r c 3;link a c 1;goal costs;apart 99;" + STEADY);
        Edge.due("stretch(): RANKS are NEVER", tree.stretch(), 0);
        tree.ticks(8);
        Edge.due("stretch(): b and c have 40, true are 30", tree.stretch(), 20);
        tree.power(2, false);
        Edge.due("stretch(): b is off", tree.stretch(), 10);
        tree.join(3, false);
        tree.join(4, false);
        Edge.due("stretch(): c has NEVER", tree.stretch(), 0);
        // below 0: a and b know not yet that r is farther; cut off, they have no TRUE RANK
        SensorTree chain = Check.of(CHAIN + STEADY);
        chain.ticks(8);
        chain.cost(0, 9);
        Edge.due("stretch(): 40 and 30, true are 100 and 110", chain.stretch(), -140);
        chain.join(0, false);
        Edge.due("stretch(): RANKS without TRUE ones", chain.stretch(), 0);
        Edge.due("they have RANKS", chain.post(1, 2) + chain.post(2, 2) < NEVER, true);
    }

    static void inTicks() {
        Edge.says("III", "IN n TICKS (0 .. 200): RANK, PARENT of a POST.");
        SensorTree tree = Check.of(RING + "first 2;twice 3;noise 30;seed 8;");
        tree.ticks(6);
        tree.cost(0, 9);
        int[] all = {0, 1, 2, 5, 30, 199, 200};
        for (int n : all) {
            for (int post = 0; post < 5; post++) {
                int rank = tree.then(post, n, 0);
                int parent = tree.then(post, n, 1);
                tree.ticks(n);
                Edge.due("then(" + post + ", " + n + ", 0)", rank, tree.post(post, 2));
                Edge.due("then(" + post + ", " + n + ", 1)", parent, tree.post(post, 3));
                if (n > 0) {
                    tree.undo();
                }
            }
        }
        SensorTree pair = Check.of(PAIR + STEADY);
        Edge.due("then(1, 1, 0)", pair.then(1, 1, 0), NEVER);
        Edge.due("then(1, 1, 1)", pair.then(1, 1, 1), NOBODY);
        Edge.due("then(1, 2, 0)", pair.then(1, 2, 0), 20);
        Edge.due("then(1, 2, 1)", pair.then(1, 2, 1), 0);
    }

    static void year() {
        Edge.says("III", "YEAR by s SEEDS (1 .. 10) from the text's SEED on, each from what stands now (FIRES as they stand), with the LOTS of "
            + "that SEED: in how many of them it is RIGHT in n TICKS (0 .. 200).");
        // FIRST 2: at tick 0 all FIRE at 1 by any SEED, so a YEAR is as many texts
        String text = RING + "first 2;twice 3;enough 1;noise 55;seed ";
        int[] ticks = {0, 4, 8, 12, 20, 40, 200};
        for (int n : ticks) {
            SensorTree tree = Check.of(text + "500;");
            int due = 0;
            for (int s = 1; s <= 10; s++) {
                SensorTree other = Check.of(text + (499 + s) + ";");
                other.ticks(n);
                due += other.right();
                Edge.due("year(" + n + ", " + s + ")", tree.year(n, s), due);
            }
        }
        // FIRES as they stand: a hears r when r FIRED, by all SEEDS alike
        for (int seed = 0; seed < 20; seed++) {
            SensorTree tree = Check.of(PAIR + "first 8;twice 0;seed " + seed + ";");
            int fires = tree.post(0, 10);
            Edge.due("year(" + fires + ", 10)", tree.year(fires, 10), 0);
            Edge.due("year(" + (fires + 1) + ", 10)", tree.year(fires + 1, 10), 10);
        }
        // beyond the greatest SEED that can be told; and without POSTS all are RIGHT
        Edge.due("year(1, 10) of SEED 9999", Check.of(PAIR + STEADY + "seed 9999;").year(1, 10), 0);
        Edge.due("year(2, 10) of SEED 9999", Check.of(PAIR + STEADY + "seed 9999;").year(2, 10), 10);
        Edge.due("year(200, 10) without POSTS", new SensorTree().year(200, 10), 10);
        Edge.due("year(0, 3): a has no LINK", Check.of("post r;post a;").year(0, 3), 3);
        // the SEED of what goes on, or is asked then, stays the text's
        for (int seed = 500; seed < 520; seed++) {
            SensorTree asked = Check.of(text + seed + ";");
            int soon = asked.soon();
            int lull = asked.lull(200);
            int busy = asked.busy(200);
            asked.year(200, 10);
            Edge.due("soon() behind year()", asked.soon(), soon);
            asked.year(200, 10);
            Edge.due("lull(200) behind year()", asked.lull(200), lull);
            asked.year(200, 10);
            Edge.due("busy(200) behind year()", asked.busy(200), busy);
        }
        SensorTree after = Check.of(text + "500;");
        after.year(200, 10);
        after.ticks(30);
        SensorTree left = Check.of(text + "500;");
        left.ticks(30);
        Edge.alike("what goes on", Edge.all(after), Edge.all(left));
    }
}

/** Part II up to where a POST CHOOSES: what each POST has, TIMERS, LOTS, a TICK, ADVERTS; sentence by sentence. */
public final class EdgeTickTest {
    private static final int NEVER = Edge.NEVER;
    private static final int NOBODY = Edge.NOBODY;
    /** All FIRE in every second tick, from tick 0 on; what is put then comes in the ticks 1, 3, 5 .. */
    private static final String STEADY = "first 2;twice 0;enough 9;";
    private static final String PAIR = "post r;post a;link r a 1;";
    private static final String CHAIN = "post r;post a;post b;link r a 1;link a b 1;goal costs;";
    private static final int LONG = 7;
    private static final int FAR = 8;
    private static final int HEARD = 9;
    private static final int FIRES = 10;

    public static void main(String[] args) throws IllegalAccessException {
        Edge.runAll(EdgeTickTest.class);
    }

    private static void timer(SensorTree tree, int post, int timerLong, int far, int heard, int fires) {
        Edge.post(tree, post, LONG, timerLong);
        Edge.post(tree, post, FAR, far);
        Edge.post(tree, post, HEARD, heard);
        Edge.post(tree, post, FIRES, fires);
    }

    /** The least SEED, from one on, by which LOT n of it and a which is this. */
    private static int seedWith(int from, int n, int which, int want) {
        int seed = from;
        while (Edge.lot(n, seed, which) != want) {
            seed++;
        }
        return seed;
    }

    // ---- what each POST has

    static void neverIs9999() {
        Edge.says("II", "NEVER is 9,999.");
        SensorTree tree = Check.of("post r;post a;");
        Edge.due("RANK", tree.post(1, 2), 9999);
        Edge.due("LOWEST", tree.post(1, 4), 9999);
        Edge.due("HEARD", tree.heard(1, 0), 9999);
        Edge.due("TRUE RANK", tree.truth(1), 9999);
    }

    static void eachPostAtFirst() {
        Edge.says("II", "Each POST has: on or not; a VERSION (0 at first), a RANK (the ROOT 10, others NEVER), a PARENT or none, "
            + "the LOWEST (least RANK since it took its VERSION or rested; NEVER), of each other one the RANK it HEARD (NEVER); "
            + "a TIMER; ROUTES: for each other POST the one to which it goes on down, with a SEQUENCE; its own SEQUENCE (0), "
            + "how long it RESTS (0).");
        SensorTree tree = Check.of("post r;post a;post b;post c;post d;post e;post f;link r a 1;link f a 1;");
        for (int post = 0; post < 7; post++) {
            int[] first = {1, 0, post == 0 ? 10 : NEVER, NOBODY, NEVER, 0, 0};
            for (int what = 0; what < first.length; what++) {
                Edge.post(tree, post, what, first[what]);
            }
            for (int other = 0; other < 7; other++) {
                int none = other == post ? Edge.NONE : NOBODY;
                Edge.due("heard(" + post + ", " + other + ")", tree.heard(post, other), other == post ? Edge.NONE : NEVER);
                Edge.route(tree, post, other, none);
                Edge.due("route(.., 1)", tree.route(post, other, 1), none);
            }
        }
        // the LOWEST: the least since it began, since its VERSION, since it rested
        SensorTree low = Check.of(PAIR + "goal costs;rise 30;rest 1;" + STEADY);
        low.ticks(4);
        low.cost(0, 4);
        Edge.due("LOWEST since it began", low.post(1, 4), 20);
        low.repair();
        low.ticks(4);
        Edge.due("LOWEST since it took its VERSION", low.post(1, 4), 50);
        low.cost(0, 9);
        low.ticks(1);
        Edge.due("LOWEST since it rested", low.post(1, 4), 100);
    }

    static void neighbours() {
        Edge.says("II", "NEIGHBOURS: with a LINK that is up, both on.");
        SensorTree tree = Check.of(CHAIN + STEADY);
        int[][] due = {{2, 5, 2}, {0, 4, 2}, {0, 0, 0}, {0, 0, 0}, {0, 4, 2}, {2, 5, 2}};
        neighbours(tree, due[0]);
        tree.join(0, false);
        neighbours(tree, due[1]);
        tree.power(1, false);
        neighbours(tree, due[2]);
        tree.power(2, false);
        tree.power(1, true);
        neighbours(tree, due[3]);
        tree.power(2, true);
        neighbours(tree, due[4]);
        tree.join(0, true);
        neighbours(tree, due[5]);
    }

    private static void neighbours(SensorTree tree, int[] due) {
        for (int post = 0; post < due.length; post++) {
            Edge.due("neighbours(" + post + ")", tree.neighbours(post), due[post]);
        }
    }

    static void steps() {
        Edge.says("II", "STEP of a LINK: 10 (hops), 10 times its COST (costs).");
        for (int cost = 1; cost <= 9; cost++) {
            String text = "post r;post a;link r a " + cost + ";" + STEADY;
            SensorTree hops = Check.of(text);
            SensorTree costs = Check.of(text + "goal costs;");
            Edge.due("link(0, 4) by hops", hops.link(0, 4), 10);
            Edge.due("link(0, 4) by costs", costs.link(0, 4), 10 * cost);
            hops.ticks(2);
            costs.ticks(2);
            Edge.due("RANK by hops", hops.post(1, 2), 20);
            Edge.due("RANK by costs", costs.post(1, 2), 10 + 10 * cost);
        }
    }

    // ---- TIMERS and LOTS

    static void timerAtFirst() {
        Edge.says("II", "A TIMER: LONG (FIRST at first), how far it is (0), how many it HEARD (0), when it FIRES: half of LONG and "
            + "LOT half of LONG of the SEED and 8 times the tick and the POST's number.");
        int[] seeds = {0, 1, 77, 229, 4096, 9999};
        for (int first = 2; first <= 8; first += 2) {
            for (int seed : seeds) {
                SensorTree tree = Check.of("post r;post a;post b;post c;post d;post e;post f;first " + first + ";twice 4;seed "
                    + seed + ";");
                for (int post = 0; post < 7; post++) {
                    timer(tree, post, first, 0, 0, Edge.fires(first, seed, 0, post));
                }
                int timerLong = first;
                for (int doubled = 1; doubled <= 4; doubled++) {
                    tree.ticks(timerLong);
                    timerLong *= 2;
                    for (int post = 0; post < 7; post++) {
                        timer(tree, post, timerLong, 0, 0, Edge.fires(timerLong, seed, tree.count(2) - 1, post));
                    }
                }
            }
        }
    }

    static void beginsAnew() {
        Edge.says("II", "It BEGINS ANEW: LONG is FIRST, the others as at first, FIRES of now;");
        SensorTree tree = Check.of(PAIR + "first 8;twice 2;enough 9;seed 3;");
        Edge.until(tree, () -> tree.post(0, LONG) == 32 && tree.post(0, HEARD) > 0);
        Edge.due("how far it is", tree.post(0, FAR) > 0, true);
        tree.repair();
        timer(tree, 0, 8, 0, 0, Edge.fires(8, 3, tree.count(2), 0));
    }

    static void anewIfLongIsFirst() {
        Edge.says("II", "but if LONG is FIRST already nothing happens.");
        // a FIRES at 4, so its ADVERT comes in tick 4: r HEARD one, as a's RANK is NEVER, what r HEARD of it at first
        int seed = seedWith(0, 4, 1, 0);
        SensorTree tree = Check.of(PAIR + "first 8;twice 2;enough 9;seed " + seed + ";");
        tree.ticks(5);
        int fires = tree.post(0, FIRES);
        timer(tree, 0, 8, 5, 1, fires);
        tree.repair();
        timer(tree, 0, 8, 5, 1, fires);
        Edge.due("the VERSION is another one", tree.post(0, 1), 1);
    }

    static void lotWraps() {
        Edge.says("II", "LOT n of a SEED and a which: h is the SEED; for each of 229, which: h becomes (h and it, each bit of which is "
            + "in just one) times 1103515245 and 12345 more, then h and h moved 15 bits down (zeros come in), likewise; the rest "
            + "of h, moved 1 bit down likewise, by n (32 bits that wrap).");
        // by hand: LOT 4 of 77 and 0, 1, 2 are 2, 2, 3; LOT 8 of 77 and 56 is 1; LOT 100 of 0 and 1,000,065 is 23
        SensorTree known = Check.of("post r;post a;post b;first 8;seed 77;");
        Edge.post(known, 0, FIRES, 4 + 2);
        Edge.post(known, 1, FIRES, 4 + 2);
        Edge.post(known, 2, FIRES, 4 + 3);
        known.ticks(8);
        Edge.post(known, 0, FIRES, 8 + 1);
        Edge.due("the tests' own LOT", Edge.lot(100, 0, 1000065), 23);
        for (int seed = 0; seed <= 9999; seed += 101) {
            SensorTree tree = Check.of("post r;post a;post b;post c;first 6;twice 4;seed " + seed + ";");
            for (int post = 0; post < 4; post++) {
                Edge.post(tree, post, FIRES, 3 + Edge.lot(3, seed, post));
            }
            // LONG 6, 12, 24, 48, then 96 for good: the TIMER ends in the ticks 89, 185, 281 ..
            tree.ticks(90);
            for (int tick = 89; tick < 1000; tick += 96) {
                Edge.post(tree, 3, FIRES, 48 + Edge.lot(48, seed, 8 * tick + 3));
                tree.ticks(96);
            }
        }
    }

    // ---- a TICK: messages

    static void messagesComeInTheNextTick() {
        Edge.says("II", "A TICK: (1) Messages that were put in the tick ahead (or by hand behind it) COME, in the order in which they "
            + "were put;");
        SensorTree tree = Check.of(PAIR + STEADY);
        tree.ticks(1);
        Edge.count(tree, 3, 2);
        Edge.due("nothing came yet", tree.heard(1, 0), NEVER);
        tree.ticks(1);
        Edge.due("it came", tree.heard(1, 0), 10);
        Edge.count(tree, 3, 2);
        Edge.route(tree, 0, 1, NOBODY);
        tree.ticks(1);
        Edge.route(tree, 0, 1, 1);
        // d, the POST 3, CHOOSES in tick 3 and REPORTS in it: REACHES of 1, then of 2; both are taken and put on
        SensorTree order = Check.of("post r;post a;post x;post d;link r a 1;link a d 1;" + STEADY);
        order.ticks(4);
        Edge.post(order, 3, 6, 2);
        int reaches = order.count(5);
        order.ticks(1);
        Edge.due("both were put on", order.count(5), reaches + 2);
        Edge.due("the SEQUENCE", order.route(1, 3, 1), 2);
        // put in the tick: a REACH of b to a; by hand behind it: the GONE of the same SEQUENCE, which so comes later
        SensorTree hand = Check.of("post r;post a;post b;link r a 1;link r b 9;link a b 1;goal costs;rise 999;" + STEADY);
        hand.ticks(15);
        Edge.due("b REPORTED in tick 14", hand.post(2, 6), hand.route(1, 2, 1) + 1);
        hand.cost(1, 1);
        Edge.route(hand, 1, 2, 2);
        hand.ticks(1);
        Edge.route(hand, 1, 2, NOBODY);
    }

    static void advertToEachByNumber() {
        Edge.says("II", "an ADVERT to each NEIGHBOUR by number;");
        // k hangs on n, n on r; d hangs on k. One ADVERT of m makes first k, then n hang on m, each with its ROUTE to d
        SensorTree tree = Check.of("post r;post m;post k;post n;post d;link r m 9;link m k 1;link m n 1;link k n 1;link r n 5;"
            + "link k d 1;goal costs;rise 999;fresh 60;" + STEADY);
        tree.join(1, false);
        tree.join(2, false);
        tree.ticks(60);
        Edge.due("k by n", tree.post(2, 3), 3);
        Edge.due("n by r", tree.post(3, 3), 0);
        Edge.due("the SEQUENCES are alike", tree.route(2, 4, 1), tree.route(3, 4, 1));
        tree.cost(0, 1);
        tree.join(1, true);
        tree.join(2, true);
        Edge.until(tree, () -> tree.post(2, 3) == 1);
        Edge.due("n by m in the same tick", tree.post(3, 3), 1);
        Edge.route(tree, 1, 4, NOBODY);
        tree.ticks(1);
        Edge.due("the last REACH was n's", tree.route(1, 4, 0), 3);
        // one that is no NEIGHBOUR hears nothing, one that is behind it does
        SensorTree star = Check.of("post r;post a;post b;post c;link r c 1;link r a 1;" + STEADY);
        star.ticks(2);
        Edge.due("a HEARD", star.heard(1, 0), 10);
        Edge.due("b HEARD", star.heard(2, 0), NEVER);
        Edge.due("c HEARD", star.heard(3, 0), 10);
    }

    static void lostByNoise() {
        Edge.says("II", "each is lost, on its way from a to b, if these are no NEIGHBOURS, or LOT 100 of the SEED and 1,000,000 and 64 "
            + "times the tick and 8 times a and b is less than NOISE.");
        for (int seed = 0; seed < 40; seed++) {
            int lot = Edge.lot(100, seed, 1000000 + 64 + 1);
            Edge.due("r to a in tick 1, NOISE as the LOT", noisy(seed, lot, 2).heard(1, 0), 10);
            Edge.due("r to a in tick 1, NOISE one more", noisy(seed, lot + 1, 2).heard(1, 0), NEVER);
            // from b, which is the POST 2 here, to r: 8 times 2; in tick 3
            int other = Edge.lot(100, seed, 1000000 + 64 * 3 + 8 * 2);
            int ahead = Edge.lot(100, seed, 1000000 + 64 + 2);
            if (other < ahead) {
                Edge.due("b to r in tick 3, NOISE as the LOT", noisy(seed, other, 4).heard(0, 2), 20);
                Edge.due("b to r in tick 3, NOISE one more", noisy(seed, other + 1, 4).heard(0, 2), NEVER);
            }
        }
        // REACHES, too: from a to r in tick 2
        int seed = 0;
        while (Edge.lot(100, seed, 1000064 + 1) <= Edge.lot(100, seed, 1000128 + 8)) {
            seed++;
        }
        int lot = Edge.lot(100, seed, 1000128 + 8);
        Edge.route(noisy(seed, lot, 3), 0, 1, 1);
        Edge.route(noisy(seed, lot + 1, 3), 0, 1, NOBODY);
    }

    private static SensorTree noisy(int seed, int noise, int ticks) {
        SensorTree tree = Check.of("post r;post a;post b;link r a 1;link r b 1;" + STEADY + "seed " + seed + ";noise " + noise + ";");
        tree.ticks(ticks);
        return tree;
    }

    static void lostWithoutNeighbours() {
        Edge.says("II", "each is lost, on its way from a to b, if these are no NEIGHBOURS,");
        SensorTree down = Check.of(PAIR + STEADY);
        down.ticks(2);
        Edge.count(down, 3, 2);
        down.join(0, false);
        Edge.due("two REACHES and a GONE wait", down.count(3), 3);
        down.ticks(1);
        Edge.count(down, 13, 3);
        Edge.route(down, 0, 1, NOBODY);
        // an ADVERT goes to NEIGHBOURS alone: to one that is none any more nothing is sent, so nothing is lost
        SensorTree advert = Check.of(PAIR + STEADY);
        advert.ticks(1);
        advert.join(0, false);
        advert.ticks(1);
        Edge.count(advert, 13, 0);
        Edge.due("heard(1, 0)", advert.heard(1, 0), NEVER);
        // one that was off when it was put, and is on when it comes, hears it
        SensorTree back = Check.of(PAIR + STEADY);
        back.power(1, false);
        back.ticks(1);
        back.power(1, true);
        back.ticks(1);
        Edge.due("heard(1, 0)", back.heard(1, 0), 10);
        // from one that is off nothing comes, to one that is off neither
        SensorTree off = Check.of(CHAIN + "rise 999;" + STEADY);
        off.ticks(4);
        Edge.due("REACHES of b wait", off.count(3) > 0, true);
        off.power(1, false);
        int waiting = off.count(3);
        off.ticks(1);
        Edge.due("all that waited was from or to a", off.count(13), waiting);
    }

    // ---- a TICK: each POST

    static void whoRests() {
        Edge.says("II", "(2) POSTS that are on, by number: who RESTS does so one less (at 0 it CHOOSES);");
        SensorTree tree = Check.of(PAIR + "goal costs;rise 0;rest 3;" + STEADY);
        tree.ticks(4);
        tree.cost(0, 9);
        for (int left = 3; left > 0; left--) {
            Edge.post(tree, 1, 5, left);
            Edge.post(tree, 1, 3, NOBODY);
            tree.ticks(1);
        }
        Edge.post(tree, 1, 5, 0);
        Edge.post(tree, 1, 3, 0);
        Edge.post(tree, 1, 2, 100);
        tree.ticks(1);
        Edge.post(tree, 1, 5, 0);
        // one that is off RESTS as it did
        tree.cost(0, 1);
        tree.cost(0, 9);
        tree.ticks(1);
        tree.power(1, false);
        tree.ticks(5);
        Edge.post(tree, 1, 5, 2);
        // by number: of the ADVERTS put in one tick a's comes first, so d takes 40 by it and stays, 30 by b being APART less
        SensorTree order = Check.of("post r;post a;post b;post d;link r a 1;link r b 1;link a d 2;link b d 1;goal costs;apart 10;"
            + STEADY);
        order.join(2, false);
        order.join(3, false);
        order.ticks(4);
        order.join(2, true);
        order.join(3, true);
        order.ticks(2);
        Edge.due("d HEARD a", order.heard(3, 1), 20);
        Edge.due("d HEARD b", order.heard(3, 2), 20);
        Edge.post(order, 3, 3, 1);
    }

    static void restEndsAheadOfTheTimer() {
        Edge.says("II", "then its TIMER is one farther;");
        SensorTree tree = Check.of(PAIR + "goal costs;rise 0;rest 20;first 2;twice 4;enough 9;");
        tree.ticks(4);
        tree.cost(0, 9);
        tree.ticks(19);
        Edge.post(tree, 1, 5, 1);
        Edge.due("LONG has grown", tree.post(1, LONG) > 2, true);
        int ahead = tree.post(1, FAR);
        int adverts = tree.count(4);
        Edge.due("how far it is", ahead > 0, true);
        tree.ticks(1);
        // it CHOSE, its RANK is another one, so its TIMER began anew, went one farther and FIRED
        timer(tree, 1, 2, 1, 0, 1);
        Edge.due("ADVERTS", tree.count(4) > adverts, true);
        // one farther in every tick, of every POST that is on
        SensorTree two = Check.of("post r;post a;post b;first 8;twice 4;");
        two.power(2, false);
        for (int far = 1; far < 8; far++) {
            two.ticks(1);
            Edge.post(two, 0, FAR, far);
            Edge.post(two, 1, FAR, far);
            Edge.post(two, 2, FAR, 0);
        }
    }

    static void firesUnlessEnough() {
        Edge.says("II", "if it is where it FIRES and HEARD less than ENOUGH, an ADVERT is put (VERSION, RANK);");
        // by SEED 9 r FIRES at 2 and a at 3, in the first round and in the second; a HEARD one then
        String text = PAIR + "first 4;twice 0;seed 9;enough ";
        SensorTree one = Check.of(text + "1;");
        SensorTree two = Check.of(text + "2;");
        one.ticks(6);
        two.ticks(6);
        Edge.due("put till then", one.count(4), 3);
        one.ticks(1);
        two.ticks(1);
        Edge.post(one, 1, HEARD, 1);
        Edge.post(one, 1, FAR, one.post(1, FIRES));
        Edge.due("ENOUGH 1: not put", one.count(4), 3);
        Edge.due("ENOUGH 1: spared", one.count(14), 1);
        Edge.due("ENOUGH 2: put", two.count(4), 4);
        Edge.due("ENOUGH 2: not spared", two.count(14), 0);
        // it tells the VERSION and the RANK of when it was put
        SensorTree old = Check.of(PAIR + "goal costs;" + STEADY);
        old.ticks(5);
        old.cost(0, 3);
        old.repair();
        old.ticks(1);
        Edge.due("the RANK of then", old.heard(0, 1), 20);
        Edge.due("the VERSION of then", old.post(1, 1), 0);
        old.ticks(2);
        Edge.due("VERSION", old.post(1, 1), 1);
    }

    static void longIsDoubled() {
        Edge.says("II", "if it is LONG: LONG is doubled, if it was FIRST doubled fewer than TWICE times, it is at 0, HEARD 0, FIRES of "
            + "this tick.");
        for (int twice = 0; twice <= 4; twice++) {
            SensorTree tree = Check.of("post r;first 4;seed 5;twice " + twice + ";");
            int timerLong = 4;
            for (int round = 0; round < 6; round++) {
                tree.ticks(timerLong - 1);
                Edge.post(tree, 0, FAR, timerLong - 1);
                Edge.post(tree, 0, LONG, timerLong);
                tree.ticks(1);
                timerLong = round < twice ? 2 * timerLong : timerLong;
                timer(tree, 0, timerLong, 0, 0, Edge.fires(timerLong, 5, tree.count(2) - 1, 0));
            }
        }
        SensorTree heard = Check.of(PAIR + "first 8;twice 0;enough 9;");
        Edge.until(heard, () -> heard.post(0, FAR) == 7 && heard.post(0, HEARD) == 1);
        heard.ticks(1);
        timer(heard, 0, 8, 0, 0, Edge.fires(8, 0, heard.count(2) - 1, 0));
    }

    static void reports() {
        Edge.says("II", "(3) POSTS on, by number, with a PARENT: if the rest of the tick by FRESH is that of its number by FRESH it "
            + "REPORTS: its SEQUENCE is one more, a REACH of itself is put to its PARENT.");
        String star = "post r;post a;post b;post c;post d;post e;post f;link r a 1;link r b 1;link r c 1;link r d 1;link r e 1;";
        int[] all = {2, 3, 5, 6, 7, 12};
        for (int fresh : all) {
            SensorTree tree = Check.of(star + "first 8;twice 4;fresh " + fresh + ";");
            tree.ticks(20);
            tree.power(5, false);
            for (int tick = 20; tick < 50; tick++) {
                reportsOf(tree, tick, fresh);
            }
        }
    }

    static void reportsBehindTheTimers() {
        Edge.says("II", "(3) POSTS on, by number, with a PARENT:");
        // a rested in tick 5 and CHOOSES, which makes it REPORT; then, having a PARENT, it REPORTS as 5 has the rest 1 by 2
        SensorTree rests = Check.of(PAIR + "goal costs;rise 0;rest 2;fresh 2;" + STEADY);
        rests.ticks(4);
        rests.cost(0, 9);
        rests.ticks(1);
        int sequence = rests.post(1, 6);
        rests.ticks(1);
        Edge.post(rests, 1, 5, 0);
        Edge.post(rests, 1, 6, sequence + 2);
        // x and f REPORT in one tick, but 199 messages are put on ahead of them: there is room for x's, the lower number's, alone
        SensorTree full = Check.of("post r;post x;post y;post a;post c;post d;post f;link r x 1;link r y 1;link x a 1;link y a 2;link r c 1;"
            + "link x d 1;link r f 1;goal costs;rise 999;apart 0;fresh 5;first 8;twice 4;");
        full.ticks(40);
        // d's REPORT of the tick ahead waits and will be put on by x; nobody FIRES in the next tick
        Edge.until(full, () -> full.count(2) % 5 == 1 && full.count(3) == 1 && nobodyFires(full));
        for (int i = 0; i < 99; i++) {
            full.cost(2, i % 2 == 0 ? 9 : 1);
        }
        Edge.count(full, 3, 199);
        int adverts = full.count(4);
        int ofX = full.post(1, 6);
        int ofF = full.post(6, 6);
        full.ticks(1);
        Edge.count(full, 4, adverts);
        Edge.count(full, 3, 200);
        Edge.post(full, 1, 6, ofX + 1);
        Edge.post(full, 6, 6, ofF + 1);
        full.ticks(1);
        Edge.due("x's REPORT came", full.route(0, 1, 1), ofX + 1);
        Edge.due("f's was not put", full.route(0, 6, 1), ofF);
    }

    private static boolean nobodyFires(SensorTree tree) {
        boolean nobody = true;
        for (int post = 0; post < tree.count(0); post++) {
            nobody &= tree.post(post, FAR) + 1 != tree.post(post, FIRES);
        }
        return nobody;
    }

    /** Of the POSTS 1 .. 6 the fifth is off and the sixth has no LINK, so no PARENT. */
    private static void reportsOf(SensorTree tree, int tick, int fresh) {
        int[] ahead = new int[7];
        for (int post = 0; post < 7; post++) {
            ahead[post] = tree.post(post, 6);
        }
        int reaches = tree.count(5);
        tree.ticks(1);
        int put = 0;
        for (int post = 0; post < 7; post++) {
            boolean due = post >= 1 && post <= 4 && tick % fresh == post % fresh;
            put += due ? 1 : 0;
            String call = "SEQUENCE of " + post + " in tick " + tick + " with FRESH " + fresh;
            Edge.due(call, tree.post(post, 6) - ahead[post], due ? 1 : 0);
        }
        Edge.due("REACHES put in tick " + tick, tree.count(5) - reaches, put);
    }

    static void nextTick() {
        Edge.says("II", "It is the next tick.");
        SensorTree tree = Check.of(PAIR);
        for (int tick = 1; tick <= 5; tick++) {
            Edge.due("ticks(1)", tree.ticks(1), tick);
            Edge.count(tree, 2, tick);
        }
        Edge.due("ticks(200)", tree.ticks(200), 205);
    }

    // ---- ADVERTS

    static void advertOfLesserVersion() {
        Edge.says("II", "An ADVERT comes from m to n (to the ROOT, too): of a lesser VERSION than n's: its TIMER BEGINS ANEW.");
        // r has another VERSION while a is cut off; then a's old ADVERT comes
        SensorTree tree = Check.of(PAIR + "first 2;twice 3;enough 9;");
        tree.ticks(30);
        tree.join(0, false);
        tree.repair();
        Edge.until(tree, () -> tree.post(0, LONG) == 16 && tree.post(1, FAR) == tree.post(1, FIRES)
            && tree.post(0, FAR) != tree.post(0, FIRES) && tree.post(0, FAR) > 3);
        tree.join(0, true);
        Edge.due("what r HEARD of a", tree.heard(0, 1), 20);
        tree.ticks(1);
        timer(tree, 0, 2, 1, 0, 1);
        Edge.due("what r HEARD of a, still", tree.heard(0, 1), 20);
        Edge.post(tree, 0, 1, 1);
        // the same of one that is not the ROOT: b's old ADVERT comes to a
        SensorTree three = Check.of(CHAIN + "first 2;twice 3;enough 9;");
        three.ticks(30);
        three.join(1, false);
        three.repair();
        three.ticks(30);
        Edge.until(three, () -> three.post(1, LONG) == 16 && three.post(2, FAR) == three.post(2, FIRES)
            && three.post(1, FAR) != three.post(1, FIRES) && three.post(1, FAR) > 3 && three.count(3) == 1);
        three.join(1, true);
        three.ticks(1);
        timer(three, 1, 2, 1, 0, 1);
        Edge.due("what a HEARD of b: forgotten, not heard anew", three.heard(1, 2), NEVER);
        Edge.post(three, 1, 1, 1);
        Edge.post(three, 1, 2, 20);
    }

    static void advertOfGreaterVersion() {
        Edge.says("II", "Of a greater one: n takes it, forgets the RANKS that it HEARD (all NEVER), its LOWEST is NEVER (PARENT and RANK "
            + "stay till it CHOOSES);");
        SensorTree tree = Check.of(CHAIN + "rise 30;apart 99;" + STEADY);
        tree.ticks(12);
        tree.cost(0, 4);
        Edge.post(tree, 1, 4, 20);
        Edge.due("a HEARD b", tree.heard(1, 2), 30);
        tree.repair();
        tree.repair();
        int sequence = tree.post(1, 6);
        int gones = tree.count(6);
        Edge.until(tree, () -> tree.post(1, 1) > 0);
        Edge.due("the VERSION, two greater", tree.post(1, 1), 2);
        Edge.due("a HEARD r", tree.heard(1, 0), 10);
        Edge.due("a HEARD b: forgotten", tree.heard(1, 2), NEVER);
        Edge.due("LOWEST, as it CHOSE behind it", tree.post(1, 4), 50);
        // PARENT and RANK stayed, so when it CHOSE nothing was another one
        Edge.post(tree, 1, 3, 0);
        Edge.post(tree, 1, 2, 50);
        Edge.due("no GONE", tree.count(6), gones);
        Edge.due("no REPORT but that of the tick", tree.post(1, 6) - sequence, (tree.count(2) - 1) % 12 == 1 ? 1 : 0);
        // who RESTS takes it, too, and CHOOSES when it rested
        SensorTree rests = Check.of(PAIR + "goal costs;rise 0;rest 9;" + STEADY);
        rests.ticks(4);
        rests.cost(0, 2);
        rests.repair();
        rests.ticks(4);
        Edge.post(rests, 1, 5, 5);
        Edge.post(rests, 1, 1, 1);
        Edge.post(rests, 1, 2, NEVER);
        Edge.post(rests, 1, 4, NEVER);
        Edge.due("heard(1, 0)", rests.heard(1, 0), 10);
    }

    static void advertOfSameVersion() {
        Edge.says("II", "then as of the same: if m's RANK is what n HEARD of it already, it HEARD one more, else its TIMER BEGINS ANEW; it "
            + "HEARD that RANK of m. Then n CHOOSES.");
        // r's ADVERTS are alike from the second on; a's TIMER is long enough to see it
        SensorTree tree = Check.of(PAIR + "first 2;twice 4;enough 9;");
        Edge.until(tree, () -> tree.post(1, LONG) == 32 && tree.post(1, HEARD) == 1);
        int far = tree.post(1, FAR);
        tree.ticks(1);
        Edge.post(tree, 1, FAR, far + 1);
        Edge.post(tree, 1, LONG, 32);
        // another RANK: it begins anew, is HEARD, and is not counted
        SensorTree other = Check.of(CHAIN + "rise 999;first 2;twice 3;enough 9;");
        Edge.until(other, () -> other.post(2, LONG) == 16 && other.post(2, FAR) > 3);
        other.cost(0, 3);
        Edge.until(other, () -> other.heard(2, 1) == 40);
        timer(other, 2, 2, 1, 0, 1);
        Edge.due("it CHOSE in that tick", other.post(2, 2), 50);
        // the TIMER begins anew though nothing else comes of it: the ROOT hears a's RANK, b hears what is no PARENT to it
        SensorTree root = Check.of(PAIR + "goal costs;first 2;twice 3;enough 9;");
        Edge.until(root, () -> root.post(0, LONG) == 16 && root.post(0, FAR) > 3 && root.post(0, FAR) < 10);
        root.cost(0, 3);
        Edge.until(root, () -> root.heard(0, 1) == 40);
        timer(root, 0, 2, 1, 0, 1);
        SensorTree aside = Check.of("post r;post a;post b;link r a 1;link r b 1;link a b 9;goal costs;rise 999;apart 99;first 2;twice 3;enough 9;");
        Edge.until(aside, () -> aside.post(2, LONG) == 16 && aside.post(2, FAR) > 3 && aside.post(2, FAR) < 10);
        aside.cost(0, 3);
        Edge.until(aside, () -> aside.heard(2, 1) == 40);
        Edge.post(aside, 2, 2, 20);
        timer(aside, 2, 2, 1, 0, 1);
        // of a greater VERSION likewise: what it HEARD is NEVER then, so an ADVERT of NEVER is alike and counted
        SensorTree poison = Check.of(CHAIN + "rise 0;rest 20;first 2;twice 1;enough 9;");
        poison.ticks(40);
        poison.join(1, false);
        poison.power(2, false);
        poison.power(2, true);
        poison.repair();
        Edge.until(poison, () -> poison.post(1, 1) == 1);
        poison.cost(0, 2);
        poison.ticks(1);
        Edge.until(poison, () -> poison.post(2, LONG) == 4 && poison.post(2, FAR) < 3
            && poison.post(1, FAR) == poison.post(1, FIRES));
        Edge.post(poison, 1, 2, NEVER);
        poison.join(1, true);
        poison.ticks(1);
        Edge.post(poison, 2, 1, 1);
        Edge.post(poison, 2, HEARD, 1);
        Edge.post(poison, 2, LONG, 4);
    }

    // ---- a POST CHOOSES

    static void whoChoosesNot() {
        Edge.says("II", "n CHOOSES (not the ROOT, not one that is off, nor one that RESTS):");
        SensorTree tree = Check.of(CHAIN + "rise 0;rest 5;" + STEADY);
        tree.ticks(12);
        Edge.due("r HEARD a", tree.heard(0, 1), 20);
        tree.join(1, false);
        tree.join(1, true);
        Edge.post(tree, 0, 2, 10);
        Edge.post(tree, 0, 3, NOBODY);
        Edge.post(tree, 0, 4, NEVER);
        tree.power(1, false);
        tree.join(0, false);
        Edge.due("the PARENT of a, which is off", tree.post(1, 3), 0);
        Edge.due("the RANK of a, which is off", tree.post(1, 2), 20);
        tree.undo();
        tree.undo();
        tree.cost(0, 2);
        Edge.post(tree, 1, 5, 5);
        tree.cost(0, 1);
        tree.join(1, false);
        Edge.due("the PARENT of a, which RESTS", tree.post(1, 3), NOBODY);
        tree.ticks(4);
        Edge.due("still", tree.post(1, 3), NOBODY);
        Edge.due("though it HEARD r", tree.heard(1, 0), 10);
        tree.ticks(1);
        Edge.post(tree, 1, 3, 0);
    }

    static void leastOfNeighbours() {
        Edge.says("II", "of its NEIGHBOURS whose RANK, as it HEARD it, is less than NEVER, each by that and STEP: the least, of alike ones "
            + "the lowest number;");
        String fan = "post r;post a;post b;post c;post d;link r c 1;link r b 1;link r a 1;link d c 1;link d b 1;link d a 1;goal costs;";
        SensorTree alike = Check.of(fan + "apart 0;" + STEADY);
        alike.ticks(4);
        Edge.due("of three alike", alike.post(4, 3), 1);
        alike.join(5, false);
        Edge.due("of two alike", alike.post(4, 3), 2);
        alike.join(4, false);
        Edge.due("of one", alike.post(4, 3), 3);
        // the least counts ahead of the lowest number, and it counts STEP
        SensorTree least = Check.of(fan + "apart 0;" + STEADY);
        least.cost(5, 2);
        least.cost(4, 2);
        least.ticks(4);
        Edge.due("the least", least.post(4, 3), 3);
        Edge.post(least, 4, 2, 30);
        // what it HEARD counts, not what is: c rose, d knows it not yet
        least.cost(0, 2);
        Edge.post(least, 3, 2, 30);
        Edge.post(least, 4, 2, 30);
        // NEVER does not count: c has none
        SensorTree never = Check.of(fan + "apart 0;" + STEADY);
        never.join(0, false);
        never.join(3, false);
        never.ticks(4);
        never.join(5, false);
        never.join(4, false);
        never.join(3, true);
        never.ticks(1);
        Edge.due("c's RANK, as HEARD", never.heard(4, 3), NEVER);
        Edge.post(never, 4, 3, NOBODY);
    }

    static void ranksBeyondNever() {
        Edge.says("II", "of its NEIGHBOURS whose RANK, as it HEARD it, is less than NEVER, each by that and STEP:");
        // four that are cut off count up by each other; a RANK of 9,910 and a STEP of 90 is 10,000, which nobody can hang on
        SensorTree tree = Check.of("post r;post a;post b;post c;post d;link r a 9;link a b 9;link a c 9;link a d 9;link b c 9;link b d 9;"
            + "link c d 9;goal costs;twice 1;first 2;enough 9;rise 210;rest 2;seed 28;");
        tree.ticks(20);
        tree.join(0, false);
        tree.ticks(200);
        int beyond = 0;
        for (int i = 0; i < 30; i++) {
            int most = 10;
            for (int post = 1; post <= 4; post++) {
                int parent = tree.post(post, 3);
                int rank = tree.post(post, 2);
                if (parent >= 0) {
                    Edge.due("what it HEARD of its PARENT is less than NEVER", tree.heard(post, parent) < NEVER, true);
                    Edge.due("RANK", rank, tree.heard(post, parent) + 90);
                } else {
                    Edge.due("RANK without PARENT", rank, NEVER);
                }
                beyond += rank > NEVER ? 1 : 0;
                most = rank < NEVER ? Math.max(most, rank) : most;
            }
            Edge.due("the greatest RANK less than NEVER", tree.count(15), most);
            tree.ticks(1);
        }
        Edge.due("some RANK was beyond NEVER", beyond > 0, true);
        Edge.until(tree, () -> tree.count(17) == 0b11110 && tree.count(16) == 0);
        Edge.due("at last all have none", tree.right(), 1);
    }

    static void parentStays() {
        Edge.says("II", "if its PARENT is one of them, and the least is not less than its by more than APART, it stays.");
        // b HEARS r by 40 first, then a by 30
        String text = "post r;post a;post b;link r b 3;link r a 1;link a b 1;goal costs;" + STEADY;
        int[] aparts = {9, 10, 11, 0};
        int[] parents = {1, 0, 0, 1};
        for (int i = 0; i < aparts.length; i++) {
            SensorTree tree = Check.of(text + "apart " + aparts[i] + ";");
            tree.ticks(2);
            Edge.post(tree, 2, 3, 0);
            Edge.post(tree, 2, 2, 40);
            tree.ticks(4);
            Edge.due("PARENT, 10 less, APART " + aparts[i], tree.post(2, 3), parents[i]);
            Edge.due("RANK", tree.post(2, 2), parents[i] == 1 ? 30 : 40);
        }
        // a PARENT that is no NEIGHBOUR any more is left, however little it is
        SensorTree gone = Check.of(text + "apart 99;");
        gone.ticks(6);
        Edge.post(gone, 2, 3, 0);
        gone.join(0, false);
        Edge.post(gone, 2, 3, 1);
        gone.join(0, true);
        Edge.due("10 more: it stays with a", gone.post(2, 3), 1);
        // without a PARENT APART counts nothing
        SensorTree free = Check.of(text + "apart 99;");
        free.join(2, false);
        free.join(0, false);
        free.ticks(6);
        Edge.post(free, 2, 3, NOBODY);
        free.join(2, true);
        free.ticks(2);
        free.join(2, false);
        free.join(0, true);
        free.ticks(2);
        free.join(0, false);
        Edge.post(free, 2, 3, NOBODY);
        free.join(0, true);
        Edge.post(free, 2, 3, 0);
    }

    static void noneLeft() {
        Edge.says("II", "None: no PARENT, RANK NEVER.");
        SensorTree tree = Check.of(PAIR + STEADY);
        tree.ticks(6);
        tree.join(0, false);
        Edge.post(tree, 1, 3, NOBODY);
        Edge.post(tree, 1, 2, NEVER);
        // RISE is held against a RANK that comes from another one; so it does not REST and its LOWEST stays (NOTES.md)
        Edge.post(tree, 1, 5, 0);
        Edge.post(tree, 1, 4, 20);
        Edge.count(tree, 12, 0);
        tree.join(0, true);
        Edge.due("back at once, as it RESTS not", tree.post(1, 3), 0);
        // the PARENT tells that it has none: NEVER
        SensorTree chain = Check.of(CHAIN + STEADY + "rise 0;rest 20;");
        chain.ticks(12);
        chain.cost(0, 2);
        Edge.until(chain, () -> chain.heard(2, 1) == NEVER);
        Edge.post(chain, 2, 3, NOBODY);
        Edge.post(chain, 2, 2, NEVER);
    }

    static void poison() {
        Edge.says("II", "If the RANK so is more than its LOWEST and RISE together: no PARENT, RANK NEVER, LOWEST NEVER, it RESTS REST "
            + "ticks: POISON.");
        int[] rises = {29, 30, 31, 0};
        for (int rise : rises) {
            SensorTree tree = Check.of(PAIR + "goal costs;rest 7;rise " + rise + ";" + STEADY);
            tree.ticks(4);
            tree.cost(0, 4);
            boolean poisoned = rise < 30;
            Edge.due("PARENT, 30 more, RISE " + rise, tree.post(1, 3), poisoned ? NOBODY : 0);
            Edge.due("RANK", tree.post(1, 2), poisoned ? NEVER : 50);
            Edge.due("LOWEST", tree.post(1, 4), poisoned ? NEVER : 20);
            Edge.due("RESTS", tree.post(1, 5), poisoned ? 7 : 0);
            Edge.due("POISONED", tree.count(12), poisoned ? 1 : 0);
        }
        // against the LOWEST, not against what it was ahead of this; and the best one there is counts, not the next
        SensorTree slowly = Check.of(PAIR + "goal costs;rise 30;" + STEADY);
        slowly.ticks(4);
        slowly.cost(0, 3);
        slowly.cost(0, 4);
        Edge.count(slowly, 12, 0);
        slowly.cost(0, 5);
        Edge.count(slowly, 12, 1);
        // a PARENT that is kept by APART counts as it is: the RANK so is 60, though 50 could be had
        SensorTree kept = Check.of("post r;post a;post b;link r b 1;link r a 1;link a b 3;goal costs;rise 30;apart 99;" + STEADY);
        kept.ticks(6);
        Edge.post(kept, 2, 3, 0);
        kept.cost(0, 4);
        Edge.post(kept, 2, 2, 50);
        kept.cost(0, 5);
        Edge.post(kept, 2, 5, 4);
        Edge.count(kept, 12, 1);
    }

    static void lowestGoesDown() {
        Edge.says("II", "Else that is its RANK, LOWEST that if it is less.");
        SensorTree tree = Check.of("post r;post a;link r a 5;goal costs;rise 30;" + STEADY);
        tree.ticks(4);
        Edge.post(tree, 1, 4, 60);
        tree.cost(0, 6);
        Edge.post(tree, 1, 2, 70);
        Edge.post(tree, 1, 4, 60);
        tree.cost(0, 2);
        Edge.post(tree, 1, 2, 30);
        Edge.post(tree, 1, 4, 30);
        tree.cost(0, 5);
        Edge.post(tree, 1, 2, 60);
        Edge.post(tree, 1, 4, 30);
        Edge.count(tree, 12, 0);
    }

    static void anotherRankBeginsAnew() {
        Edge.says("II", "RANK is another one than was: TIMER BEGINS ANEW.");
        String fan = "post r;post a;post b;post c;link r a 1;link r b 1;link a c 1;link b c 1;goal costs;first 8;twice 3;";
        SensorTree tree = Check.of(fan + "enough 9;seed 4;");
        Edge.until(tree, () -> tree.post(3, LONG) == 64 && tree.post(3, FAR) == 20);
        int fires = tree.post(3, FIRES);
        int heard = tree.post(3, HEARD);
        tree.join(2, false);
        Edge.due("another PARENT", tree.post(3, 3), 2);
        // the RANK is the same: its TIMER goes on
        timer(tree, 3, 64, 20, heard, fires);
        tree.cost(3, 2);
        timer(tree, 3, 8, 0, 0, Edge.fires(8, 4, tree.count(2), 3));
        // POISON and None are another RANK, too
        Edge.until(tree, () -> tree.post(3, LONG) == 64 && tree.post(3, FAR) == 20);
        tree.join(3, false);
        timer(tree, 3, 8, 0, 0, Edge.fires(8, 4, tree.count(2), 3));
    }
}

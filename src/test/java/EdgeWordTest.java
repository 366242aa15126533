/** Part II from where a PARENT is another one: GONES, REACHES, what is done by hand, DATA; sentence by sentence. */
public final class EdgeWordTest {
    private static final int NEVER = Edge.NEVER;
    private static final int NOBODY = Edge.NOBODY;
    private static final int CAME = 0;
    private static final int NO_WAY = 1;
    private static final int UNKNOWN = 2;
    private static final int BROKEN = 3;
    private static final int LOOP = 4;
    private static final int WRONG = 5;
    private static final int FAR = 6;
    /** All FIRE in every second tick; nobody REPORTS of itself but in the ticks that have its number by 60. */
    private static final String STEADY = "first 2;twice 0;enough 9;fresh 60;rise 999;goal costs;";
    private static final String CHAIN = "post r;post a;post b;link r a 1;link a b 1;";
    /** a hangs on r or on b, which is as near to r; c and d hang on a; h hangs on r alone. */
    private static final String FORK = "post r;post a;post b;post c;post d;post h;link r a 1;link a b 1;link r b 1;link a c 1;"
        + "link a d 1;link r h 1;apart 0;" + STEADY;

    public static void main(String[] args) throws IllegalAccessException {
        Edge.runAll(EdgeWordTest.class);
    }

    private static void data(SensorTree tree, int from, int to, int end, int against, int... hops) {
        String two = "(" + from + ", " + to + ", ";
        Edge.due("would" + two + "0)", tree.would(from, to, 0), end);
        Edge.due("would" + two + "1)", tree.would(from, to, 1), hops.length);
        Edge.due("would" + two + "2)", tree.would(from, to, 2), against);
        for (int i = 0; i < hops.length; i++) {
            Edge.due("hop" + two + i + ")", tree.hop(from, to, i), hops[i]);
        }
    }

    // ---- another PARENT

    static void goneToTheOneItHad() {
        Edge.says("II", "PARENT is another one: to the one it had (if any) a GONE is put of itself (with the SEQUENCE that it has ahead of "
            + "this), then of each POST to which it has a ROUTE, by number;");
        // at first none was had: no GONE
        SensorTree first = Check.of(CHAIN + STEADY);
        first.ticks(12);
        Edge.count(first, 6, 0);
        SensorTree tree = forked();
        for (int post = 1; post <= 4; post++) {
            Edge.due("r's ROUTE to " + post, tree.route(0, post, 0), post == 2 ? 2 : 1);
        }
        int gones = tree.count(6);
        tree.cost(0, 9);
        Edge.post(tree, 1, 3, 2);
        Edge.due("GONES of a, c and d", tree.count(6), gones + 3);
        tree.ticks(1);
        // they came with SEQUENCES that are no less than those of r's ROUTES
        Edge.route(tree, 0, 1, NOBODY);
        Edge.route(tree, 0, 3, NOBODY);
        Edge.route(tree, 0, 4, NOBODY);
        Edge.route(tree, 0, 2, 2);
    }

    /** FORK at rest, a hanging on r. */
    private static SensorTree forked() {
        SensorTree tree = Check.of(FORK);
        tree.ticks(20);
        Edge.until(tree, () -> tree.count(3) == 0);
        Edge.due("a by r", tree.post(1, 3), 0);
        return tree;
    }

    static void reachToTheNewOne() {
        Edge.says("II", "then to the new one (if any) it REPORTS, and a REACH of each such other POST with the SEQUENCE it has, by number.");
        SensorTree tree = forked();
        int reaches = tree.count(5);
        int sequence = tree.post(1, 6);
        tree.cost(0, 9);
        Edge.due("REACHES of a, c and d", tree.count(5), reaches + 3);
        Edge.due("a's SEQUENCE", tree.post(1, 6), sequence + 1);
        tree.ticks(1);
        for (int post = 1; post <= 4; post++) {
            if (post != 2) {
                Edge.due("b's ROUTE to " + post, tree.route(2, post, 0), 1);
            }
        }
        Edge.due("a's, as it REPORTED", tree.route(2, 1, 1), sequence + 1);
        Edge.due("c's, as a has it", tree.route(2, 3, 1), tree.route(1, 3, 1));
        Edge.due("d's, as a has it", tree.route(2, 4, 1), tree.route(1, 4, 1));
        // none is new: GONES alone, and the SEQUENCE stays
        SensorTree none = forked();
        none.join(1, false);
        int waiting = none.count(3);
        int old = none.post(1, 6);
        int put = none.count(5);
        none.power(3, false);
        none.power(4, false);
        none.join(0, false);
        Edge.post(none, 1, 3, NOBODY);
        Edge.due("GONES alone", none.count(5), put);
        Edge.due("they wait", none.count(3), waiting + 3);
        Edge.due("the SEQUENCE stays", none.post(1, 6), old);
    }

    static void orderOfGonesAndReaches() {
        Edge.says("II", "then of each POST to which it has a ROUTE, by number;");
        // only so many of a's six words find room: GONES of a, c, d to r, REACHES of a, c, d to b; the first ones are put
        for (int room = 0; room <= 6; room++) {
            SensorTree tree = forked();
            for (int i = 0; i < 200 - room; i++) {
                tree.join(5, i % 2 == 1);
            }
            Edge.count(tree, 3, 200 - room);
            tree.cost(0, 9);
            Edge.count(tree, 3, 200);
            tree.ticks(1);
            int[] told = {1, 3, 4};
            for (int i = 0; i < told.length; i++) {
                String with = " to " + told[i] + " with room for " + room;
                Edge.due("r's ROUTE" + with, tree.route(0, told[i], 0), i < room ? NOBODY : 1);
                Edge.due("b's ROUTE" + with, tree.route(2, told[i], 0), i + 3 < room ? 1 : NOBODY);
            }
        }
    }

    // ---- REACH and GONE come

    static void wordOfOneself() {
        Edge.says("II", "A REACH or GONE of a POST d with a SEQUENCE comes from m to n (d itself: nothing).");
        // r is cut off: a hangs on b, b on a; a's REACH of itself and of b comes to b, b's part of it is nothing
        SensorTree tree = Check.of(CHAIN + STEADY);
        tree.ticks(12);
        Edge.until(tree, () -> tree.count(3) == 0);
        tree.join(0, false);
        Edge.post(tree, 1, 3, 2);
        int reaches = tree.count(5);
        Edge.due("GONES of a and b to r, REACHES of them to b", tree.count(3), 4);
        tree.ticks(1);
        Edge.route(tree, 2, 1, 1);
        Edge.due("of a alone one is put on, to a", tree.count(5), reaches + 1);
        tree.ticks(1);
        Edge.due("which is nothing to it", tree.count(5), reaches + 1);
    }

    static void reachOfNoLesserSequence() {
        Edge.says("II", "REACH: if n has no ROUTE to d, or one of no greater SEQUENCE: the ROUTE is m, the SEQUENCE that;");
        // no ROUTE, then one of a lesser SEQUENCE
        SensorTree tree = Check.of("post r;post a;link r a 1;first 2;twice 0;enough 9;fresh 2;");
        tree.ticks(3);
        Edge.route(tree, 0, 1, 1);
        for (int i = 0; i < 10; i++) {
            int sequence = tree.post(1, 6);
            tree.ticks(1);
            Edge.due("r's SEQUENCE of a", tree.route(0, 1, 1), sequence);
        }
        // alike: c moves with d from a to b over a LINK that is down, so that r never hears GONE; d's SEQUENCE is as it was
        SensorTree alike = Check.of("post r;post a;post b;post c;post d;link r a 1;link r b 1;link a c 1;link b c 1;link c d 1;" + STEADY);
        alike.ticks(20);
        Edge.until(alike, () -> alike.count(3) == 0);
        Edge.route(alike, 0, 4, 1);
        int sequence = alike.route(0, 4, 1);
        alike.join(2, false);
        alike.ticks(2);
        Edge.due("the SEQUENCE", alike.route(0, 4, 1), sequence);
        Edge.route(alike, 0, 4, 2);
        // greater: r knows d by b; what k still has of d, older, counts nothing
        SensorTree stale = Check.of("post r;post k;post m;post d;link r k 1;link r m 1;link k d 1;link m d 1;" + STEADY);
        stale.ticks(20);
        Edge.route(stale, 0, 3, 1);
        stale.join(2, false);
        stale.ticks(4);
        Edge.route(stale, 0, 3, 2);
        Edge.route(stale, 1, 3, 3);
        Edge.due("k's is older", stale.route(1, 3, 1) < stale.route(0, 3, 1), true);
        stale.join(0, false);
        stale.join(0, true);
        int reaches = stale.count(5);
        Edge.post(stale, 1, 3, 0);
        stale.ticks(1);
        Edge.route(stale, 0, 3, 2);
        Edge.due("nothing is put on", stale.count(5), reaches);
    }

    static void olderReachIsNotPutOn() {
        Edge.says("II", "or one of no greater SEQUENCE:");
        // p stands between r and k, m; d left k for m, k's ROUTE to it is older than p's; k tells p of it once more
        SensorTree tree = Check.of("post r;post p;post k;post m;post d;link r p 1;link p k 1;link p m 1;link k d 1;link m d 1;" + STEADY);
        tree.ticks(20);
        Edge.route(tree, 1, 4, 2);
        tree.join(3, false);
        tree.ticks(4);
        Edge.route(tree, 1, 4, 3);
        Edge.route(tree, 2, 4, 4);
        tree.join(1, false);
        tree.join(1, true);
        Edge.post(tree, 2, 3, 1);
        int reaches = tree.count(5);
        tree.ticks(1);
        Edge.route(tree, 1, 4, 3);
        Edge.due("of k's two REACHES that of k alone is put on", tree.count(5), reaches + 1);
    }

    static void otherGoneIsNotPutOn() {
        Edge.says("II", "GONE: if n's ROUTE to d is m");
        // d leaves k for m by hand: its GONE comes to k, which puts it on to p; but p has heard of m by then
        SensorTree tree = Check.of("post r;post p;post k;post m;post d;link r p 1;link p k 1;link p m 1;link k d 1;link m d 9;apart 0;" + STEADY);
        tree.ticks(20);
        Edge.route(tree, 1, 4, 2);
        Edge.until(tree, () -> tree.count(3) == 0);
        tree.cost(3, 9);
        tree.cost(4, 1);
        Edge.post(tree, 4, 3, 3);
        int gones = tree.count(6);
        tree.ticks(1);
        Edge.due("k puts it on", tree.count(6), gones + 1);
        Edge.route(tree, 2, 4, NOBODY);
        tree.ticks(1);
        Edge.due("p took it, and puts it on", tree.count(6), gones + 2);
        tree.ticks(1);
        Edge.route(tree, 1, 4, 3);
        Edge.route(tree, 0, 4, 1);
        // d leaves k for p itself: k puts the GONE on, but p's ROUTE is d by then
        SensorTree near = Check.of("post r;post p;post k;post d;link r p 1;link p k 1;link k d 1;link p d 9;apart 0;" + STEADY);
        near.ticks(20);
        Edge.until(near, () -> near.count(3) == 0);
        near.cost(3, 1);
        Edge.post(near, 3, 3, 1);
        gones = near.count(6);
        near.ticks(1);
        Edge.due("k puts it on", near.count(6), gones + 1);
        near.ticks(2);
        Edge.due("p does not", near.count(6), gones + 1);
        Edge.route(near, 1, 3, 3);
    }

    static void reportOverTwelveLinks() {
        Edge.says("II", "and if it has come over fewer than 12 LINKS.");
        // c hangs on b; a and b hang on each other when c REPORTS in tick 63
        SensorTree tree = Check.of("post r;post a;post b;post c;link r a 1;link a b 1;link b c 1;first 8;twice 4;enough 1;rise 999;fresh 60;");
        tree.ticks(63);
        tree.join(0, false);
        Edge.due("circle()", tree.circle(), 6);
        int reaches = tree.count(5);
        tree.ticks(1);
        // a puts on b's REPORT of tick 62, b what a told it of a and, older, of c; c REPORTS
        Edge.due("REACHES in tick 63", tree.count(5), reaches + 3 + 1);
        tree.ticks(1);
        // a puts on what is older of c, and that is its end; c's REPORT came over one LINK
        Edge.due("REACHES in tick 64", tree.count(5), reaches + 4 + 1 + 1);
        for (int links = 2; links <= 14; links++) {
            tree.ticks(1);
            Edge.due("REACHES when it came over " + links, tree.count(5), reaches + 6 + Math.min(links - 1, 10));
        }
        Edge.due("circle() still", tree.circle(), 6);
    }

    static void reachIsPutOn() {
        Edge.says("II", "it is put on to n's PARENT, if any, and if it has come over fewer than 12 LINKS.");
        SensorTree chain = Check.of("post r;post a;post b;post c;link r a 1;link a b 1;link b c 1;first 8;twice 4;enough 1;rise 999;fresh 60;");
        chain.ticks(70);
        Edge.until(chain, () -> chain.count(3) == 0);
        for (int above = 0; above < 3; above++) {
            Edge.due("ROUTE of " + above + " to c", chain.route(above, 3, 0), above + 1);
            Edge.due("with the SEQUENCE", chain.route(above, 3, 1), chain.post(3, 6));
        }
        // a hangs on b, b on a: c's REACH goes round between them till it came over 12 LINKS
        chain.join(0, false);
        Edge.due("circle()", chain.circle(), 6);
        int reaches = chain.count(5);
        chain.ticks(1);
        // b puts on what a told it of a and of c: a's comes to a itself, c's goes on and on
        Edge.due("REACHES", chain.count(5), reaches + 2);
        for (int links = 2; links <= 14; links++) {
            chain.ticks(1);
            Edge.due("REACHES behind " + links + " LINKS", chain.count(5), reaches + 2 + Math.min(links - 1, 10));
        }
        // no PARENT: b's REACH of tick 62 comes to a, which is POISONED by then, and is not put on
        SensorTree rests = Check.of(CHAIN + "goal costs;rise 0;first 2;twice 0;enough 9;fresh 60;");
        rests.ticks(63);
        rests.cost(0, 2);
        Edge.post(rests, 1, 3, NOBODY);
        int ahead = rests.count(5);
        Edge.due("a's SEQUENCE of b, the old one", rests.route(1, 2, 1), rests.post(2, 6) - 1);
        rests.ticks(1);
        Edge.due("a's SEQUENCE of b, the new one", rests.route(1, 2, 1), rests.post(2, 6));
        Edge.due("REACHES", rests.count(5), ahead);
    }

    static void goneOfNoLesserSequence() {
        Edge.says("II", "GONE: if n's ROUTE to d is m and its SEQUENCE no greater: there is none any more; put on likewise.");
        // b leaves a for r: the GONE comes to a, goes on to r, where the ROUTE is another one by then
        SensorTree tree = Check.of("post r;post a;post b;link r a 1;link r b 9;link a b 1;" + STEADY);
        tree.ticks(20);
        Edge.route(tree, 1, 2, 2);
        tree.cost(1, 1);
        int gones = tree.count(6);
        tree.ticks(1);
        Edge.route(tree, 1, 2, NOBODY);
        Edge.due("put on", tree.count(6), gones + 1);
        tree.ticks(1);
        Edge.route(tree, 0, 2, 2);
        // c leaves b, which hangs on a, which hangs on r: it goes all the way
        SensorTree chain = Check.of("post r;post a;post b;post c;link r a 1;link a b 1;link b c 1;goal costs;rise 0;rest 20;first 2;twice 0;"
            + "enough 9;fresh 60;");
        chain.ticks(20);
        chain.cost(2, 2);
        Edge.due("c is POISONED", chain.post(3, 5), 20);
        for (int above = 2; above >= 0; above--) {
            Edge.due("ROUTE of " + above + " to c, still", chain.route(above, 3, 0), above + 1);
            chain.ticks(1);
            Edge.route(chain, above, 3, NOBODY);
        }
        Edge.due("GONES: two were put on, the ROOT has no PARENT", chain.count(6), 3);
    }

    static void goneOfLesserSequence() {
        Edge.says("II", "GONE: if n's ROUTE to d is m and its SEQUENCE no greater:");
        // d hung on k, then on m, then on nobody; each time the GONE was lost, so k knows an older way to it than r
        SensorTree tree = Check.of("post r;post m;post k;post d;link r m 1;link m k 1;link k d 1;link m d 1;goal costs;rise 50;rest 20;"
            + "first 2;twice 0;enough 9;fresh 60;");
        tree.join(3, false);
        tree.ticks(12);
        Edge.route(tree, 2, 3, 3);
        Edge.route(tree, 0, 3, 1);
        tree.join(3, true);
        tree.ticks(2);
        tree.join(2, false);
        tree.ticks(4);
        Edge.due("d by m", tree.post(3, 3), 1);
        tree.join(3, false);
        tree.ticks(1);
        // m is new and learns of d by k alone, with the older SEQUENCE; to r that is nothing
        tree.power(1, false);
        tree.power(1, true);
        Edge.until(tree, () -> tree.post(1, 3) == 0);
        tree.ticks(2);
        Edge.route(tree, 1, 3, 2);
        Edge.route(tree, 0, 3, 1);
        Edge.due("r's SEQUENCE is greater", tree.route(0, 3, 1) > tree.route(1, 3, 1), true);
        // m turns to k: its GONES come to r, those of m and k do it, that of d is too old
        tree.cost(0, 9);
        Edge.post(tree, 1, 3, 2);
        tree.ticks(1);
        Edge.route(tree, 0, 1, NOBODY);
        Edge.route(tree, 0, 2, NOBODY);
        Edge.route(tree, 0, 3, 1);
    }

    static void most200Messages() {
        Edge.says("II", "What would be the 201st message that waits (those put in a TICK and those put by hand behind it together) is not "
            + "put.");
        // ADVERTS were put in the tick, GONES and REACHES of h are put by hand, one by each join
        SensorTree tree = Check.of(FORK);
        tree.ticks(21);
        int waiting = tree.count(3);
        Edge.due("some were put in the tick", waiting > 0, true);
        int words = tree.count(5) + tree.count(6);
        for (int i = 0; i < 200; i++) {
            tree.join(5, i % 2 == 1);
            int due = Math.min(200, waiting + i + 1);
            Edge.count(tree, 3, due);
            Edge.due("REACHES and GONES", tree.count(5) + tree.count(6), words + due - waiting);
        }
        int sequence = tree.post(5, 6);
        tree.join(5, false);
        tree.join(5, true);
        Edge.due("its SEQUENCE goes on, though nothing is put", tree.post(5, 6), sequence + 1);
        Edge.count(tree, 3, 200);
        tree.ticks(1);
        Edge.due("there is room again", tree.count(3) < 200, true);
    }

    static void most200MessagesInATick() {
        Edge.says("II", "What would be the 201st message that waits");
        // a turns from x to y and back; each of its GONES and REACHES is put on to r by x or y, so a TICK puts as many as came
        SensorTree tree = Check.of("post r;post x;post y;post a;post c;post d;link r x 1;link r y 1;link x a 1;link y a 2;link a c 1;"
            + "link a d 1;apart 0;" + STEADY);
        tree.ticks(60);
        Edge.due("nothing waits", tree.count(3), 0);
        for (int i = 0; i < 40; i++) {
            tree.cost(2, i % 2 == 0 ? 9 : 1);
        }
        Edge.count(tree, 3, 200);
        int adverts = tree.count(4);
        int words = tree.count(5) + tree.count(6);
        tree.ticks(1);
        Edge.count(tree, 3, 200);
        Edge.due("REACHES and GONES put on", tree.count(5) + tree.count(6), words + 200);
        Edge.due("all FIRED", tree.post(0, 8), tree.post(0, 10));
        Edge.due("but no ADVERT found room", tree.count(4), adverts);
        Edge.due("nor is it spared", tree.count(14), 0);
    }

    // ---- by hand

    static void linkByHand() {
        Edge.says("II", "By hand: a LINK goes down or up, has another COST;");
        SensorTree tree = Check.of(CHAIN + STEADY);
        tree.ticks(12);
        tree.join(1, false);
        Edge.due("link(1, 3)", tree.link(1, 3), 0);
        Edge.post(tree, 2, 3, NOBODY);
        Edge.due("the other one", tree.link(0, 3), 1);
        tree.join(1, true);
        Edge.due("link(1, 3)", tree.link(1, 3), 1);
        Edge.post(tree, 2, 3, 1);
        tree.cost(1, 9);
        Edge.due("link(1, 2)", tree.link(1, 2), 9);
        Edge.post(tree, 2, 2, 110);
        // what waits on a LINK that goes down and up again comes
        SensorTree both = Check.of(CHAIN + STEADY);
        both.ticks(1);
        both.join(0, false);
        both.join(0, true);
        both.ticks(1);
        Edge.due("heard(1, 0)", both.heard(1, 0), 10);
    }

    static void postOffStays() {
        Edge.says("II", "a POST (not the ROOT) is off: all else of it stays;");
        SensorTree tree = Check.of(CHAIN + STEADY + "twice 3;");
        tree.ticks(37);
        Edge.due("power(0, false)", tree.power(0, false), false);
        Edge.post(tree, 0, 0, 1);
        String ahead = ofPost(tree, 1);
        tree.power(1, false);
        Edge.post(tree, 1, 0, 0);
        Edge.alike("all else of a", ofPost(tree, 1), ahead);
        Edge.due("b has nobody", tree.post(2, 3), NOBODY);
        tree.ticks(50);
        Edge.alike("all else of a, 50 ticks on", ofPost(tree, 1), ahead);
    }

    /** All of a POST but whether it is on. */
    private static String ofPost(SensorTree tree, int post) {
        StringBuilder line = new StringBuilder();
        for (int what = 1; what <= 10; what++) {
            line.append(tree.post(post, what)).append(' ');
        }
        for (int other = 0; other < tree.count(0); other++) {
            line.append(tree.heard(post, other)).append(' ').append(tree.route(post, other, 0)).append(' ');
            line.append(tree.route(post, other, 1)).append(' ');
        }
        return line.toString();
    }

    static void postOnAgain() {
        Edge.says("II", "or on again: all of it as at first but its SEQUENCE, its TIMER begun at this tick;");
        String text = "post r;post a;post b;link r a 1;link a b 1;goal costs;rise 0;first 8;twice 3;enough 9;seed 11;";
        SensorTree tree = Check.of(text);
        tree.repair();
        tree.ticks(97);
        tree.cost(0, 2);
        Edge.due("it RESTS", tree.post(1, 5), 4);
        Edge.due("its VERSION", tree.post(1, 1), 1);
        Edge.due("its ROUTE", tree.route(1, 2, 0), 2);
        int sequence = tree.post(1, 6);
        Edge.due("its SEQUENCE", sequence > 0, true);
        tree.power(1, false);
        tree.ticks(2);
        tree.power(1, true);
        int[] due = {1, 0, NEVER, NOBODY, NEVER, 0, sequence, 8, 0, 0, Edge.fires(8, 11, 99, 1)};
        for (int what = 0; what < due.length; what++) {
            Edge.post(tree, 1, what, due[what]);
        }
        Edge.due("heard(1, 0)", tree.heard(1, 0), NEVER);
        Edge.due("heard(1, 2)", tree.heard(1, 2), NEVER);
        Edge.route(tree, 1, 2, NOBODY);
        Edge.due("route(1, 2, 1)", tree.route(1, 2, 1), NOBODY);
        // what others know of it stays
        Edge.due("heard(0, 1)", tree.heard(0, 1), 20);
        Edge.route(tree, 0, 1, 1);
    }

    static void allChooseBehindIt() {
        Edge.says("II", "behind each of these all POSTS that are on CHOOSE, by number.");
        SensorTree tree = Check.of(CHAIN + STEADY);
        tree.ticks(12);
        tree.join(1, false);
        Edge.due("down: b", tree.post(2, 3), NOBODY);
        tree.join(1, true);
        Edge.due("up: b", tree.post(2, 3), 1);
        tree.cost(1, 2);
        Edge.due("COST: b", tree.post(2, 2), 40);
        tree.power(1, false);
        Edge.due("a off: b", tree.post(2, 3), NOBODY);
        Edge.due("a off: a", tree.post(1, 3), 0);
        tree.power(1, true);
        Edge.due("a on: b, which HEARD a", tree.post(2, 3), 1);
        // by number: k and n turn to m, which is on again, k first; both have a ROUTE to d, of one SEQUENCE
        SensorTree order = Check.of("post r;post m;post k;post n;post d;link r m 1;link m k 1;link m n 1;link k n 1;link r n 5;link k d 1;"
            + STEADY);
        order.ticks(8);
        order.power(1, false);
        order.ticks(100);
        Edge.until(order, () -> order.count(3) == 0);
        Edge.due("k by n", order.post(2, 3), 3);
        Edge.due("n by r", order.post(3, 3), 0);
        Edge.due("the SEQUENCES are alike", order.route(2, 4, 1), order.route(3, 4, 1));
        order.power(1, true);
        Edge.due("k by m", order.post(2, 3), 1);
        Edge.due("n by m", order.post(3, 3), 1);
        order.ticks(1);
        Edge.route(order, 1, 4, 3);
    }

    static void repairAnew() {
        Edge.says("II", "REPAIR: the ROOT's VERSION is one more, its TIMER BEGINS ANEW.");
        SensorTree tree = Check.of(CHAIN + STEADY + "first 8;twice 3;seed 2;");
        Edge.until(tree, () -> tree.post(0, 7) == 64 && tree.post(0, 8) == 9);
        String others = ofPost(tree, 1) + ofPost(tree, 2);
        tree.repair();
        Edge.alike("the others", ofPost(tree, 1) + ofPost(tree, 2), others);
        Edge.post(tree, 0, 1, 1);
        Edge.post(tree, 0, 7, 8);
        Edge.post(tree, 0, 8, 0);
        Edge.post(tree, 0, 10, Edge.fires(8, 2, tree.count(2), 0));
        Edge.post(tree, 0, 2, 10);
    }

    static void ticksGoBy() {
        Edge.says("II", "TICKS go by.");
        SensorTree one = Check.of(CHAIN + STEADY + "noise 20;");
        SensorTree many = Check.of(CHAIN + STEADY + "noise 20;");
        for (int i = 0; i < 60; i++) {
            one.ticks(1);
        }
        many.ticks(60);
        for (int post = 0; post < 3; post++) {
            Edge.alike("the POST " + post, ofPost(one, post), ofPost(many, post));
        }
    }

    // ---- DATA

    static void dataAtOnce() {
        Edge.says("II", "DATA is sent from s to another one d, both on, at once.");
        SensorTree tree = Check.of(CHAIN + STEADY);
        tree.ticks(12);
        Edge.due("send(0, 2)", tree.send(0, 2), CAME);
        Edge.count(tree, 2, 12);
        Edge.due("send(1, 1)", tree.send(1, 1), Edge.NONE);
        tree.power(2, false);
        Edge.due("send(0, 2)", tree.send(0, 2), Edge.NONE);
        Edge.due("send(2, 0)", tree.send(2, 0), Edge.NONE);
        Edge.due("send(1, 0)", tree.send(1, 0), CAME);
    }

    static void dataEndsWrong() {
        Edge.says("II", "At x (s first), the first that holds: it came DOWN to x, which has no ROUTE to d: it ends WRONG, the ROUTE to d by "
            + "which it came is none any more;");
        SensorTree tree = Check.of("post r;post a;post b;post c;link r a 1;link a b 1;link b c 1;" + STEADY);
        tree.ticks(20);
        tree.power(2, false);
        tree.power(2, true);
        // b is new: it has no ROUTE; it has no PARENT either, and DATA that came UP to it would end NO WAY
        data(tree, 0, 3, WRONG, 0, 1, 2);
        Edge.due("send(0, 3)", tree.send(0, 3), WRONG);
        Edge.route(tree, 1, 3, NOBODY);
        Edge.route(tree, 0, 3, 1);
        Edge.due("the others stay", tree.route(1, 2, 0), 2);
        // now it ends at a, which has a PARENT: WRONG holds first
        data(tree, 0, 3, WRONG, 0, 1);
        Edge.due("send(0, 3)", tree.send(0, 3), WRONG);
        Edge.route(tree, 0, 3, NOBODY);
        data(tree, 0, 3, UNKNOWN, 0);
        // at s itself it came from nowhere: a sends UP
        data(tree, 1, 3, UNKNOWN, 0, 0);
    }

    static void dataGoesDown() {
        Edge.says("II", "x has a ROUTE to d: DOWN to that;");
        SensorTree tree = Check.of("post r;post a;post b;post c;link r a 1;link a b 1;link a c 1;" + STEADY);
        tree.ticks(20);
        data(tree, 0, 3, CAME, 0, 1, 3);
        // ahead of UP: a has a PARENT and a ROUTE
        data(tree, 1, 3, CAME, 0, 3);
        // b goes UP to a, there DOWN, not on to r
        data(tree, 2, 3, CAME, 0, 1, 3);
        // ahead of NO WAY: a is POISONED, so it has no PARENT, but its ROUTES; c's RANK is less than NEVER
        SensorTree poisoned = Check.of("post r;post a;post c;link r a 1;link a c 1;first 2;twice 0;enough 9;goal costs;rise 0;");
        poisoned.ticks(20);
        poisoned.cost(0, 2);
        Edge.post(poisoned, 1, 3, NOBODY);
        data(poisoned, 1, 2, CAME, 1, 2);
        data(poisoned, 1, 0, NO_WAY, 0);
    }

    static void dataUnknown() {
        Edge.says("II", "x is the ROOT: it ends UNKNOWN;");
        SensorTree tree = Check.of("post r;post a;post b;link r a 1;" + STEADY);
        data(tree, 0, 1, UNKNOWN, 0);
        data(tree, 0, 2, UNKNOWN, 0);
        tree.ticks(8);
        data(tree, 1, 2, UNKNOWN, 0, 0);
        data(tree, 0, 2, UNKNOWN, 0);
        data(tree, 0, 1, CAME, 0, 1);
    }

    static void dataNoWay() {
        Edge.says("II", "UP to its PARENT; it has none: it ends NO WAY.");
        SensorTree tree = Check.of(CHAIN + "post c;" + STEADY);
        data(tree, 1, 0, NO_WAY, 0);
        data(tree, 3, 0, NO_WAY, 0);
        tree.ticks(12);
        data(tree, 2, 0, CAME, 0, 1, 0);
        data(tree, 3, 0, NO_WAY, 0);
        // behind a hop: a is on again and knows nobody, b hangs on it still
        tree.power(1, false);
        tree.power(1, true);
        Edge.post(tree, 2, 3, 1);
        data(tree, 2, 0, NO_WAY, 1, 1);
    }

    static void dataBroken() {
        Edge.says("II", "At y, where it would go, the first that holds: y is no NEIGHBOUR of x: it ends BROKEN;");
        SensorTree tree = Check.of(CHAIN + STEADY + "twice 3;");
        tree.ticks(40);
        tree.join(1, false);
        // DOWN to a it goes, to b it can't
        data(tree, 0, 2, BROKEN, 0, 1);
        Edge.due("send(0, 2)", tree.send(0, 2), BROKEN);
        Edge.route(tree, 1, 2, 2);
        // b's RANK is greater now or NEVER; were it AGAINST, it would not count, as it does not go there
        data(tree, 1, 2, BROKEN, 0);
        tree.join(0, false);
        data(tree, 0, 1, BROKEN, 0);
    }

    static void dataFar() {
        // With one hop AGAINST there are 6 + 1 + 6 + 6 = 19 hops at most among 7 POSTS, so the 21st can't be come to; what can
        // be held is that no DATA ends FAR: not the longest way up or down, nor one that goes round before it ends LOOP.
        Edge.says("II", "it would be the 21st hop: FAR;");
        SensorTree line = Check.of("post r;post a;post b;post c;post d;post e;post f;link r a 1;link a b 1;link b c 1;link c d 1;link d e 1;"
            + "link e f 1;" + STEADY);
        line.ticks(40);
        data(line, 6, 0, CAME, 0, 5, 4, 3, 2, 1, 0);
        data(line, 0, 6, CAME, 0, 1, 2, 3, 4, 5, 6);
        line.join(0, false);
        data(line, 6, 0, LOOP, 2, 5, 4, 3, 2, 1, 2, 1);
        SensorTree ring = Check.of("post r;post a;post b;post c;post d;post e;post f;link r a 5;link a b 2;link a f 9;link b c 8;link c d 7;"
            + "link d e 4;link e f 3;goal costs;first 2;twice 1;enough 9;rise 999;apart 45;fresh 60;");
        ring.ticks(36);
        ring.join(3, false);
        ring.ticks(2);
        ring.join(0, false);
        Edge.due("eight hops", ring.would(3, 0, 1), 8);
        for (int from = 0; from < 7; from++) {
            for (int to = 0; to < 7; to++) {
                Edge.due("FAR", ring.would(from, to, 0) == FAR, false);
            }
        }
    }

    static void dataAgainst() {
        Edge.says("II", "it goes there, and UP to a RANK not less, DOWN to one not greater, is AGAINST: y's TIMER BEGINS ANEW, the second "
            + "such hop: it ends LOOP;");
        // b and c hang on a and have 30; a's RANK is 20 at first, 30 with COST 2, 40 with COST 3
        String text = "post r;post a;post b;post c;link r a 1;link a b 1;link a c 1;goal costs;first 2;twice 3;enough 9;rise 999;apart 99;";
        SensorTree less = settled(text, 1);
        data(less, 2, 0, CAME, 0, 1, 0);
        data(less, 2, 3, CAME, 0, 1, 3);
        SensorTree alike = settled(text, 2);
        data(alike, 2, 0, CAME, 1, 1, 0);
        data(alike, 1, 3, CAME, 1, 3);
        data(alike, 0, 3, CAME, 1, 1, 3);
        SensorTree more = settled(text, 3);
        data(more, 2, 0, CAME, 1, 1, 0);
        data(more, 1, 3, CAME, 1, 3);
        // the second such hop comes to d, and ends LOOP all the same
        data(alike, 2, 3, LOOP, 2, 1, 3);
        data(more, 2, 3, LOOP, 2, 1, 3);
        Edge.due("LONG of a, which began anew by its RANK", alike.post(1, 7), 2);
        Edge.due("LONG of c", alike.post(3, 7), 16);
        Edge.due("send(2, 3)", alike.send(2, 3), LOOP);
        Edge.due("LONG of c, AGAINST", alike.post(3, 7), 2);
        Edge.due("how far it is", alike.post(3, 8), 0);
        alike.undo();
        Edge.due("LONG of b, from which it went", alike.post(2, 7), 16);
        Edge.due("send(0, 3)", alike.send(0, 3), CAME);
        Edge.due("LONG of c, one AGAINST", alike.post(3, 7), 2);
        Edge.due("LONG of r", alike.post(0, 7), 16);
        // a hop that is not AGAINST begins nothing
        Edge.due("send(0, 3)", less.send(0, 3), CAME);
        Edge.due("LONG of c", less.post(3, 7), 16);
    }

    private static SensorTree settled(String text, int cost) {
        SensorTree tree = Check.of(text);
        tree.ticks(60);
        Edge.until(tree, () -> tree.post(0, 7) == 16 && tree.post(2, 7) == 16 && tree.post(3, 7) == 16 && tree.post(3, 8) > 2);
        tree.cost(0, cost);
        Edge.due("RANK of a", tree.post(1, 2), 10 + 10 * cost);
        Edge.due("RANK of c", tree.post(3, 2), 30);
        return tree;
    }

    static void dataCame() {
        Edge.says("II", "y is d: it CAME; y is x now.");
        SensorTree tree = Check.of(CHAIN + STEADY);
        tree.ticks(12);
        data(tree, 2, 1, CAME, 0, 1);
        data(tree, 1, 2, CAME, 0, 2);
        data(tree, 2, 0, CAME, 0, 1, 0);
        data(tree, 0, 2, CAME, 0, 1, 2);
        for (int from = 0; from < 3; from++) {
            for (int to = 0; to < 3; to++) {
                Edge.due("send(" + from + ", " + to + ")", tree.send(from, to), from == to ? Edge.NONE : CAME);
            }
        }
    }
}

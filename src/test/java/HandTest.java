/** Promises 6 to 12 and part II: TICKS, TIMERS, messages, choosing, what is done by hand, DATA, undo. */
public final class HandTest {
    private static final Check check = new Check();
    private static final int NEVER = 9999;
    private static final String PAIR = "post r; post a; link r a 1; first 2; twice 0; enough 9;";
    private static final String CHAIN =
        "post r; post a; post b; link r a 1; link a b 1; goal costs; first 2; twice 2; enough 9; rise 999;";

    public static void main(String[] args) {
        ticks();
        pairTickByTick();
        timers();
        spared();
        noise();
        join();
        apart();
        cost();
        rise();
        power();
        repair();
        lowestOfVersion();
        lesserVersion();
        gonesAndReaches();
        gone();
        twelveLinks();
        mostMessages();
        dataEnds();
        dataAgainst();
        undo();
        check.finish("HandTest");
    }

    private static void post(SensorTree tree, int post, int... due) {
        for (int what = 0; what < due.length; what++) {
            check.due("post(" + post + ", " + what + ") at tick " + tree.count(2), tree.post(post, what), due[what]);
        }
    }

    private static void counts(SensorTree tree, int... whatAndDue) {
        for (int i = 0; i < whatAndDue.length; i += 2) {
            String call = "count(" + whatAndDue[i] + ") at tick " + tree.count(2);
            check.due(call, tree.count(whatAndDue[i]), whatAndDue[i + 1]);
        }
    }

    private static void ticks() {
        SensorTree tree = Check.of(PAIR);
        check.due("ticks(-1)", tree.ticks(-1), -1);
        check.due("ticks(201)", tree.ticks(201), -1);
        check.due("ticks(least)", tree.ticks(Integer.MIN_VALUE), -1);
        check.due("ticks(0)", tree.ticks(0), 0);
        counts(tree, 2, 0, 9, 0);
        check.due("ticks(200)", tree.ticks(200), 200);
        check.due("ticks(0)", tree.ticks(0), 200);
        check.due("ticks(1)", tree.ticks(1), 201);
        counts(tree, 2, 201, 9, 2);
        SensorTree empty = new SensorTree();
        check.due("ticks(200) without POSTS", empty.ticks(200), 200);
    }

    private static void pairTickByTick() {
        SensorTree tree = Check.of(PAIR);
        post(tree, 0, 1, 0, 10, -2, NEVER, 0, 0, 2, 0, 0, 1);
        post(tree, 1, 1, 0, NEVER, -2, NEVER, 0, 0, 2, 0, 0, 1);
        counts(tree, 3, 0, 4, 0, 5, 0, 17, 2);
        tree.ticks(1);
        post(tree, 0, 1, 0, 10, -2, NEVER, 0, 0, 2, 1, 0, 1);
        counts(tree, 3, 2, 4, 2, 5, 0, 15, 10);
        tree.ticks(1);
        // a takes r and REPORTS; its number is the tick's, so it REPORTS again
        post(tree, 1, 1, 0, 20, 0, 20, 0, 2, 2, 0, 0, 1);
        counts(tree, 3, 2, 4, 2, 5, 2, 6, 0, 7, 0, 15, 20, 17, 0);
        check.due("heard(1, 0)", tree.heard(1, 0), 10);
        check.due("heard(0, 1)", tree.heard(0, 1), NEVER);
        tree.ticks(1);
        check.due("route(0, 1, 0)", tree.route(0, 1, 0), 1);
        check.due("route(0, 1, 1)", tree.route(0, 1, 1), 2);
        counts(tree, 3, 2, 4, 4, 5, 2, 7, 1);
        tree.ticks(1);
        check.due("heard(0, 1)", tree.heard(0, 1), 20);
        counts(tree, 3, 0, 4, 4, 5, 2);
        tree.ticks(9);
        counts(tree, 2, 13, 5, 2);
        tree.ticks(1);
        // FRESH 12: the tick 13 has the rest 1
        counts(tree, 2, 14, 5, 3);
        check.due("post(1, 6)", tree.post(1, 6), 3);
    }

    private static void timers() {
        SensorTree tree = Check.of("post r; first 8; twice 2; seed 77;");
        post(tree, 0, 1, 0, 10, -2, NEVER, 0, 0, 8, 0, 0, 4 + 2);
        tree.ticks(5);
        counts(tree, 4, 0);
        tree.ticks(1);
        counts(tree, 4, 1);
        tree.ticks(1);
        check.due("far", tree.post(0, 8), 7);
        tree.ticks(1);
        post(tree, 0, 1, 0, 10, -2, NEVER, 0, 0, 16, 0, 0, 8 + 1);
        tree.ticks(16);
        post(tree, 0, 1, 0, 10, -2, NEVER, 0, 0, 32, 0, 0, 16);
        tree.ticks(32);
        // doubled twice already
        post(tree, 0, 1, 0, 10, -2, NEVER, 0, 0, 32, 0, 0, 16 + 14);
        counts(tree, 2, 56, 4, 3);
        check.due("repair()", tree.repair(), 1);
        check.due("LONG anew", tree.post(0, 7), 8);
        tree.ticks(3);
        check.due("repair()", tree.repair(), 2);
        check.due("LONG is FIRST already: nothing happens", tree.post(0, 8), 3);
        SensorTree three = Check.of("post r; post a; post b; first 8; seed 77;");
        int[] fires = {4 + 2, 4 + 2, 4 + 3};
        for (int post = 0; post < fires.length; post++) {
            check.due("FIRES of " + post, three.post(post, 10), fires[post]);
        }
    }

    private static void spared() {
        // by SEED 9 r FIRES at 2 and a at 3, in the first round and in the second
        String text = "post r; post a; link r a 1; first 4; twice 0; seed 9; enough ";
        SensorTree one = Check.of(text + "1;");
        SensorTree two = Check.of(text + "2;");
        check.due("FIRES of r", one.post(0, 10), 2);
        check.due("FIRES of a", one.post(1, 10), 3);
        one.ticks(6);
        two.ticks(6);
        counts(one, 4, 3, 14, 0);
        check.due("HEARD, nothing yet", one.post(1, 9), 0);
        one.ticks(1);
        two.ticks(1);
        // r's ADVERT was as before, so a HEARD one
        check.due("HEARD", one.post(1, 9), 1);
        counts(one, 4, 3, 14, 1);
        counts(two, 4, 4, 14, 0);
    }

    private static void noise() {
        // LOT 100 of SEED 0 and 1,000,065 is 23: what comes from r to a in tick 1
        SensorTree heard = Check.of(PAIR + "noise 23;");
        SensorTree drowned = Check.of(PAIR + "noise 24;");
        heard.ticks(2);
        drowned.ticks(2);
        check.due("RANK with NOISE 23", heard.post(1, 2), 20);
        check.due("RANK with NOISE 24", drowned.post(1, 2), NEVER);
        SensorTree star = Check.of("post r;post a;post b;link r a 1;link r b 1;first 2;twice 0;noise 100;");
        star.ticks(2);
        // r's ADVERT is lost twice, those of a and b once each
        counts(star, 4, 3, 13, 4, 3, 0);
        star.ticks(2);
        counts(star, 4, 6, 13, 8);
    }

    private static void join() {
        SensorTree tree = Check.of(PAIR);
        tree.ticks(4);
        check.due("join(-1)", tree.join(-1, false), false);
        check.due("join(1)", tree.join(1, false), false);
        check.due("join(0, true), as it is", tree.join(0, true), false);
        counts(tree, 9, 1);
        check.due("join(0, false)", tree.join(0, false), true);
        // nobody is left to choose: no POISON, LOWEST stays; a GONE is put and will be lost
        post(tree, 1, 1, 0, NEVER, -2, 20, 0, 2);
        counts(tree, 3, 1, 6, 1, 12, 0, 17, 2, 9, 2);
        check.due("neighbours(0)", tree.neighbours(0), 0);
        tree.ticks(1);
        counts(tree, 13, 1, 7, 1);
        check.due("DATA by the old ROUTE", tree.would(0, 1, 0), 3);
        check.due("join(0, true)", tree.join(0, true), true);
        // what it HEARD is still known, so it is back at once
        post(tree, 1, 1, 0, 20, 0, 20, 0, 3);
    }

    private static void apart() {
        // b hears r by 40 first, then a by 30: by costs 10 better
        String text = "post r;post a;post b;link r b 3;link r a 1;link a b 1;goal costs;first 2;twice 0;enough 9;";
        SensorTree left = Check.of(text + "apart 9;");
        SensorTree stays = Check.of(text + "apart 10;");
        left.ticks(8);
        stays.ticks(8);
        check.due("APART 9: PARENT", left.post(2, 3), 1);
        check.due("APART 9: RANK", left.post(2, 2), 30);
        check.due("APART 10: PARENT", stays.post(2, 3), 0);
        check.due("APART 10: RANK", stays.post(2, 2), 40);
        // of alike ones the lowest number
        SensorTree alike = Check.of("post r;post a;post b;post c;link r b 1;link r a 1;link b c 1;link a c 1;first 2;twice 0;apart 0;");
        alike.ticks(10);
        check.due("alike: PARENT", alike.post(3, 3), 1);
        alike.join(3, false);
        check.due("alike, one down: PARENT", alike.post(3, 3), 2);
        alike.join(3, true);
        check.due("alike, it stays: PARENT", alike.post(3, 3), 2);
        SensorTree three = Check.of("post r;post a;post b;post d;post c;link r a 1;link r b 1;link r d 1;link c d 1;link c b 1;link c a 1;first 2;twice 0;");
        three.ticks(10);
        three.join(5, false);
        check.due("two alike are left: PARENT", three.post(4, 3), 2);
    }

    private static void cost() {
        SensorTree tree = Check.of(PAIR + "goal costs;");
        tree.ticks(4);
        check.due("cost(0, 0)", tree.cost(0, 0), false);
        check.due("cost(0, 10)", tree.cost(0, 10), false);
        check.due("cost(0, 1), as it is", tree.cost(0, 1), false);
        check.due("cost(1, 2)", tree.cost(1, 2), false);
        check.due("cost(-1, 2)", tree.cost(-1, 2), false);
        counts(tree, 9, 1);
        check.due("cost(0, 3)", tree.cost(0, 3), true);
        check.due("link(0, 2)", tree.link(0, 2), 3);
        check.due("link(0, 4)", tree.link(0, 4), 30);
        check.due("RANK", tree.post(1, 2), 40);
        check.due("LOWEST", tree.post(1, 4), 20);
        SensorTree hops = Check.of(PAIR);
        hops.ticks(4);
        check.due("cost(0, 9) by hops", hops.cost(0, 9), true);
        check.due("RANK by hops", hops.post(1, 2), 20);
    }

    private static void rise() {
        SensorTree tree = Check.of(PAIR + "goal costs; rise 30; rest 2;");
        tree.ticks(4);
        tree.cost(0, 4);
        post(tree, 1, 1, 0, 50, 0, 20, 0);
        counts(tree, 12, 0, 16, 0);
        tree.cost(0, 5);
        post(tree, 1, 1, 0, NEVER, -2, NEVER, 2);
        counts(tree, 12, 1, 16, 2, 6, 1);
        tree.cost(0, 1);
        check.due("who RESTS chooses not", tree.post(1, 2), NEVER);
        tree.ticks(1);
        post(tree, 1, 1, 0, NEVER, -2, NEVER, 1);
        tree.ticks(1);
        post(tree, 1, 1, 0, 20, 0, 20, 0);
        counts(tree, 12, 1, 16, 0);
        SensorTree stiff = Check.of(PAIR + "goal costs; rise 0; rest 20;");
        stiff.ticks(4);
        stiff.cost(0, 2);
        check.due("RISE 0", stiff.post(1, 5), 20);
        stiff.power(1, false);
        counts(stiff, 16, 2);
        stiff.ticks(3);
        check.due("who is off RESTS on", stiff.post(1, 5), 20);
        stiff.power(1, true);
        counts(stiff, 16, 0);
    }

    private static void power() {
        SensorTree tree = Check.of(CHAIN);
        tree.ticks(60);
        check.due("power(0, false)", tree.power(0, false), false);
        check.due("power(0, true)", tree.power(0, true), false);
        check.due("power(1, true), as it is", tree.power(1, true), false);
        check.due("power(-1, false)", tree.power(-1, false), false);
        check.due("power(3, false)", tree.power(3, false), false);
        counts(tree, 9, 1, 7, 3);
        int sequence = tree.post(1, 6);
        int far = tree.post(1, 8);
        check.due("power(1, false)", tree.power(1, false), true);
        post(tree, 1, 0, 0, 20, 0, 20, 0, sequence, 8, far);
        check.due("b has nobody", tree.post(2, 3), -2);
        check.due("b has no RANK", tree.post(2, 2), NEVER);
        check.due("route of who is off", tree.route(1, 2, 0), 2);
        counts(tree, 10, 5, 17, 4);
        tree.ticks(7);
        check.due("a's TIMER stands", tree.post(1, 8), far);
        check.due("a's SEQUENCE stands", tree.post(1, 6), sequence);
        check.due("power(1, true)", tree.power(1, true), true);
        post(tree, 1, 1, 0, NEVER, -2, NEVER, 0, sequence, 2, 0, 0, 1);
        check.due("what a HEARD", tree.heard(1, 0), NEVER);
        check.due("what b HEARD of a", tree.heard(2, 1), 20);
        check.due("b is back", tree.post(2, 2), 30);
        check.due("a's ROUTES", tree.route(1, 2, 0), -2);
        check.due("r's ROUTES stay", tree.route(0, 2, 0), 1);
    }

    private static void repair() {
        check.due("repair() without POSTS", new SensorTree().repair(), -1);
        SensorTree tree = Check.of(PAIR);
        tree.ticks(6);
        check.due("repair()", tree.repair(), 1);
        post(tree, 0, 1, 1, 10);
        post(tree, 1, 1, 0, 20);
        check.due("right()", tree.right(), 0);
        check.due("soon()", tree.soon(), 2);
        tree.ticks(2);
        post(tree, 1, 1, 1, 20, 0, 20);
        check.due("what r HEARD of a lesser VERSION's", tree.heard(0, 1), 20);
        for (int version = 2; version <= 99; version++) {
            check.due("repair()", tree.repair(), version);
        }
        check.due("repair() at 99", tree.repair(), -1);
        counts(tree, 9, 20);
    }

    private static void lowestOfVersion() {
        SensorTree tree = Check.of(PAIR + "goal costs;");
        tree.ticks(4);
        tree.cost(0, 3);
        post(tree, 1, 1, 0, 40, 0, 20);
        tree.repair();
        post(tree, 1, 1, 0, 40, 0, 20);
        tree.ticks(4);
        post(tree, 1, 1, 1, 40, 0, 40);
    }

    private static void lesserVersion() {
        // a and b know each other but not the new VERSION; a learns it and forgets what it HEARD of b
        SensorTree tree = Check.of("post r;post a;post b;link r a 1;link a b 1;first 2;twice 3;enough 9;");
        tree.ticks(80);
        check.due("heard(1, 2)", tree.heard(1, 2), 30);
        check.due("LONG of a", tree.post(1, 7), 16);
        tree.repair();
        tree.ticks(2);
        post(tree, 1, 1, 1, 20, 0, 20);
        check.due("forgotten", tree.heard(1, 2), NEVER);
        check.due("LONG of a, anew", tree.post(1, 7), 2);
        tree.ticks(3);
        check.due("VERSION of b", tree.post(2, 1), 1);
    }

    private static void gonesAndReaches() {
        SensorTree tree = Check.of("post r;post a;post b;post c;link r a 1;link r b 1;link a c 1;link b c 1;first 2;twice 0;enough 9;");
        tree.ticks(11);
        check.due("c by a", tree.post(3, 3), 1);
        check.due("r to c by a", tree.route(0, 3, 0), 1);
        check.due("a to c", tree.route(1, 3, 0), 3);
        int reaches = tree.count(5);
        int sequence = tree.post(3, 6);
        tree.join(2, false);
        check.due("c by b", tree.post(3, 3), 2);
        check.due("SEQUENCE", tree.post(3, 6), sequence + 1);
        // the GONE goes over the LINK that is down
        check.due("GONES", tree.count(6), 1);
        check.due("REACHES", tree.count(5), reaches + 1);
        tree.ticks(2);
        check.due("r to c by b", tree.route(0, 3, 0), 2);
        check.due("r to c, SEQUENCE", tree.route(0, 3, 1), sequence + 1);
        check.due("a to c, still", tree.route(1, 3, 0), 3);
        tree.join(2, true);
        check.due("c stays", tree.post(3, 3), 2);
        // by hand c leaves b while their LINK stays: the GONE comes to b and goes on to r, the REACH comes by a
        tree.join(1, false);
        tree.join(1, true);
        tree.ticks(4);
        tree.power(3, false);
        tree.power(3, true);
        tree.ticks(4);
        check.due("c by a again", tree.post(3, 3), 1);
        check.due("b to c, nobody told it", tree.route(2, 3, 0), 3);
    }

    private static void gone() {
        String text = "post r;post a;post b;link r a 1;link r b 9;link a b 1;goal costs;first 2;twice 0;enough 9;rise 999;";
        SensorTree tree = Check.of(text);
        tree.ticks(10);
        check.due("b by a", tree.post(2, 3), 1);
        check.due("a to b", tree.route(1, 2, 0), 2);
        check.due("r to b by a", tree.route(0, 2, 0), 1);
        int sequence = tree.post(2, 6);
        tree.cost(1, 1);
        check.due("b by r", tree.post(2, 3), 0);
        check.due("GONES", tree.count(6), 2);
        tree.ticks(1);
        // the GONE has the SEQUENCE ahead of the REACH's
        check.due("a to b, gone", tree.route(1, 2, 0), -2);
        check.due("r to b by itself", tree.route(0, 2, 0), 2);
        check.due("r to b, SEQUENCE", tree.route(0, 2, 1), sequence + 1);
        check.due("GONES, put on", tree.count(6), 3);
        tree.ticks(1);
        check.due("r to b stays: it goes by another one", tree.route(0, 2, 0), 2);
        check.due("GONES, no more", tree.count(6), 3);
    }

    private static void twelveLinks() {
        SensorTree tree = Check.of("post r;post a;post b;post c;link r a 1;link a b 1;link b c 1;first 8;twice 4;enough 1;rise 999;fresh 60;");
        tree.ticks(70);
        for (int i = 0; i < 20 && tree.count(3) > 0; i++) {
            tree.ticks(1);
        }
        check.due("c by b", tree.post(3, 3), 2);
        tree.join(0, false);
        check.due("circle()", tree.circle(), 6);
        check.due("GONES of a, b, c to r, REACHES of them to b", tree.count(3), 6);
        int reaches = tree.count(5);
        // b puts on the REACHES of a and c; a's ends at a, c's goes round between a and b till it came over 12 LINKS
        for (int i = 0; i < 14; i++) {
            tree.ticks(1);
            check.due("REACHES, " + i, tree.count(5), reaches + 2 + Math.min(i, 10));
        }
        check.due("circle() still", tree.circle(), 6);
        check.due("GONES", tree.count(6), 3);
        check.due("lost", tree.count(13), 3);
    }

    private static void mostMessages() {
        StringBuilder text = new StringBuilder("post r;");
        for (char c = 'a'; c <= 'f'; c++) {
            text.append("post ").append(c).append(';');
        }
        // a hangs on r or on b, the others on a
        text.append("link r a 1;link r b 1;link a b 1;link a c 1;link a d 1;link a e 1;link a f 1;");
        text.append("first 2;twice 0;enough 9;apart 0;rise 999;goal costs;");
        SensorTree tree = Check.of(text.toString());
        tree.ticks(20);
        check.due("ROUTES of a", tree.route(1, 3, 0), 3);
        check.due("a by r", tree.post(1, 3), 0);
        int waiting = tree.count(3);
        int put = tree.count(5) + tree.count(6);
        for (int i = 0; i < 40; i++) {
            tree.cost(0, i % 2 == 0 ? 9 : 1);
            int due = Math.min(200, waiting + (i + 1) * 10);
            check.due("count(3) behind " + i, tree.count(3), due);
            check.due("count(5) and count(6)", tree.count(5) + tree.count(6), put + due - waiting);
        }
        int sequence = tree.post(1, 6);
        tree.cost(0, 9);
        check.due("SEQUENCE though the REACH is not put", tree.post(1, 6), sequence + 1);
        tree.ticks(1);
        check.due("all have come", tree.count(3) < 200, true);
    }

    private static void dataEnds() {
        SensorTree tree = Check.of(CHAIN);
        check.due("send(0, 0)", tree.send(0, 0), -1);
        check.due("send(-1, 0)", tree.send(-1, 0), -1);
        check.due("send(0, 3)", tree.send(0, 3), -1);
        counts(tree, 9, 0);
        check.due("NO WAY", tree.send(2, 0), 1);
        check.due("UNKNOWN", tree.send(0, 2), 2);
        counts(tree, 9, 2);
        tree.ticks(60);
        check.due("CAME down", tree.send(0, 2), 0);
        check.due("CAME up", tree.send(2, 0), 0);
        check.due("CAME up one", tree.send(2, 1), 0);
        tree.power(2, false);
        check.due("to one that is off", tree.send(0, 2), -1);
        check.due("from one that is off", tree.send(2, 0), -1);
        tree.undo();
        tree.power(1, false);
        tree.power(1, true);
        check.due("WRONG", tree.send(0, 2), 5);
        check.due("the ROUTE is gone", tree.route(0, 2, 0), -2);
        check.due("UNKNOWN then", tree.send(0, 2), 2);
        tree.undo();
        check.due("undone: UNKNOWN", tree.route(0, 2, 0), -2);
        tree.undo();
        check.due("undone: WRONG", tree.route(0, 2, 0), 1);
        tree.undo();
        tree.undo();
        check.due("undone: power", tree.post(1, 2), 20);
        tree.join(1, false);
        check.due("BROKEN", tree.send(0, 2), 3);
        check.due("BROKEN behind a hop", tree.would(0, 2, 1), 1);
    }

    private static void dataAgainst() {
        SensorTree tree = Check.of(CHAIN);
        tree.ticks(60);
        check.due("LONG of b", tree.post(2, 7), 8);
        // a turns to b, which does not know yet that a's RANK is greater now
        tree.cost(0, 9);
        check.due("RANK of a", tree.post(1, 2), 40);
        check.due("PARENT of a", tree.post(1, 3), 2);
        check.due("AGAINST", tree.would(1, 2, 2), 1);
        check.due("nothing happened", tree.post(2, 7), 8);
        check.due("send(1, 2)", tree.send(1, 2), 0);
        check.due("LONG of b, anew", tree.post(2, 7), 2);
        check.due("how far b is, anew", tree.post(2, 8), 0);
        tree.undo();
        check.due("undone", tree.post(2, 7), 8);
        check.due("LOOP", tree.send(2, 0), 4);
        check.due("LOOP, hops", tree.would(2, 0, 1), 3);
        check.due("LOOP, AGAINST", tree.would(2, 0, 2), 2);
        // UP to a RANK alike: a has 30 now, as b has
        SensorTree up = Check.of(CHAIN);
        up.ticks(60);
        up.cost(0, 2);
        check.due("RANK of a", up.post(1, 2), 30);
        check.due("UP to one alike", up.would(2, 0, 2), 1);
        check.due("it came", up.would(2, 0, 0), 0);
        // DOWN to a RANK alike: b hangs on r now, as a does
        SensorTree down = Check.of("post r;post a;post b;link r a 1;link r b 9;link a b 1;goal costs;first 2;twice 0;enough 9;rise 999;");
        down.ticks(10);
        down.cost(1, 1);
        check.due("RANK of b", down.post(2, 2), 20);
        check.due("DOWN to one alike", down.would(1, 2, 2), 1);
        check.due("it came", down.would(1, 2, 0), 0);
    }

    private static void undo() {
        SensorTree tree = Check.of(CHAIN);
        check.due("undo() of nothing", tree.undo(), false);
        tree.ticks(30);
        int adverts = tree.count(4);
        int waiting = tree.count(3);
        tree.join(1, false);
        tree.cost(0, 5);
        tree.power(2, false);
        tree.repair();
        tree.send(0, 1);
        counts(tree, 9, 6);
        for (int i = 0; i < 3; i++) {
            check.due("undo()", tree.undo(), true);
        }
        post(tree, 0, 1, 0);
        check.due("b is on again", tree.post(2, 0), 1);
        check.due("undo() of cost", tree.undo(), true);
        check.due("COST", tree.link(0, 2), 1);
        check.due("undo() of join", tree.undo(), true);
        check.due("up", tree.link(1, 3), 1);
        check.due("PARENT of b", tree.post(2, 3), 1);
        counts(tree, 2, 30, 3, waiting, 4, adverts, 6, 0, 9, 1);
        check.due("undo() of ticks", tree.undo(), true);
        counts(tree, 2, 0, 3, 0, 4, 0, 9, 0);
        check.due("undo() of nothing", tree.undo(), false);
        for (int i = 1; i <= 23; i++) {
            tree.ticks(i);
        }
        counts(tree, 9, 20);
        for (int i = 1; i <= 20; i++) {
            check.due("undo() " + i, tree.undo(), true);
        }
        counts(tree, 2, 1 + 2 + 3, 9, 0);
        check.due("undo() 21", tree.undo(), false);
    }
}

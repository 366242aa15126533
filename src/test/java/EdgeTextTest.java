import java.util.List;

/** The document's Terms (TEXT, TOKENS, FAULTS) and promises 1 to 5, sentence by sentence. */
public final class EdgeTextTest {
    private static final int SYNTAX = 1;
    private static final int ROOM = 2;
    private static final int TWICE = 3;
    private static final int NAME = 4;
    private static final int WRONG = 5;
    private static final List<String> SETTINGS =
        List.of("first", "twice", "enough", "apart", "rise", "rest", "fresh", "noise", "seed");
    private static final List<String> WORDS = List.of("post", "link", "first", "twice", "enough", "apart", "rise", "rest",
        "fresh", "noise", "seed", "goal", "hops", "costs");
    private static final String PAIR = "post r;post a;link r a 1;";

    public static void main(String[] args) throws IllegalAccessException {
        Edge.runAll(EdgeTextTest.class);
    }

    // ---- helpers

    private static String shown(String text) {
        return text.length() > 70 ? text.substring(0, 30) + " .. " + text.substring(text.length() - 30) : text;
    }

    private static void fault(String text, int number, int place) {
        SensorTree tree = new SensorTree();
        Edge.due("read() of '" + shown(text) + "'", Check.read(tree, text), number);
        Edge.due("place() of '" + shown(text) + "'", tree.place(), place);
    }

    private static void good(String text) {
        fault(text, 0, Edge.NONE);
    }

    private static String posts(int n) {
        StringBuilder text = new StringBuilder();
        for (int i = 0; i < n; i++) {
            text.append("post ").append((char) ('a' + i)).append(';');
        }
        return text.toString();
    }

    /** Seven POSTS (49 bytes) and so many LINKS of 11 bytes each. */
    private static String links(int n) {
        StringBuilder text = new StringBuilder(posts(7));
        int told = 0;
        for (char a = 'a'; a <= 'g'; a++) {
            for (char b = (char) (a + 1); b <= 'g' && told < n; b++) {
                text.append("link ").append(a).append(' ').append(b).append(" 1;");
                told++;
            }
        }
        return text.toString();
    }

    /** A number just out of its bounds is WRONG at the INT, the bounds themselves are not. */
    private static void bounds(String word, int least, int most) {
        int at = word.length() + 1;
        good(word + " " + least + ";");
        good(word + " " + most + ";");
        if (least > 0) {
            fault(word + " " + (least - 1) + ";", WRONG, at);
            fault(word + " 0;", WRONG, at);
        }
        if (most < 9999) {
            fault(word + " " + (most + 1) + ";", WRONG, at);
            fault(word + " 9999;", WRONG, at);
        }
    }

    // ---- Terms: a TEXT and its TOKENS

    static void textOf2000Bytes() {
        Edge.says("Terms", "A TEXT has 2,000 bytes at most.");
        SensorTree tree = new SensorTree();
        Edge.due("read()", Check.read(tree, " ".repeat(1993) + "post r;"), 0);
        Edge.due("the TELL that ends at byte 1,999 counts", tree.count(0), 1);
        fault(" ".repeat(1999) + "x", SYNTAX, 1999);
        fault(" ".repeat(1994) + "post r", SYNTAX, 2000);
        Check.type(tree, " ".repeat(2000));
        Edge.due("a byte more", tree.feed(0, 0, 0, 0, 0), Edge.NONE);
    }

    static void blanksBetweenOrNot() {
        Edge.says("Terms", "TOKENS, the longest that can be, with blanks (9, 10, 13, 32) between or not:");
        for (int b = 0; b < 256; b++) {
            boolean letter = b >= 'a' && b <= 'z';
            boolean blank = b == 9 || b == 10 || b == 13 || b == 32;
            if (b == ';') {
                fault("post r;;", SYNTAX, 7);
            } else if (letter || blank) {
                good("post r" + (char) b + ";");
            } else {
                fault("post r" + (char) b + ";", SYNTAX, 6);
            }
        }
        good("\tpost\nr\r; post  \t\n\r a;link r a\n1;seed\t7\r;");
        good("post r;post a;link r a7;seed7;goal hops;");
        // the longest: one NAME, one INT, not two TOKENS
        fault("postr;", SYNTAX, 0);
        good("post postpost;");
        fault("first 12;", WRONG, 6);
        fault("first 1 2;", SYNTAX, 8);
        fault("post r s;", SYNTAX, 7);
    }

    static void namesOfEightLetters() {
        Edge.says("Terms", "NAMES (letters a .. z, 8 at most, none of the words in quotes),");
        for (char c = 'a'; c <= 'z'; c++) {
            good("post " + c + ";");
            fault("post " + (char) (c - 32) + ";", SYNTAX, 5);
        }
        fault("post " + (char) ('a' - 1) + ";", SYNTAX, 5);
        fault("post " + (char) ('z' + 1) + ";", SYNTAX, 5);
        good("post abcdefgh;");
        fault("post abcdefghi;", SYNTAX, 5);
        fault("post " + "z".repeat(1900) + ";", SYNTAX, 5);
        for (String word : WORDS) {
            fault("post " + word + ";", SYNTAX, 5);
            fault("post q;link q " + word + " 1;", SYNTAX, 14);
            good("post " + word + "x;");
            good("post x" + word + ";");
            good("post " + word.substring(1) + ";");
            good("post " + word.substring(0, word.length() - 1) + ";");
        }
        SensorTree tree = Check.of("post abcdefgh;post abcdefgi;post abcdefg;post bbcdefgh;");
        Edge.due("NAMES that differ in one letter are four", tree.count(0), 4);
    }

    static void intsOfFourDigits() {
        Edge.says("Terms", "INTS (1 to 4 digits),");
        good("seed 0;");
        good("seed 10;");
        good("seed 999;");
        good("seed 9999;");
        good("seed 0000;");
        fault("seed 00000;", SYNTAX, 5);
        fault("seed 10000;", SYNTAX, 5);
        fault("seed " + "1".repeat(1900) + ";", SYNTAX, 5);
        fault("seed " + (char) ('0' - 1) + ";", SYNTAX, 5);
        fault("seed " + (char) ('9' + 1) + ";", SYNTAX, 5);
        Edge.due("0008 is 8", Check.of("post r;first 0008;").post(0, 7), 8);
        Edge.due("each digit counts", Check.of("post r;first 8;seed 4073;").post(0, 10), Edge.fires(8, 4073, 0, 0));
    }

    static void signAndWhatIsNoToken() {
        Edge.says("Terms", "the SIGN ; . A longer one, all else, is no TOKEN.");
        fault("post r:", SYNTAX, 6);
        fault("post r,", SYNTAX, 6);
        fault("post r<", SYNTAX, 6);
        good("post r;");
        // what is no TOKEN is found where it begins, also where no TOKEN of its sort could stand
        fault("post r;abcdefghi", SYNTAX, 7);
        fault("post r;  12345", SYNTAX, 9);
        fault("post r;postpostp r;", SYNTAX, 7);
        fault("post r;-1", SYNTAX, 7);
        fault("post r;" + (char) 0, SYNTAX, 7);
        fault("post r;" + (char) 255, SYNTAX, 7);
    }

    static void grammar() {
        Edge.says("Terms", "text: {TELL}. TELL: 'post' NAME ';' | 'link' NAME NAME INT ';' | ('first' | 'twice' | "
            + "'enough' | 'apart' | 'rise' | 'rest' | 'fresh' | 'noise' | 'seed') INT ';' | 'goal' ('hops' | 'costs') ';'.");
        good("");
        good(" \t\r\n");
        fits("", "post", "link", "goal", "*settings");
        fits("post ", "zz");
        fits("post zz ", ";");
        fits("post zz;", "post", "link", "goal", "*settings");
        fits("link ", "zz");
        fits("link zz ", "zz");
        fits("link zz zz ", "3");
        fits("link zz zz 3 ", ";");
        fits("goal ", "hops", "costs");
        fits("goal hops ", ";");
        fits("goal costs ", ";");
        for (String word : SETTINGS) {
            fits(word + " ", "3");
            fits(word + " 3 ", ";");
        }
    }

    /** Behind this beginning just these TOKENS go on, and the text can end only between two TELLS. */
    private static void fits(String ahead, String... going) {
        List<String> all = List.of(going);
        for (String word : WORDS) {
            fits(ahead, word, all.contains(word) || all.contains("*settings") && SETTINGS.contains(word));
        }
        fits(ahead, "zz", all.contains("zz"));
        fits(ahead, "3", all.contains("3"));
        fits(ahead, ";", all.contains(";"));
        fits(ahead, "?", false);
        if (!all.contains("*settings")) {
            fault(ahead, SYNTAX, ahead.length());
        }
    }

    private static void fits(String ahead, String token, boolean goesOn) {
        // what is none at the end: the first fault stands there only if the TOKEN ahead of it could
        String text = ahead + token + " ?";
        fault(text, SYNTAX, goesOn ? text.length() - 1 : ahead.length());
    }

    // ---- Terms: what can be told

    static void sevenPosts() {
        Edge.says("Terms", "POSTS, 7 at most, numbered from 0 on as they stand; POST 0 is the ROOT.");
        Edge.due("no POST", Check.of("").count(0), 0);
        Edge.due("one POST", Check.of(posts(1)).count(0), 1);
        SensorTree seven = Check.of(posts(7));
        Edge.due("seven POSTS", seven.count(0), 7);
        Edge.post(seven, 0, 2, 10);
        Edge.post(seven, 6, 2, Edge.NEVER);
        Edge.post(seven, 7, 2, Edge.NONE);
        fault(posts(8), ROOM, 49);
        SensorTree turned = Check.of("post z;post b;post a;link a z 1;link z b 1;");
        Edge.due("z was told first", turned.link(0, 1), 0);
        Edge.due("a was told third", turned.link(0, 0), 2);
        Edge.due("b was told second", turned.link(1, 1), 1);
    }

    static void sixteenLinks() {
        Edge.says("Terms", "LINKS, 16 at most, numbered likewise: of two POSTS, unlike, no two LINKS of the same two; "
            + "a COST 1 .. 9.");
        Edge.due("no LINK", Check.of(links(0)).count(1), 0);
        SensorTree sixteen = Check.of(links(16));
        Edge.due("sixteen LINKS", sixteen.count(1), 16);
        Edge.due("the first one", sixteen.link(0, 1), 1);
        Edge.due("the last one", sixteen.link(15, 1), 4);
        Edge.due("one beyond", sixteen.link(16, 1), Edge.NONE);
        fault(links(17), ROOM, 49 + 16 * 11);
        fault(posts(2) + "link a a 1;", TWICE, 21);
        fault(posts(2) + "link a b 1;link a b 1;", TWICE, 32);
        fault(posts(2) + "link a b 0;", WRONG, 23);
        good(posts(2) + "link a b 1;");
        good(posts(2) + "link a b 9;");
        fault(posts(2) + "link a b 10;", WRONG, 23);
    }

    static void fullTextsOneBehindTheOther() {
        Edge.says("Terms", "LINKS, 16 at most,");
        // what was told ahead, with a FAULT or without, takes no room
        SensorTree tree = new SensorTree();
        for (int i = 0; i < 3; i++) {
            Edge.due("read() of 7 POSTS and 16 LINKS", Check.read(tree, links(16)), 0);
            Edge.due("read() of 17 LINKS", Check.read(tree, links(17)), ROOM);
            Edge.due("read() of 8 POSTS", Check.read(tree, posts(8)), ROOM);
            Edge.count(tree, 0, 7);
            Edge.count(tree, 1, 16);
        }
        Edge.due("read() of 400 TOKENS", Check.read(tree, "rest1;".repeat(133) + "post"), SYNTAX);
        Edge.due("read() of few", Check.read(tree, "post r;"), 0);
    }

    static void firstIsEven() {
        Edge.says("Terms", "FIRST 2 .. 8 (4; it is made even, one less if it is odd),");
        bounds("first", 2, 8);
        Edge.due("untold", Check.of("post r;").post(0, 7), 4);
        int[] made = {2, 2, 4, 4, 6, 6, 8};
        for (int first = 2; first <= 8; first++) {
            Edge.due("FIRST " + first, Check.of("post r;first " + first + ";").post(0, 7), made[first - 2]);
        }
        fault("first 1;", WRONG, 6);
        fault("first 9;", WRONG, 6);
    }

    static void twiceZeroToFour() {
        Edge.says("Terms", "TWICE 0 .. 4 (3),");
        bounds("twice", 0, 4);
        for (int twice = 0; twice <= 4; twice++) {
            SensorTree tree = Check.of("post r;first 2;twice " + twice + ";");
            tree.ticks(200);
            Edge.due("LONG at last with TWICE " + twice, tree.post(0, 7), 2 << twice);
        }
        SensorTree untold = Check.of("post r;first 2;");
        untold.ticks(200);
        Edge.due("LONG at last, untold", untold.post(0, 7), 16);
    }

    static void enoughOneToNine() {
        Edge.says("Terms", "ENOUGH 1 .. 9 (2),");
        bounds("enough", 1, 9);
        for (int enough = 1; enough <= 9; enough++) {
            String told = "enough " + enough + ";";
            Edge.due("spared with one less than ENOUGH " + enough, sparedBehind(told, enough - 1), 0);
            Edge.due("spared with ENOUGH " + enough, sparedBehind(told, enough), 1);
        }
        Edge.due("spared with one, untold", sparedBehind("", 1), 0);
        Edge.due("spared with two, untold", sparedBehind("", 2), 1);
    }

    /**
     * Whether the POST h spares its ADVERT when it HEARD so many. None of its five hangs on the ROOT, so all have the RANK
     * NEVER and all ADVERTS are alike; they are on only for the two ticks in which one of theirs comes to h.
     */
    private static int sparedBehind(String told, int heard) {
        SensorTree tree = Check.of("post r;post h;post a;post b;post c;post d;post e;"
            + "link h a 1;link h b 1;link h c 1;link h d 1;link h e 1;first 2;twice 4;" + told);
        for (int post = 2; post <= 6; post++) {
            tree.power(post, false);
        }
        Edge.until(tree, () -> tree.post(1, 7) == 32 && tree.post(1, 8) == 0);
        for (int left = heard; left > 0; left -= 5) {
            int some = Math.min(left, 5);
            for (int post = 2; post < 2 + some; post++) {
                tree.power(post, true);
            }
            tree.ticks(2);
            for (int post = 2; post < 2 + some; post++) {
                tree.power(post, false);
            }
        }
        Edge.due("HEARD by h", tree.post(1, 9), heard);
        int spared = tree.count(14);
        int put = tree.count(4);
        Edge.until(tree, () -> tree.post(1, 8) == tree.post(1, 10));
        // the ROOT, whose TIMER goes like h's, never spares, as nobody is its NEIGHBOUR
        Edge.due("put or spared", tree.count(4) - put + tree.count(14) - spared > 0, true);
        return tree.count(14) - spared;
    }

    static void apartZeroTo99() {
        Edge.says("Terms", "APART 0 .. 99 (5),");
        bounds("apart", 0, 99);
        Edge.due("APART 99, 100 less: it leaves", parentOfB("apart 99;", "link r b 1;"), 0);
        Edge.due("APART 99, 90 less: it stays", parentOfB("apart 99;", "link r b 2;"), 1);
        Edge.due("APART 0, 10 less: it leaves", parentOfB("apart 0;", "link b c 1;"), 3);
        Edge.due("APART 0, alike: it stays", parentOfB("apart 0;", "link b c 2;"), 1);
        Edge.due("untold, 10 less: it leaves", parentOfB("", "link b c 1;"), 3);
        Edge.due("untold, alike: it stays", parentOfB("", "link b c 2;"), 1);
    }

    /** The PARENT of b, which hangs on a by 10 + 90 + 20, when another way comes up; c has the RANK 100. */
    private static int parentOfB(String told, String way) {
        SensorTree tree = Check.of("post r;post a;post b;post c;link r a 9;link a b 2;link r c 9;" + way
            + "goal costs;first 2;twice 0;enough 9;rise 999;" + told);
        tree.join(3, false);
        tree.ticks(6);
        Edge.due("RANK of b by a", tree.post(2, 2), 120);
        tree.join(3, true);
        tree.ticks(4);
        return tree.post(2, 3);
    }

    static void riseZeroTo999() {
        Edge.says("Terms", "RISE 0 .. 999 (60),");
        bounds("rise", 0, 999);
        Edge.due("untold: 60 more", poisonedByRise("", 7), 0);
        Edge.due("untold: 70 more", poisonedByRise("", 8), 1);
        Edge.due("RISE 0: nothing more", poisonedByRise("rise 0;", 1), 0);
        Edge.due("RISE 0: 10 more", poisonedByRise("rise 0;", 2), 1);
        Edge.due("RISE 999: 80 more", poisonedByRise("rise 999;", 9), 0);
        // a and b hang on each other and count up by 20: 980 more than the LOWEST is not too much, 1,000 more is
        SensorTree tree = Check.of("post r;post a;post b;link r a 1;link a b 1;first 2;twice 0;enough 9;rise 999;rest 20;");
        tree.ticks(8);
        tree.join(0, false);
        int most = 0;
        for (int i = 0; i < 300 && tree.count(12) == 0; i++) {
            most = Math.max(most, tree.post(1, 2));
            tree.ticks(1);
        }
        Edge.due("the most that a comes to", most, 20 + 980);
        Edge.due("POISONED then", tree.count(12), 1);
    }

    /** Whether a, whose LOWEST is 20, is POISONED when its LINK costs so much. */
    private static int poisonedByRise(String told, int cost) {
        SensorTree tree = Check.of(PAIR + "goal costs;first 2;twice 0;enough 9;" + told);
        tree.ticks(4);
        tree.cost(0, cost);
        return tree.count(12);
    }

    static void restOneTo20() {
        Edge.says("Terms", "REST 1 .. 20 (4),");
        bounds("rest", 1, 20);
        int[] rests = {1, 2, 20, 4};
        for (int i = 0; i < rests.length; i++) {
            String told = i == 3 ? "" : "rest " + rests[i] + ";";
            SensorTree tree = Check.of(PAIR + "goal costs;first 2;twice 0;enough 9;rise 0;" + told);
            tree.ticks(4);
            tree.cost(0, 9);
            Edge.due("RESTS with '" + told + "'", tree.post(1, 5), rests[i]);
            tree.ticks(rests[i] - 1);
            Edge.due("RESTS, one left", tree.post(1, 5), 1);
            Edge.post(tree, 1, 3, Edge.NOBODY);
            tree.ticks(1);
            Edge.due("RESTS no more", tree.post(1, 5), 0);
            Edge.post(tree, 1, 3, 0);
        }
    }

    static void freshTwoTo60() {
        Edge.says("Terms", "FRESH 2 .. 60 (12),");
        bounds("fresh", 2, 60);
        reportsBetween("fresh 2;", 2);
        reportsBetween("fresh 60;", 60);
        reportsBetween("", 12);
    }

    /** a, whose number is 1, REPORTS in the ticks that have the rest 1 by FRESH, and in no other. */
    private static void reportsBetween(String told, int fresh) {
        SensorTree tree = Check.of(PAIR + "first 2;twice 0;enough 9;" + told);
        tree.ticks(2);
        for (int tick = 2; tick < 130; tick++) {
            int ahead = tree.post(1, 6);
            tree.ticks(1);
            Edge.due("REPORTS with '" + told + "' in tick " + tick, tree.post(1, 6) - ahead, tick % fresh == 1 ? 1 : 0);
        }
    }

    static void noiseZeroTo100() {
        Edge.says("Terms", "NOISE 0 .. 100 (0),");
        bounds("noise", 0, 100);
        for (String told : List.of("", "noise 0;")) {
            SensorTree tree = Check.of(PAIR + "first 2;twice 0;enough 9;" + told);
            tree.ticks(200);
            Edge.due("lost with '" + told + "'", tree.count(13), 0);
        }
        SensorTree all = Check.of(PAIR + "first 2;twice 0;enough 9;noise 100;");
        all.ticks(200);
        Edge.due("lost with NOISE 100: all but the last two", all.count(13), all.count(4) - all.count(3));
        Edge.due("RANK of a", all.post(1, 2), Edge.NEVER);
    }

    static void seedZeroTo9999() {
        Edge.says("Terms", "SEED 0 .. 9999 (0),");
        bounds("seed", 0, 9999);
        int[] seeds = {0, 1, 2, 228, 229, 230, 1024, 9998, 9999, 0};
        for (int i = 0; i < seeds.length; i++) {
            String told = i == seeds.length - 1 ? "" : "seed " + seeds[i] + ";";
            SensorTree tree = Check.of(posts(7) + "first 8;" + told);
            for (int post = 0; post < 7; post++) {
                Edge.due("FIRES of " + post + " with '" + told + "'", tree.post(post, 10), Edge.fires(8, seeds[i], 0, post));
            }
        }
    }

    static void goalAndTheLastOnes() {
        Edge.says("Terms", "GOAL (hops): the last ones.");
        String nine = "post r;post a;link r a 9;";
        Edge.due("GOAL untold", Check.of(nine).link(0, 4), 10);
        Edge.due("GOAL hops", Check.of(nine + "goal hops;").link(0, 4), 10);
        Edge.due("GOAL costs", Check.of(nine + "goal costs;").link(0, 4), 90);
        Edge.due("GOAL costs, hops", Check.of("goal costs;" + nine + "goal hops;").link(0, 4), 10);
        Edge.due("GOAL hops, costs", Check.of("goal hops;" + nine + "goal costs;").link(0, 4), 90);
        Edge.due("FIRST 8, 2", Check.of("first 8;post r;first 2;").post(0, 7), 2);
        Edge.due("SEED 5, 77", Check.of("seed 5;post r;first 8;seed 77;").post(0, 10), Edge.fires(8, 77, 0, 0));
        // but each of them must be as told
        fault("first 1;first 2;", WRONG, 6);
        fault("seed 1;seed 2;first 9;first 4;", WRONG, 20);
        // what a text does not tell is as if no text had told it
        SensorTree tree = Check.of(nine + "goal costs;first 8;seed 77;");
        Edge.due("another text", Check.read(tree, nine), 0);
        Edge.due("GOAL untold again", tree.link(0, 4), 10);
        Edge.due("FIRST untold again", tree.post(0, 7), 4);
        Edge.due("SEED untold again", tree.post(1, 10), Edge.fires(4, 0, 0, 1));
    }

    // ---- Terms: FAULTS

    static void firstFaultByPlace() {
        Edge.says("Terms", "FAULTS of a text, the first by its place (a byte; the text's end: its length), of one place the "
            + "least:");
        fault("post;post;", SYNTAX, 4);
        fault("post", SYNTAX, 4);
        fault("post \t ", SYNTAX, 7);
        fault(posts(7) + "post h;post;", ROOM, 49);
        fault(posts(7) + "seed;post h;", SYNTAX, 53);
        fault("seed 1;first 1;seed 1;post a;post a;", WRONG, 13);
        fault("post a;post a;first 1;", TWICE, 12);
        fault("post a;link a x 0;", NAME, 14);
        fault("post a;link a a 0;", TWICE, 14);
        // SYNTAX and ROOM at one place: the 401st TOKEN does not go on
        String many = "rest1;".repeat(133);
        fault(many + "goal goal", SYNTAX, 803);
        fault(many + "goal hops", ROOM, 803);
        // 21 + 10 + 3 * 123 = 400: an eighth POST is the 401st TOKEN, ROOM all the same
        fault(posts(7) + "link a b 1;link a c 1;" + "rest1;".repeat(123) + "post h;", ROOM, 49 + 22 + 738);
    }

    static void syntaxFault() {
        Edge.says("Terms", "1 SYNTAX: a TOKEN, or what is none, with which no text goes on.");
        fault("post r;r", SYNTAX, 7);
        fault("post r;7;", SYNTAX, 7);
        fault("hops", SYNTAX, 0);
        fault(";", SYNTAX, 0);
        fault("post r;!", SYNTAX, 7);
        fault("post r;link r r;", SYNTAX, 15);
        fault("post r;goal costs costs;", SYNTAX, 18);
        fault("post r;link r", SYNTAX, 13);
    }

    static void roomOf400Tokens() {
        Edge.says("Terms", "2 ROOM: a 401st TOKEN;");
        // a LINK has five TOKENS, all others three: 3 + 3 + 5 + 3 + 5 + 3 * 127 = 400
        String text = "post a;post b;link a b 1;post c;link b c 1;";
        good(text + "rest1;".repeat(127));
        fault(text + "rest1;".repeat(127) + "rest 1;", ROOM, text.length() + 127 * 6);
        good("rest1;".repeat(133));
        // the 400th is the first of a TELL, the text's end is no TOKEN
        fault("rest1;".repeat(133) + "rest", SYNTAX, 802);
        fault("rest1;".repeat(133) + "rest ", SYNTAX, 803);
        fault("rest1;".repeat(133) + "rest 1", ROOM, 803);
        fault("rest1;".repeat(133) + "rest?", SYNTAX, 802);
        // the 400th is the INT, the 401st the SIGN
        fault("post a;post b;link a b 1;" + "rest1;".repeat(129) + "rest 1", SYNTAX, 25 + 774 + 6);
        fault("post a;post b;link a b 1;" + "rest1;".repeat(129) + "rest 1;", ROOM, 25 + 774 + 6);
        fault("rest1;".repeat(333), ROOM, 802);
    }

    static void roomOfOneSort() {
        Edge.says("Terms", "one more of a sort than told (at its first TOKEN).");
        good(posts(7));
        fault(posts(7) + " post h;", ROOM, 50);
        fault("rest 1;" + posts(7) + "rest 1;post a;", ROOM, 63);
        good(links(16));
        fault(links(16) + "\nlink a b 1;", ROOM, 49 + 176 + 1);
        fault(links(16) + "post x;", ROOM, 49 + 176);
        // the place is that of the TELL's first TOKEN, so what follows is not looked at
        fault(posts(7) + "post", ROOM, 49);
        fault(links(16) + "link 1", ROOM, 49 + 176);
        // only POSTS and LINKS have a most; the others are told as often as there are TOKENS
        good("first 2;first 2;goal hops;goal hops;".repeat(30));
    }

    static void meaningOnlyWithoutThose() {
        Edge.says("Terms", "If there is none, likewise:");
        fault("post a;post a;!", SYNTAX, 14);
        fault("first 9;link x y 0;post", SYNTAX, 23);
        fault("first 9;" + posts(8), ROOM, 57);
        fault("post a;post a;link x y 0;first 9;", TWICE, 12);
        fault("link x y 0;post a;post a;first 9;", NAME, 5);
        fault("first 9;link x y 0;post a;post a;", WRONG, 6);
    }

    static void twiceFault() {
        Edge.says("Terms", "3 TWICE: a NAME told already; (at a LINK's second NAME) one POST twice, or a LINK of the same two.");
        fault("post a;post a;", TWICE, 12);
        fault("post a;post b;post c;post b;", TWICE, 26);
        fault("post longname;post longname;", TWICE, 19);
        good("post a;post aa;post aaa;");
        fault("post a;link a a 1;", TWICE, 14);
        fault("post a;link a  a 1;", TWICE, 15);
        fault(posts(3) + "link a b 1;link b c 1;link a b 1;", TWICE, 50);
        fault(posts(3) + "link a b 1;link b c 1;link b a 9;", TWICE, 50);
        good(posts(3) + "link a b 1;link b c 1;link c a 1;");
    }

    static void nameFault() {
        Edge.says("Terms", "4 NAME: (at it) no such POST told ahead (a NAME told more than once is that of the first one).");
        fault("link a b 1;post a;post b;", NAME, 5);
        fault("post a;link a b 1;post b;", NAME, 14);
        fault("post b;link a b 1;post a;", NAME, 12);
        fault("post a;link x x 1;", NAME, 12);
        fault("post a;post ab;link a abc 1;", NAME, 22);
        // of a NAME told twice the second telling is a FAULT, and it stands ahead of all that could use it
        fault("post a;post b;post a;link a b 0;", TWICE, 19);
    }

    static void wrongFault() {
        Edge.says("Terms", "5 WRONG (at the INT): a number not as told above.");
        for (String word : SETTINGS) {
            int most = List.of(8, 4, 9, 99, 999, 20, 60, 100, 9999).get(SETTINGS.indexOf(word));
            good(word + " " + most + ";");
            if (most < 9999) {
                fault("post r;" + word + "  " + (most + 1) + ";", WRONG, 7 + word.length() + 2);
            }
        }
        fault(posts(2) + "link a b 0;", WRONG, 23);
        fault(posts(2) + "link a b  0000;", WRONG, 24);
        good(posts(2) + "link a b 0009;");
        fault(posts(2) + "link a b 0010;", WRONG, 23);
        fault(posts(2) + "link a b 9999;", WRONG, 23);
    }

    static void faultChangesNothing() {
        Edge.says("Terms", "A text with a FAULT changes nothing but the tape;");
        List<String> bad = List.of("!", "post", posts(8), "post q;post q;", "link x y 1;", "post q;first 9;goal costs;");
        for (String text : bad) {
            SensorTree tree = Check.of(PAIR + "goal costs;first 2;seed 5;noise 10;");
            tree.ticks(5);
            tree.cost(0, 3);
            tree.hold(1);
            String ahead = standing(tree);
            Edge.due("read() of '" + shown(text) + "'", Check.read(tree, text) > 0, true);
            Edge.alike("what stands", standing(tree), ahead);
            Edge.count(tree, 8, 0);
            tree.ticks(9);
            SensorTree other = Check.of(PAIR + "goal costs;first 2;seed 5;noise 10;");
            other.ticks(5);
            other.cost(0, 3);
            other.hold(1);
            other.ticks(9);
            Edge.alike("what goes on", standing(tree), standing(other));
            Edge.due("undo()", tree.undo(), true);
            Edge.due("undo() once more", tree.undo(), true);
            Edge.due("restore(1)", tree.restore(1), true);
        }
    }

    /** All but the place of the latest FAULT. */
    private static String standing(SensorTree tree) {
        String all = Edge.all(tree);
        return all.substring(0, all.indexOf("place"));
    }

    static void goodTextBeginsAll() {
        Edge.says("Terms", "else it is in place of the one ahead, and all begins: tick 0, all POSTS on, all LINKS up; "
            + "nothing can be undone, SLOTS hold nothing.");
        SensorTree tree = Check.of("post r;post a;post b;link r a 1;link a b 1;goal costs;first 2;noise 30;rise 0;");
        tree.ticks(60);
        tree.cost(0, 9);
        tree.repair();
        tree.ticks(3);
        tree.power(2, false);
        tree.join(1, false);
        for (int slot = 0; slot < 3; slot++) {
            tree.hold(slot);
        }
        String text = "post r;post a;post b;link r a 2;link a b 2;";
        Edge.due("read()", Check.read(tree, text), 0);
        Edge.alike("all begins", Edge.all(tree), Edge.all(Check.of(text)));
        Edge.count(tree, 2, 0);
        Edge.count(tree, 10, 7);
        Edge.due("link(1, 3)", tree.link(1, 3), 1);
        Edge.count(tree, 9, 0);
        Edge.due("undo()", tree.undo(), false);
        Edge.count(tree, 11, 0);
        for (int slot = 0; slot < 3; slot++) {
            Edge.due("restore(" + slot + ")", tree.restore(slot), false);
        }
        // an empty text is a text: nothing is left
        tree.ticks(2);
        tree.hold(0);
        Edge.due("read() of nothing", tree.read(), 0);
        Edge.alike("no POSTS", Edge.all(tree), Edge.all(new SensorTree()));
    }

    // ---- promises 1 to 5

    static void promise1NoPosts() {
        Edge.says("Promise 1", "No POSTS.");
        SensorTree tree = new SensorTree();
        Edge.count(tree, 0, 0);
        for (int what = 0; what <= 17; what++) {
            Edge.count(tree, what, 0);
        }
        Edge.due("post(0, 0)", tree.post(0, 0), Edge.NONE);
        Edge.due("a second one", new SensorTree().count(0), 0);
    }

    static void promise2TwentyBytes() {
        Edge.says("Promise 2", "Twenty bytes, the highest of a first, come behind the tape: how many it has.");
        SensorTree tree = new SensorTree();
        // "post", " abc", "defg", ";  s", "eed1"
        Edge.due("feed", tree.feed(0x706f7374, 0x20616263, 0x64656667, 0x3b202073, 0x65656431), 20);
        Edge.due("feed behind it", tree.feed(0x3b706f73, 0x7420623b, 0x20202020, 0x20202020, 0x20202021), 40);
        Edge.due("read()", tree.read(), 1);
        Edge.due("place() of the last byte", tree.place(), 39);
        // a highest byte above 127 is one that is no TOKEN, and no sign of the bytes below it
        for (int at = 0; at < 20; at++) {
            int[] five = {0x20202020, 0x20202020, 0x20202020, 0x20202020, 0x20202020};
            five[at / 4] ^= (0x20 ^ 0xe9) << 24 - 8 * (at % 4);
            tree.feed(five[0], five[1], five[2], five[3], five[4]);
            Edge.due("read()", tree.read(), 1);
            Edge.due("place() of byte " + at, tree.place(), at);
        }
        for (int i = 1; i <= 100; i++) {
            Edge.due("feed " + i, tree.feed(-1, 0, 1, Integer.MIN_VALUE, Integer.MAX_VALUE), 20 * i);
            Edge.count(tree, 8, 20 * i);
        }
    }

    static void promise2NotMoreThan2000() {
        Edge.says("Promise 2", "NONE, and nothing comes, if it would have more than 2,000.");
        SensorTree tree = new SensorTree();
        Check.type(tree, "post r;" + " ".repeat(1993));
        Edge.due("feed at 2,000", tree.feed(0x21212121, 0x21212121, 0x21212121, 0x21212121, 0x21212121), Edge.NONE);
        Edge.count(tree, 8, 2000);
        tree.back(19);
        Edge.due("feed at 1,981", tree.feed(0x21212121, 0x21212121, 0x21212121, 0x21212121, 0x21212121), Edge.NONE);
        Edge.count(tree, 8, 1981);
        Edge.due("no byte came", tree.read(), 0);
        Check.type(tree, " ".repeat(1980));
        Edge.due("feed at 1,980", tree.feed(0x20202020, 0x20202020, 0x20202020, 0x20202020, 0x20202021), 2000);
        Edge.due("read()", tree.read(), 1);
        Edge.due("the last byte came", tree.place(), 1999);
        Edge.due("feed when it is empty again", tree.feed(0, 0, 0, 0, 0), 20);
    }

    static void promise3LastBytesGo() {
        Edge.says("Promise 3", "The last n bytes of the tape go: how many it has.");
        SensorTree tree = new SensorTree();
        Check.type(tree, "post r;post a;seed 1");
        Edge.due("back(0)", tree.back(0), 20);
        Edge.due("back(6)", tree.back(6), 14);
        Edge.due("read() of the first 14", tree.read(), 0);
        Edge.count(tree, 0, 2);
        Check.type(tree, "post r;post a;seed 1");
        Edge.due("back(1)", tree.back(1), 19);
        Edge.due("back(19)", tree.back(19), 0);
        Edge.due("back(0) of an empty tape", tree.back(0), 0);
        Edge.due("read() of nothing", tree.read(), 0);
        Edge.count(tree, 0, 0);
    }

    static void promise3NotSoMany() {
        Edge.says("Promise 3", "NONE, and nothing goes, if it has not so many, or n is below 0.");
        SensorTree tree = new SensorTree();
        Edge.due("back(1) of an empty tape", tree.back(1), Edge.NONE);
        Check.type(tree, "post r;post a;       ");
        Edge.due("back(22)", tree.back(22), Edge.NONE);
        for (int n : Edge.not0To(21)) {
            Edge.due("back(" + n + ")", tree.back(n), Edge.NONE);
            Edge.count(tree, 8, 21);
        }
        Edge.due("read()", tree.read(), 0);
        Edge.count(tree, 0, 2);
    }

    static void promise4TapeIsEmptyThen() {
        Edge.says("Promise 4", "The tape, which is empty then, is read: 0, or the number of its FAULT.");
        String[] texts = {"", "post r;", "?", posts(8), "post r;post r;", "link x y 1;", "first 1;"};
        int[] numbers = {0, 0, SYNTAX, ROOM, TWICE, NAME, WRONG};
        for (int i = 0; i < texts.length; i++) {
            SensorTree tree = new SensorTree();
            Check.type(tree, texts[i]);
            Edge.due("read() of '" + shown(texts[i]) + "'", tree.read(), numbers[i]);
            Edge.count(tree, 8, 0);
            Edge.due("read() again: an empty text", tree.read(), 0);
        }
    }

    static void promise5LatestPlace() {
        Edge.says("Promise 5", "The byte of the latest read()'s FAULT; NONE without.");
        SensorTree tree = new SensorTree();
        Edge.due("place() of a new one", tree.place(), Edge.NONE);
        Check.read(tree, "?");
        Edge.due("place() of byte 0", tree.place(), 0);
        Check.read(tree, "post r;first 9;");
        Edge.due("place() of the latest", tree.place(), 13);
        Check.type(tree, "post r;");
        tree.ticks(3);
        tree.undo();
        tree.hold(0);
        tree.restore(0);
        Edge.due("place() till the next read()", tree.place(), 13);
        tree.read();
        Edge.due("place() without a FAULT", tree.place(), Edge.NONE);
        Check.read(tree, " ".repeat(1995) + "post ");
        Edge.due("place() of the text's end", tree.place(), 2000);
    }
}

import java.nio.charset.StandardCharsets;
import java.util.Random;

/** Random texts and random calls: SensorTree must answer as Model, the document's plain second telling. */
public final class FuzzTest {
    private static final String[] NAMES = {"r", "a", "b", "cc", "longname", "x", "posts", "y", "z"};
    private final Check check = new Check();
    private final Random random;
    private final SensorTree tree = new SensorTree();
    private final Model model = new Model();
    /** In some runs hardly a tick goes by, so that messages pile up to the most that wait. */
    private final boolean piling;
    private int mostWaiting = 0;
    private String run;

    private FuzzTest(int seed) {
        random = new Random(seed);
        piling = seed % 5 == 0;
        run = "run " + seed;
    }

    public static void main(String[] args) {
        int runs = args.length > 0 ? Integer.parseInt(args[0]) : 400;
        int from = args.length > 1 ? Integer.parseInt(args[1]) : 0;
        int mostWaiting = 0;
        for (int seed = from; seed < from + runs; seed++) {
            FuzzTest test = new FuzzTest(seed);
            test.goThrough();
            if (test.check.wrong() != 0) {
                test.check.finish("FuzzTest, run " + seed);
            }
            mostWaiting = Math.max(mostWaiting, test.mostWaiting);
        }
        System.out.println("FuzzTest: " + runs + " runs alike, at most " + mostWaiting + " messages waited");
    }

    private int upTo(int n) {
        return random.nextInt(n + 1);
    }

    private boolean oneIn(int n) {
        return random.nextInt(n) == 0;
    }

    private String goodText() {
        StringBuilder text = new StringBuilder();
        int posts = oneIn(10) ? upTo(2) : 2 + upTo(5);
        for (int i = 0; i < posts; i++) {
            text.append("post ").append(NAMES[i]).append(';');
        }
        int density = 2 + upTo(6);
        int links = 0;
        for (int a = 0; a < posts; a++) {
            for (int b = a + 1; b < posts; b++) {
                boolean chain = b == a + 1 && !oneIn(5);
                if ((chain || oneIn(density)) && links < 16) {
                    links++;
                    boolean turned = random.nextBoolean();
                    text.append(" link ").append(NAMES[turned ? b : a]).append(' ').append(NAMES[turned ? a : b]);
                    text.append(' ').append(1 + upTo(8)).append(';');
                }
            }
        }
        for (int i = 0; i < Model.SETTINGS.length; i++) {
            if (!oneIn(3)) {
                int least = Model.RANGES[i][0];
                int most = Model.RANGES[i][1];
                if (Model.SETTINGS[i].equals("noise")) {
                    most = oneIn(3) ? 100 : oneIn(2) ? 0 : 20;
                }
                if (Model.SETTINGS[i].equals("rise") && oneIn(2)) {
                    most = 120;
                }
                if (Model.SETTINGS[i].equals("apart") && oneIn(2)) {
                    most = 15;
                }
                int value = least + upTo(most - least);
                text.append('\n').append(Model.SETTINGS[i]).append(random.nextBoolean() ? " " : "").append(value).append(';');
            }
        }
        if (!oneIn(3)) {
            text.append(" goal ").append(random.nextBoolean() ? "hops" : "costs").append(" ;");
        }
        return text.toString();
    }

    private String badText() {
        StringBuilder text = new StringBuilder(goodText());
        if (oneIn(3)) {
            for (int i = upTo(12); i > 0; i--) {
                text.append("post ").append(NAMES[upTo(NAMES.length - 1)]).append(';');
            }
        }
        if (oneIn(3)) {
            for (int i = upTo(150); i > 0; i--) {
                text.append("rest").append(1 + upTo(20)).append(';');
            }
        }
        if (oneIn(3)) {
            for (int i = upTo(18); i > 0; i--) {
                text.append("link ").append(NAMES[upTo(2)]).append(' ').append(NAMES[upTo(3)]).append(" 3;");
            }
        }
        String bits = "abrx;;  129\t\r\n_A\u00e9zpost";
        for (int i = upTo(2); i > 0 && text.length() > 0; i--) {
            int at = random.nextInt(text.length());
            switch (random.nextInt(3)) {
                case 0 -> text.deleteCharAt(at);
                case 1 -> text.insert(at, bits.charAt(random.nextInt(bits.length())));
                default -> text.setCharAt(at, bits.charAt(random.nextInt(bits.length())));
            }
        }
        return text.toString();
    }

    private void readBoth(String text) {
        byte[] bytes = text.getBytes(StandardCharsets.ISO_8859_1);
        for (int at = 0; at < bytes.length; at += 20) {
            int[] five = new int[5];
            for (int i = 0; i < 20; i++) {
                five[i / 4] = five[i / 4] << 8 | (at + i < bytes.length ? bytes[at + i] & 255 : 32);
            }
            int want = model.feed(five);
            check.due(run + " feed", tree.feed(five[0], five[1], five[2], five[3], five[4]), want);
            int spare = want < 0 ? 0 : Math.max(0, at + 20 - bytes.length);
            check.due(run + " back " + spare, tree.back(spare), model.back(spare));
        }
        int fault = model.read();
        check.due(run + " read of " + text, tree.read(), fault);
        check.due(run + " place of " + text, tree.place(), model.place);
    }

    private void goThrough() {
        for (int i = upTo(6); i > 0; i--) {
            readBoth(badText());
        }
        readBoth(goodText() + (piling ? "apart 0; rise 999; noise 0; goal costs;" : ""));
        compareAll();
        int calls = piling ? 150 : 60 + upTo(60);
        for (int i = 0; i < calls && check.wrong() == 0; i++) {
            act();
            compareState();
            if (oneIn(4)) {
                compareAll();
            }
        }
    }

    private int someTicks() {
        return oneIn(12) ? 190 + upTo(15) - 2 : oneIn(3) ? upTo(60) - 1 : upTo(6);
    }

    private void act() {
        int p = upTo(8) - 1;
        int q = upTo(8) - 1;
        int l = upTo(17) - 1;
        if (oneIn(2) && !model.links.isEmpty()) {
            l = random.nextInt(model.links.size());
        }
        boolean way = random.nextBoolean();
        int n = someTicks();
        String was = run;
        int sort = random.nextInt(14);
        if (piling && model.s.tick <= 40) {
            n = 41;
            sort = 0;
        } else if (piling && !oneIn(60)) {
            way = tree.link(l, 3) == 0;
            sort = 4 + sort % 3;
        }
        switch (sort) {
            case 0, 1, 2, 3 -> {
                run = was + " ticks(" + n + ")";
                check.due(run, tree.ticks(n), model.ticks(n));
            }
            case 4, 5 -> {
                run = was + " join(" + l + ", " + way + ")";
                check.due(run, tree.join(l, way), model.join(l, way));
            }
            case 6 -> {
                int c = upTo(10);
                run = was + " cost(" + l + ", " + c + ")";
                check.due(run, tree.cost(l, c), model.cost(l, c));
            }
            case 7, 8 -> {
                run = was + " power(" + p + ", " + way + ")";
                check.due(run, tree.power(p, way), model.power(p, way));
            }
            case 9 -> {
                run = was + " repair()";
                check.due(run, tree.repair(), model.repair());
            }
            case 10, 11 -> {
                run = was + " send(" + p + ", " + q + ")";
                check.due(run, tree.send(p, q), model.send(p, q));
            }
            case 12 -> {
                run = was + " undo()";
                check.due(run, tree.undo(), model.undo());
            }
            default -> keepOrRestore(was, upTo(4) - 1);
        }
        if (run.length() > 400) {
            run = run.substring(0, 8) + " .. " + run.substring(run.length() - 300);
        }
    }

    private void keepOrRestore(String was, int slot) {
        if (oneIn(2)) {
            run = was + " hold(" + slot + ")";
            check.due(run, tree.hold(slot), model.hold(slot));
        } else {
            run = was + " restore(" + slot + ")";
            check.due(run, tree.restore(slot), model.restore(slot));
        }
    }

    private void compareState() {
        mostWaiting = Math.max(mostWaiting, tree.count(3));
        for (int what = -1; what <= 18; what++) {
            check.due(run + " > count(" + what + ")", tree.count(what), model.count(what));
        }
        for (int p = -1; p <= 7; p++) {
            for (int what = -1; what <= 11; what++) {
                check.due(run + " > post(" + p + ", " + what + ")", tree.post(p, what), model.post(p, what));
            }
            for (int q = -1; q <= 7; q++) {
                String two = "(" + p + ", " + q;
                check.due(run + " > heard" + two + ")", tree.heard(p, q), model.heard(p, q));
                for (int what = -1; what <= 2; what++) {
                    check.due(run + " > route" + two + ", " + what + ")", tree.route(p, q, what), model.route(p, q, what));
                }
            }
        }
    }

    private void compareAll() {
        for (int l = -1; l <= 16; l++) {
            for (int what = -1; what <= 5; what++) {
                check.due(run + " > link(" + l + ", " + what + ")", tree.link(l, what), model.link(l, what));
            }
            check.due(run + " > cut(" + l + ")", tree.cut(l), model.cut(l));
        }
        for (int p = -1; p <= 7; p++) {
            check.due(run + " > neighbours(" + p + ")", tree.neighbours(p), model.neighbours(p));
            check.due(run + " > truth(" + p + ")", tree.truth(p), model.truth(p));
            check.due(run + " > below(" + p + ")", tree.below(p), model.below(p));
            check.due(run + " > needs(" + p + ")", tree.needs(p), model.needs(p));
            check.due(run + " > spare(" + p + ")", tree.spare(p), model.spare(p));
            for (int i = -1; i <= 21; i++) {
                check.due(run + " > way(" + p + ", " + i + ")", tree.way(p, i), model.way(p, i));
            }
            compareData(p);
        }
        check.due(run + " > right()", tree.right(), model.right());
        check.due(run + " > circle()", tree.circle(), model.circle());
        check.due(run + " > soon()", tree.soon(), model.soon());
        check.due(run + " > deep()", tree.deep(), model.deep());
        check.due(run + " > reached()", tree.reached(), model.reached());
        check.due(run + " > stretch()", tree.stretch(), model.stretch());
        compareAhead();
        compareState();
    }

    private void compareData(int p) {
        for (int q = -1; q <= 7; q++) {
            for (int what = -1; what <= 3; what++) {
                String call = run + " > would(" + p + ", " + q + ", " + what + ")";
                check.due(call, tree.would(p, q, what), model.would(p, q, what));
            }
            for (int i = -1; i <= 21; i += 1 + upTo(3)) {
                check.due(run + " > hop(" + p + ", " + q + ", " + i + ")", tree.hop(p, q, i), model.hop(p, q, i));
            }
        }
    }

    private void compareAhead() {
        for (int k = 0; k < 2; k++) {
            int n = someTicks();
            int p = upTo(8) - 1;
            int what = upTo(3) - 1;
            int seeds = upTo(11);
            check.due(run + " > busy(" + n + ")", tree.busy(n), model.busy(n));
            check.due(run + " > lull(" + n + ")", tree.lull(n), model.lull(n));
            check.due(run + " > then(" + p + ", " + n + ", " + what + ")", tree.then(p, n, what), model.then(p, n, what));
            if (oneIn(3)) {
                check.due(run + " > year(" + n + ", " + seeds + ")", tree.year(n, seeds), model.year(n, seeds));
            }
        }
    }
}

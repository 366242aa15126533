/** Sensors that hang in a tree by their ranks, as ../shared/DOC.md tells it; README.md says how to use it. */
public final class SensorTree {
    public static final int NONE = -1;

    private static final int NEVER = 9999;
    /** What stands where there is no PARENT or no ROUTE, and the answer of calls that say so. */
    private static final int NOBODY = -2;
    private static final int ROOT = 0;
    private static final int ROOT_RANK = 10;
    private static final int MOST_POSTS = 7;
    private static final int MOST_LINKS = 16;
    private static final int MOST_COST = 9;
    private static final int MOST_BYTES = 2000;
    private static final int BYTES_FED = 20;
    private static final int MOST_TICKS = 200;
    private static final int MOST_VERSION = 99;
    private static final int MOST_SEEDS = 10;
    private static final int MOST_ON_WAY = 20;
    private static final int MOST_PAST = 20;
    private static final int SLOTS = 3;

    private final Tape tape = new Tape();
    private final Reader reader = new Reader();
    private final Plan plan = new Plan();
    private final Net now = new Net(plan);
    private final Net trial = new Net(plan);
    private final Engine live = new Engine(now);
    private final Engine dream = new Engine(trial);
    private final Truth truth = new Truth();
    private final Journey journey = new Journey(now);
    private final Net[] past = new Net[MOST_PAST];
    private int pastEnd = 0;
    private int pastSize = 0;
    private final Net[] slots = new Net[SLOTS];
    private final boolean[] slotHolds = new boolean[SLOTS];

    public SensorTree() {
        for (int i = 0; i < MOST_PAST; i++) {
            past[i] = new Net(plan);
        }
        for (int i = 0; i < SLOTS; i++) {
            slots[i] = new Net(plan);
        }
        live.beginAll();
    }

    // ---- the tape

    public int feed(int a, int b, int c, int d, int e) {
        if (tape.length + BYTES_FED > MOST_BYTES) {
            return NONE;
        }
        tape.putFour(a);
        tape.putFour(b);
        tape.putFour(c);
        tape.putFour(d);
        tape.putFour(e);
        return tape.length;
    }

    public int back(int n) {
        if (n < 0 || n > tape.length) {
            return NONE;
        }
        tape.length -= n;
        return tape.length;
    }

    public int read() {
        reader.take(tape);
        tape.length = 0;
        if (reader.fault == Tokens.NO_FAULT) {
            plan.copyFrom(reader.draft);
            live.beginAll();
            forgetPast();
            for (int i = 0; i < SLOTS; i++) {
                slotHolds[i] = false;
            }
        }
        return reader.fault;
    }

    public int place() {
        return reader.place;
    }

    // ---- what is done

    public int ticks(int n) {
        if (!isTicks(n)) {
            return NONE;
        }
        if (n > 0) {
            remember();
        }
        for (int i = 0; i < n; i++) {
            live.passTick();
        }
        return now.tick;
    }

    public boolean join(int link, boolean up) {
        if (!plan.isLink(link) || now.isUp(link) == up) {
            return false;
        }
        remember();
        now.up[link] = up ? 1 : 0;
        live.allChoose();
        return true;
    }

    public boolean cost(int link, int cost) {
        if (!plan.isLink(link) || cost < 1 || cost > MOST_COST || now.cost[link] == cost) {
            return false;
        }
        remember();
        now.cost[link] = cost;
        live.allChoose();
        return true;
    }

    public boolean power(int post, boolean on) {
        if (!plan.isPost(post) || post == ROOT || now.posts[post].on == on) {
            return false;
        }
        remember();
        if (on) {
            live.beginPost(post);
        } else {
            now.posts[post].on = false;
        }
        live.allChoose();
        return true;
    }

    public int repair() {
        if (plan.posts == 0 || now.posts[ROOT].version >= MOST_VERSION) {
            return NONE;
        }
        remember();
        now.posts[ROOT].version++;
        live.beginAnew(ROOT);
        return now.posts[ROOT].version;
    }

    public int send(int from, int to) {
        if (!canSend(from, to)) {
            return NONE;
        }
        remember();
        journey.go(from, to);
        for (int i = 0; i < journey.against; i++) {
            live.beginAnew(journey.againstAt[i]);
        }
        if (journey.end == Journey.WRONG) {
            now.posts[journey.cameFrom].route[to] = NOBODY;
        }
        return journey.end;
    }

    public boolean undo() {
        if (pastSize == 0) {
            return false;
        }
        pastEnd = pastEnd == 0 ? MOST_PAST - 1 : pastEnd - 1;
        pastSize--;
        now.copyFrom(past[pastEnd]);
        return true;
    }

    // ---- what stands

    public int post(int post, int what) {
        return plan.isPost(post) ? now.posts[post].tell(what) : NONE;
    }

    public int heard(int post, int of) {
        return areTwoPosts(post, of) ? now.posts[post].heard[of] : NONE;
    }

    public int route(int post, int to, int what) {
        if (!areTwoPosts(post, to) || what < 0 || what > 1) {
            return NONE;
        }
        Post p = now.posts[post];
        if (p.route[to] == NOBODY) {
            return NOBODY;
        }
        return what == 0 ? p.route[to] : p.routeSequence[to];
    }

    public int link(int link, int what) {
        if (!plan.isLink(link)) {
            return NONE;
        }
        switch (what) {
            case 0: return plan.linkFrom[link];
            case 1: return plan.linkTo[link];
            case 2: return now.cost[link];
            case 3: return now.up[link];
            case 4: return now.stepOf(link);
            default: return NONE;
        }
    }

    public int neighbours(int post) {
        if (!plan.isPost(post)) {
            return NONE;
        }
        int bits = 0;
        for (int other = 0; other < plan.posts; other++) {
            if (now.areNeighbours(post, other)) {
                bits |= 1 << other;
            }
        }
        return bits;
    }

    public int truth(int post) {
        if (!isOn(post)) {
            return NONE;
        }
        truth.reckon(now, NONE);
        return truth.rank[post];
    }

    public int right() {
        truth.reckon(now, NONE);
        return truth.isRight(now) ? 1 : 0;
    }

    public int circle() {
        int bits = 0;
        for (int post = 0; post < plan.posts; post++) {
            if (now.comesTo(post, post)) {
                bits |= 1 << post;
            }
        }
        return bits;
    }

    public int below(int post) {
        if (!plan.isPost(post)) {
            return NONE;
        }
        int bits = 0;
        for (int other = 0; other < plan.posts; other++) {
            if (other != post && now.comesTo(other, post)) {
                bits |= 1 << other;
            }
        }
        return bits;
    }

    public int way(int post, int i) {
        if (!plan.isPost(post) || i < 0 || i > MOST_ON_WAY) {
            return NONE;
        }
        int at = post;
        for (int k = 0; k < i; k++) {
            at = now.posts[at].parent;
            if (!plan.isPost(at)) {
                return NONE;
            }
        }
        return at;
    }

    // ---- what would be

    public int would(int from, int to, int what) {
        if (!canSend(from, to)) {
            return NONE;
        }
        journey.go(from, to);
        switch (what) {
            case 0: return journey.end;
            case 1: return journey.size;
            case 2: return journey.against;
            default: return NONE;
        }
    }

    public int hop(int from, int to, int i) {
        if (!canSend(from, to)) {
            return NONE;
        }
        journey.go(from, to);
        return i >= 0 && i < journey.size ? journey.hops[i] : NONE;
    }

    public int soon() {
        trial.copyFrom(now);
        // no TICK changes what TRUE RANKS hang on, so they are reckoned once
        truth.reckon(trial, NONE);
        for (int n = 0; n <= MOST_TICKS; n++) {
            if (truth.isRight(trial)) {
                return n;
            }
            dream.passTick();
        }
        return NOBODY;
    }

    public int busy(int n) {
        if (!isTicks(n)) {
            return NONE;
        }
        dreamOn(n, 0);
        return trial.messagesPut() - now.messagesPut();
    }

    public int cut(int link) {
        if (!plan.isLink(link) || !now.isUp(link)) {
            return NONE;
        }
        truth.reckon(now, NONE);
        int with = truth.postsReached(now);
        truth.reckon(now, link);
        return with - truth.postsReached(now);
    }

    public int needs(int post) {
        if (!isOn(post)) {
            return NONE;
        }
        truth.reckon(now, NONE);
        int least = truth.rank[post];
        int bits = 0;
        for (int link = 0; link < plan.links; link++) {
            if (now.isUp(link)) {
                truth.reckon(now, link);
                bits |= truth.rank[post] > least ? 1 << link : 0;
            }
        }
        return bits;
    }

    public int spare(int post) {
        if (!isOn(post) || post == ROOT || now.posts[post].parent == NOBODY) {
            return NONE;
        }
        return now.bestOffer(post, now.posts[post].parent);
    }

    public int deep() {
        int most = 0;
        for (int post = 0; post < plan.posts; post++) {
            most = Math.max(most, now.depth(post));
        }
        return most;
    }

    public int reached() {
        int come = 0;
        for (int from = 0; from < plan.posts; from++) {
            for (int to = 0; to < plan.posts; to++) {
                if (canSend(from, to)) {
                    journey.go(from, to);
                    come += journey.end == Journey.CAME ? 1 : 0;
                }
            }
        }
        return come;
    }

    public int lull(int n) {
        if (!isTicks(n) || n == 0) {
            return NONE;
        }
        trial.copyFrom(now);
        int most = 0;
        int calm = 0;
        for (int i = 0; i < n; i++) {
            int ahead = trial.messagesPut();
            dream.passTick();
            calm = trial.messagesPut() == ahead ? calm + 1 : 0;
            most = Math.max(most, calm);
        }
        return most;
    }

    public int stretch() {
        truth.reckon(now, NONE);
        return truth.sumBeyond(now);
    }

    public int then(int post, int n, int what) {
        if (!plan.isPost(post) || !isTicks(n) || what < 0 || what > 1) {
            return NONE;
        }
        dreamOn(n, 0);
        return what == 0 ? trial.posts[post].rank : trial.posts[post].parent;
    }

    public int year(int n, int s) {
        if (!isTicks(n) || s < 1 || s > MOST_SEEDS) {
            return NONE;
        }
        truth.reckon(now, NONE);
        int good = 0;
        for (int seedsOn = 0; seedsOn < s; seedsOn++) {
            dreamOn(n, seedsOn);
            good += truth.isRight(trial) ? 1 : 0;
        }
        return good;
    }

    // ---- what is kept

    public boolean hold(int slot) {
        if (slot < 0 || slot >= SLOTS) {
            return false;
        }
        slots[slot].copyFrom(now);
        slotHolds[slot] = true;
        return true;
    }

    public boolean restore(int slot) {
        if (slot < 0 || slot >= SLOTS || !slotHolds[slot]) {
            return false;
        }
        now.copyFrom(slots[slot]);
        forgetPast();
        return true;
    }

    public int count(int what) {
        switch (what) {
            case 0: return plan.posts;
            case 1: return plan.links;
            case 2: return now.tick;
            case 3: return now.waiting.size;
            case 4: return now.adverts;
            case 5: return now.reaches;
            case 6: return now.gones;
            case 7: return now.routes();
            case 8: return tape.length;
            case 9: return pastSize;
            case 10: return now.postsOn();
            case 11: return slotsHolding();
            case 12: return now.poisoned;
            case 13: return now.lost;
            case 14: return now.spared;
            case 15: return now.greatestRank();
            case 16: return now.postsResting();
            case 17: return now.postsAlone();
            default: return NONE;
        }
    }

    // ---- what the calls above share

    private static boolean isTicks(int n) {
        return n >= 0 && n <= MOST_TICKS;
    }

    private boolean isOn(int post) {
        return plan.isPost(post) && now.posts[post].on;
    }

    private boolean areTwoPosts(int a, int b) {
        return plan.isPost(a) && plan.isPost(b) && a != b;
    }

    private boolean canSend(int from, int to) {
        return areTwoPosts(from, to) && isOn(from) && isOn(to);
    }

    /** Called ahead of each thing done; the ring's oldest one gives way. */
    private void remember() {
        past[pastEnd].copyFrom(now);
        pastEnd = pastEnd + 1 == MOST_PAST ? 0 : pastEnd + 1;
        pastSize = Math.min(MOST_PAST, pastSize + 1);
    }

    private void forgetPast() {
        pastEnd = 0;
        pastSize = 0;
    }

    private int slotsHolding() {
        int holding = 0;
        for (int i = 0; i < SLOTS; i++) {
            holding += slotHolds[i] ? 1 : 0;
        }
        return holding;
    }

    private void dreamOn(int n, int seedsOn) {
        trial.copyFrom(now);
        dream.seedsOn = seedsOn;
        for (int i = 0; i < n; i++) {
            dream.passTick();
        }
        dream.seedsOn = 0;
    }

    /** The bytes that were fed and not yet read. */
    private static final class Tape {
        final byte[] bytes = new byte[MOST_BYTES];
        int length = 0;

        void putFour(int four) {
            for (int shift = 24; shift >= 0; shift -= 8) {
                if (length < MOST_BYTES) {
                    bytes[length] = (byte) (four >>> shift);
                    length++;
                }
            }
        }

        int byteAt(int i) {
            return i >= 0 && i < length ? bytes[i] & 255 : NONE;
        }

        boolean isLetter(int i) {
            return byteAt(i) >= 'a' && byteAt(i) <= 'z';
        }

        boolean isDigit(int i) {
            return byteAt(i) >= '0' && byteAt(i) <= '9';
        }

        boolean isBlank(int i) {
            int b = byteAt(i);
            return b == 9 || b == 10 || b == 13 || b == 32;
        }

        int pastBlanks(int from) {
            int at = from;
            while (at < length && isBlank(at)) {
                at++;
            }
            return at;
        }

        /** Where the run of letters or of digits that begins here ends; of another byte, behind it. */
        int runEnd(int from) {
            int at = from;
            if (isLetter(from)) {
                while (at < length && isLetter(at)) {
                    at++;
                }
            } else if (isDigit(from)) {
                while (at < length && isDigit(at)) {
                    at++;
                }
            } else {
                at++;
            }
            return at;
        }

        int numberAt(int from, int size) {
            int value = 0;
            for (int i = from; i < from + size; i++) {
                value = value * 10 + byteAt(i) - '0';
            }
            return value;
        }

        boolean areAlike(int a, int b, int size) {
            for (int i = 0; i < size; i++) {
                if (byteAt(a + i) != byteAt(b + i)) {
                    return false;
                }
            }
            return true;
        }
    }

    /** The TOKENS of a text, as far as it is without FAULTS of SYNTAX and ROOM. */
    private static final class Tokens {
        static final int NO_FAULT = 0;
        static final int SYNTAX = 1;
        static final int ROOM = 2;

        /** The words in quotes, each in a field of six; a word's sort is the number of its field. */
        static final String WORDS =
            "post  link  first twice enoughapart rise  rest  fresh noise seed  goal  hops  costs ";
        static final int FIELD = 6;
        static final int POST = 0;
        static final int LINK = 1;
        static final int FIRST = 2;
        static final int SEED = 10;
        static final int GOAL = 11;
        static final int HOPS = 12;
        static final int COSTS = 13;
        static final int NAME = 14;
        static final int INT = 15;
        static final int SIGN = 16;
        static final int END = 17;
        static final int NO_TOKEN = 18;

        static final int MOST_TOKENS = 400;
        static final int MOST_LETTERS = 8;
        static final int MOST_DIGITS = 4;

        final int[] sort = new int[MOST_TOKENS];
        final int[] place = new int[MOST_TOKENS];
        final int[] length = new int[MOST_TOKENS];
        int size = 0;
        int fault = NO_FAULT;
        int faultPlace = NONE;
        /** The shape of the TELL that is being told, and how much of it was met. */
        private String shape = "";
        private int met = 0;
        private int posts = 0;
        private int links = 0;

        void scan(Tape tape) {
            clear();
            int at = 0;
            for (int i = 0; i <= MOST_TOKENS; i++) {
                at = tape.pastBlanks(at);
                int end = tape.runEnd(at);
                int found = sortOf(tape, at, end);
                if (found == END && met == shape.length()) {
                    return;
                }
                judge(found, at);
                if (fault != NO_FAULT) {
                    return;
                }
                keep(found, at, end);
                at = end;
            }
        }

        private void clear() {
            size = 0;
            fault = NO_FAULT;
            faultPlace = NONE;
            shape = "";
            met = 0;
            posts = 0;
            links = 0;
        }

        private void judge(int found, int at) {
            boolean begins = met >= shape.length();
            boolean fits = begins ? !shapeOf(found).isEmpty() : isOf(found, shape.charAt(met));
            if (!fits) {
                fault = SYNTAX;
                faultPlace = at;
            } else if (size >= MOST_TOKENS || begins && isOneTooMany(found)) {
                fault = ROOM;
                faultPlace = at;
            }
        }

        private boolean isOneTooMany(int found) {
            return found == POST && posts == MOST_POSTS || found == LINK && links == MOST_LINKS;
        }

        private void keep(int found, int at, int end) {
            if (met >= shape.length()) {
                shape = shapeOf(found);
                met = 0;
                posts += found == POST ? 1 : 0;
                links += found == LINK ? 1 : 0;
            } else {
                met++;
            }
            if (size < MOST_TOKENS) {
                sort[size] = found;
                place[size] = at;
                length[size] = end - at;
                size++;
            }
        }

        /** What follows a TELL's first word: n a NAME, i an INT, g hops or costs; empty: it begins none. */
        static String shapeOf(int first) {
            if (first == POST) {
                return "n;";
            }
            if (first == LINK) {
                return "nni;";
            }
            if (first == GOAL) {
                return "g;";
            }
            return first >= FIRST && first <= SEED ? "i;" : "";
        }

        private static boolean isOf(int found, char want) {
            if (want == 'n') {
                return found == NAME;
            }
            if (want == 'i') {
                return found == INT;
            }
            return want == 'g' ? found == HOPS || found == COSTS : found == SIGN;
        }

        private static int sortOf(Tape tape, int at, int end) {
            if (at >= tape.length) {
                return END;
            }
            if (tape.isLetter(at)) {
                return end - at <= MOST_LETTERS ? wordOrName(tape, at, end - at) : NO_TOKEN;
            }
            if (tape.isDigit(at)) {
                return end - at <= MOST_DIGITS ? INT : NO_TOKEN;
            }
            return tape.byteAt(at) == ';' ? SIGN : NO_TOKEN;
        }

        private static int wordOrName(Tape tape, int at, int size) {
            if (size > FIELD) {
                return NAME;
            }
            for (int word = POST; word <= COSTS; word++) {
                if (isWord(tape, at, size, word)) {
                    return word;
                }
            }
            return NAME;
        }

        private static boolean isWord(Tape tape, int at, int size, int word) {
            for (int i = 0; i < FIELD; i++) {
                int met = i < size ? tape.byteAt(at + i) : ' ';
                int in = word * FIELD + i;
                if (in >= WORDS.length() || WORDS.charAt(in) != met) {
                    return false;
                }
            }
            return true;
        }
    }

    /** Takes the tape in: TOKENS first, then what they mean, into a draft that holds if there is no FAULT. */
    private static final class Reader {
        static final int TWICE = 3;
        static final int UNKNOWN_NAME = 4;
        static final int WRONG = 5;

        final Tokens tokens = new Tokens();
        final Plan draft = new Plan();
        /** The TOKEN that tells each POST's NAME. */
        final int[] nameToken = new int[MOST_POSTS];
        int fault = Tokens.NO_FAULT;
        int place = NONE;

        void take(Tape tape) {
            tokens.scan(tape);
            fault = tokens.fault;
            place = tokens.faultPlace;
            draft.clear();
            for (int at = 0; at < tokens.size && fault == Tokens.NO_FAULT; at += tellSize(at)) {
                tell(tape, at);
            }
        }

        private int tellSize(int at) {
            return 1 + Tokens.shapeOf(tokens.sort[at]).length();
        }

        private void tell(Tape tape, int at) {
            int first = tokens.sort[at];
            if (at + tellSize(at) > tokens.size) {
                return;
            }
            if (first == Tokens.POST) {
                tellPost(tape, at + 1);
            } else if (first == Tokens.LINK) {
                tellLink(tape, at + 1);
            } else if (first == Tokens.GOAL) {
                draft.byCosts = tokens.sort[at + 1] == Tokens.COSTS;
            } else if (!draft.setNumber(first, intAt(tape, at + 1))) {
                blame(WRONG, at + 1);
            }
        }

        private void tellPost(Tape tape, int name) {
            if (postNamed(tape, name) != NONE || draft.posts >= MOST_POSTS) {
                blame(TWICE, name);
                return;
            }
            nameToken[draft.posts] = name;
            draft.posts++;
        }

        private void tellLink(Tape tape, int name) {
            int a = postNamed(tape, name);
            int b = postNamed(tape, name + 1);
            int cost = intAt(tape, name + 2);
            if (a == NONE) {
                blame(UNKNOWN_NAME, name);
            } else if (b == NONE) {
                blame(UNKNOWN_NAME, name + 1);
            } else if (a == b || draft.linkOf[a][b] != NONE) {
                blame(TWICE, name + 1);
            } else if (cost < 1 || cost > MOST_COST) {
                blame(WRONG, name + 2);
            } else {
                draft.addLink(a, b, cost);
            }
        }

        private void blame(int sort, int token) {
            fault = sort;
            place = tokens.place[token];
        }

        private int intAt(Tape tape, int token) {
            return tape.numberAt(tokens.place[token], tokens.length[token]);
        }

        private int postNamed(Tape tape, int token) {
            int size = tokens.length[token];
            for (int post = 0; post < draft.posts; post++) {
                int told = nameToken[post];
                boolean same = tokens.length[told] == size
                    && tape.areAlike(tokens.place[told], tokens.place[token], size);
                if (same) {
                    return post;
                }
            }
            return NONE;
        }
    }

    /** What a text tells: it stays as it is till another text is read. */
    private static final class Plan {
        static final int FIRST = 0;
        static final int TWICE = 1;
        static final int ENOUGH = 2;
        static final int APART = 3;
        static final int RISE = 4;
        static final int REST = 5;
        static final int FRESH = 6;
        static final int NOISE = 7;
        static final int SEED = 8;
        /** In the order of Tokens.WORDS. */
        private static final int[] LEAST = {2, 0, 1, 0, 0, 1, 2, 0, 0};
        private static final int[] MOST = {8, 4, 9, 99, 999, 20, 60, 100, 9999};
        private static final int[] USUAL = {4, 3, 2, 5, 60, 4, 12, 0, 0};

        int posts = 0;
        int links = 0;
        final int[] linkFrom = new int[MOST_LINKS];
        final int[] linkTo = new int[MOST_LINKS];
        final int[] linkCost = new int[MOST_LINKS];
        /** The LINK of two POSTS, or NONE. */
        final int[][] linkOf = new int[MOST_POSTS][MOST_POSTS];
        final int[] numbers = new int[USUAL.length];
        boolean byCosts = false;

        Plan() {
            clear();
        }

        void clear() {
            posts = 0;
            links = 0;
            byCosts = false;
            for (int i = 0; i < USUAL.length; i++) {
                numbers[i] = USUAL[i];
            }
            for (int a = 0; a < MOST_POSTS; a++) {
                for (int b = 0; b < MOST_POSTS; b++) {
                    linkOf[a][b] = NONE;
                }
            }
        }

        void copyFrom(Plan other) {
            posts = other.posts;
            links = other.links;
            byCosts = other.byCosts;
            System.arraycopy(other.linkFrom, 0, linkFrom, 0, MOST_LINKS);
            System.arraycopy(other.linkTo, 0, linkTo, 0, MOST_LINKS);
            System.arraycopy(other.linkCost, 0, linkCost, 0, MOST_LINKS);
            System.arraycopy(other.numbers, 0, numbers, 0, USUAL.length);
            for (int a = 0; a < MOST_POSTS; a++) {
                System.arraycopy(other.linkOf[a], 0, linkOf[a], 0, MOST_POSTS);
            }
        }

        boolean isPost(int post) {
            return post >= 0 && post < posts;
        }

        boolean isLink(int link) {
            return link >= 0 && link < links;
        }

        boolean setNumber(int word, int value) {
            int i = word - Tokens.FIRST;
            if (i < 0 || i >= USUAL.length || value < LEAST[i] || value > MOST[i]) {
                return false;
            }
            numbers[i] = i == FIRST ? value - value % 2 : value;
            return true;
        }

        void addLink(int a, int b, int cost) {
            if (links < MOST_LINKS) {
                linkFrom[links] = a;
                linkTo[links] = b;
                linkCost[links] = cost;
                linkOf[a][b] = links;
                linkOf[b][a] = links;
                links++;
            }
        }
    }

    /** What one POST is and knows. */
    private static final class Post {
        boolean on;
        int version;
        int rank;
        int parent;
        int lowest;
        int rests;
        int sequence;
        /** The TIMER: LONG, how far it is, how many it HEARD, when it FIRES. */
        int timerLong;
        int timerFar;
        int timerHeard;
        int timerFires;
        final int[] heard = new int[MOST_POSTS];
        final int[] route = new int[MOST_POSTS];
        final int[] routeSequence = new int[MOST_POSTS];

        /** All as at first, but for the SEQUENCE and the TIMER. */
        void clear(int firstRank) {
            on = true;
            version = 0;
            rank = firstRank;
            parent = NOBODY;
            lowest = NEVER;
            rests = 0;
            forgetHeard();
            for (int i = 0; i < MOST_POSTS; i++) {
                route[i] = NOBODY;
                routeSequence[i] = 0;
            }
        }

        void forgetHeard() {
            for (int i = 0; i < MOST_POSTS; i++) {
                heard[i] = NEVER;
            }
        }

        void copyFrom(Post other) {
            on = other.on;
            version = other.version;
            rank = other.rank;
            parent = other.parent;
            lowest = other.lowest;
            rests = other.rests;
            sequence = other.sequence;
            timerLong = other.timerLong;
            timerFar = other.timerFar;
            timerHeard = other.timerHeard;
            timerFires = other.timerFires;
            System.arraycopy(other.heard, 0, heard, 0, MOST_POSTS);
            System.arraycopy(other.route, 0, route, 0, MOST_POSTS);
            System.arraycopy(other.routeSequence, 0, routeSequence, 0, MOST_POSTS);
        }

        int tell(int what) {
            switch (what) {
                case 0: return on ? 1 : 0;
                case 1: return version;
                case 2: return rank;
                case 3: return parent;
                case 4: return lowest;
                case 5: return rests;
                case 6: return sequence;
                case 7: return timerLong;
                case 8: return timerFar;
                case 9: return timerHeard;
                case 10: return timerFires;
                default: return NONE;
            }
        }
    }

    /** Messages in the order in which they were put. */
    private static final class Mail {
        static final int ADVERT = 0;
        static final int REACH = 1;
        static final int GONE = 2;
        static final int MOST_WAITING = 200;

        int size = 0;
        final int[] sort = new int[MOST_WAITING];
        final int[] from = new int[MOST_WAITING];
        /** Of an ADVERT, which goes to all NEIGHBOURS, NOBODY. */
        final int[] to = new int[MOST_WAITING];
        /** The POST that a REACH or GONE is of; an ADVERT's VERSION. */
        final int[] about = new int[MOST_WAITING];
        /** A SEQUENCE; an ADVERT's RANK. */
        final int[] value = new int[MOST_WAITING];
        /** Over how many LINKS it has come. */
        final int[] links = new int[MOST_WAITING];

        void copyFrom(Mail other) {
            size = other.size;
            System.arraycopy(other.sort, 0, sort, 0, size);
            System.arraycopy(other.from, 0, from, 0, size);
            System.arraycopy(other.to, 0, to, 0, size);
            System.arraycopy(other.about, 0, about, 0, size);
            System.arraycopy(other.value, 0, value, 0, size);
            System.arraycopy(other.links, 0, links, 0, size);
        }
    }

    /** All that goes on; what is undone, held or tried out is a copy of one of these. */
    private static final class Net {
        /** Greater than any RANK and STEP: what one offers who can't be a PARENT. */
        static final int NO_OFFER = 1000000;

        final Plan plan;
        int tick = 0;
        int adverts = 0;
        int reaches = 0;
        int gones = 0;
        int poisoned = 0;
        int lost = 0;
        int spared = 0;
        final Post[] posts = new Post[MOST_POSTS];
        final int[] up = new int[MOST_LINKS];
        final int[] cost = new int[MOST_LINKS];
        final Mail waiting = new Mail();

        Net(Plan plan) {
            this.plan = plan;
            for (int i = 0; i < MOST_POSTS; i++) {
                posts[i] = new Post();
            }
        }

        void copyFrom(Net other) {
            tick = other.tick;
            adverts = other.adverts;
            reaches = other.reaches;
            gones = other.gones;
            poisoned = other.poisoned;
            lost = other.lost;
            spared = other.spared;
            for (int i = 0; i < plan.posts; i++) {
                posts[i].copyFrom(other.posts[i]);
            }
            System.arraycopy(other.up, 0, up, 0, MOST_LINKS);
            System.arraycopy(other.cost, 0, cost, 0, MOST_LINKS);
            waiting.copyFrom(other.waiting);
        }

        boolean isUp(int link) {
            return up[link] == 1;
        }

        int stepOf(int link) {
            return plan.byCosts ? 10 * cost[link] : 10;
        }

        /** False, too, for what is no POST: who asks this first may use both as an index, and their LINK. */
        boolean areNeighbours(int a, int b) {
            if (a < 0 || a >= MOST_POSTS || b < 0 || b >= MOST_POSTS) {
                return false;
            }
            int link = plan.linkOf[a][b];
            return link != NONE && up[link] == 1 && posts[a].on && posts[b].on;
        }

        /** What RANK one would have below another, by what it HEARD of it. */
        int offer(int post, int other) {
            if (!areNeighbours(post, other) || posts[post].heard[other] >= NEVER) {
                return NO_OFFER;
            }
            return posts[post].heard[other] + stepOf(plan.linkOf[post][other]);
        }

        /** The one that offers the least RANK, another one left aside; NOBODY if none does. */
        int bestOffer(int post, int aside) {
            int best = NOBODY;
            int least = NO_OFFER;
            for (int other = 0; other < plan.posts; other++) {
                int offer = other == aside ? NO_OFFER : offer(post, other);
                if (offer < least) {
                    best = other;
                    least = offer;
                }
            }
            return best;
        }

        /** Whether one comes to the other by PARENTS, one at least. */
        boolean comesTo(int post, int other) {
            int at = posts[post].parent;
            for (int i = 0; i < MOST_POSTS && plan.isPost(at); i++) {
                if (at == other) {
                    return true;
                }
                at = posts[at].parent;
            }
            return false;
        }

        /** How many PARENTS stand above it up to the ROOT; 0 too if it does not come there. */
        int depth(int post) {
            int at = post;
            for (int i = 0; i < MOST_POSTS && plan.isPost(at); i++) {
                if (at == ROOT) {
                    return i;
                }
                at = posts[at].parent;
            }
            return 0;
        }

        int messagesPut() {
            return adverts + reaches + gones;
        }

        int routes() {
            int all = 0;
            for (int post = 0; post < plan.posts; post++) {
                for (int to = 0; to < plan.posts; to++) {
                    all += posts[post].route[to] != NOBODY ? 1 : 0;
                }
            }
            return all;
        }

        int greatestRank() {
            int most = 0;
            for (int post = 0; post < plan.posts; post++) {
                int rank = posts[post].rank;
                most = rank < NEVER ? Math.max(most, rank) : most;
            }
            return most;
        }

        int postsOn() {
            int bits = 0;
            for (int post = 0; post < plan.posts; post++) {
                bits |= posts[post].on ? 1 << post : 0;
            }
            return bits;
        }

        int postsResting() {
            int bits = 0;
            for (int post = 0; post < plan.posts; post++) {
                bits |= posts[post].rests > 0 ? 1 << post : 0;
            }
            return bits;
        }

        int postsAlone() {
            int bits = 0;
            for (int post = ROOT + 1; post < plan.posts; post++) {
                bits |= posts[post].on && posts[post].parent == NOBODY ? 1 << post : 0;
            }
            return bits;
        }
    }

    /** What happens to a Net: TICKS, messages, choices. */
    private static final class Engine {
        static final int MOST_LINKS_OVER = 12;
        static final int LOT_SALT = 229;
        static final int NOISE_FROM = 1000000;

        final Net net;
        final Plan plan;
        final Mail coming = new Mail();
        /** How far behind the text's SEED the one is by which LOTS fall. */
        int seedsOn = 0;

        Engine(Net net) {
            this.net = net;
            this.plan = net.plan;
        }

        void beginAll() {
            net.tick = 0;
            net.adverts = 0;
            net.reaches = 0;
            net.gones = 0;
            net.poisoned = 0;
            net.lost = 0;
            net.spared = 0;
            net.waiting.size = 0;
            for (int link = 0; link < plan.links; link++) {
                net.up[link] = 1;
                net.cost[link] = plan.linkCost[link];
            }
            for (int post = 0; post < plan.posts; post++) {
                net.posts[post].sequence = 0;
                beginPost(post);
            }
        }

        void beginPost(int post) {
            net.posts[post].clear(post == ROOT ? ROOT_RANK : NEVER);
            setTimer(post, plan.numbers[Plan.FIRST]);
        }

        // ---- TIMERS and LOTS

        void beginAnew(int post) {
            int first = plan.numbers[Plan.FIRST];
            if (net.posts[post].timerLong != first) {
                setTimer(post, first);
            }
        }

        private void setTimer(int post, int timerLong) {
            Post p = net.posts[post];
            int half = timerLong / 2;
            p.timerLong = timerLong;
            p.timerFar = 0;
            p.timerHeard = 0;
            p.timerFires = half + lot(half, 8 * net.tick + post);
        }

        private int lot(int n, int which) {
            int h = plan.numbers[Plan.SEED] + seedsOn;
            for (int i = 0; i < 2; i++) {
                h = (h ^ (i == 0 ? LOT_SALT : which)) * 1103515245 + 12345;
                h ^= h >>> 15;
            }
            return n > 0 ? (h >>> 1) % n : 0;
        }

        // ---- a TICK

        void passTick() {
            coming.copyFrom(net.waiting);
            net.waiting.size = 0;
            for (int i = 0; i < coming.size; i++) {
                if (coming.sort[i] == Mail.ADVERT) {
                    advertComes(i);
                } else {
                    wordComes(i);
                }
            }
            for (int post = 0; post < plan.posts; post++) {
                if (net.posts[post].on) {
                    goOn(post);
                }
            }
            for (int post = 0; post < plan.posts; post++) {
                Post p = net.posts[post];
                if (p.on && p.parent != NOBODY && isDueToReport(post)) {
                    report(post);
                }
            }
            net.tick++;
        }

        private boolean isDueToReport(int post) {
            int fresh = plan.numbers[Plan.FRESH];
            return fresh > 0 && net.tick % fresh == post % fresh;
        }

        private void goOn(int post) {
            Post p = net.posts[post];
            if (p.rests > 0) {
                p.rests--;
                choose(post);
            }
            p.timerFar++;
            if (p.timerFar == p.timerFires) {
                if (p.timerHeard < plan.numbers[Plan.ENOUGH]) {
                    put(Mail.ADVERT, post, NOBODY, p.version, p.rank, 0);
                } else {
                    net.spared++;
                }
            }
            if (p.timerFar == p.timerLong) {
                int longest = plan.numbers[Plan.FIRST] << plan.numbers[Plan.TWICE];
                setTimer(post, p.timerLong < longest ? 2 * p.timerLong : p.timerLong);
            }
        }

        // ---- messages

        private void put(int sort, int from, int to, int about, int value, int links) {
            Mail mail = net.waiting;
            if (mail.size >= Mail.MOST_WAITING) {
                return;
            }
            int i = mail.size;
            mail.sort[i] = sort;
            mail.from[i] = from;
            mail.to[i] = to;
            mail.about[i] = about;
            mail.value[i] = value;
            mail.links[i] = links;
            mail.size++;
            net.adverts += sort == Mail.ADVERT ? 1 : 0;
            net.reaches += sort == Mail.REACH ? 1 : 0;
            net.gones += sort == Mail.GONE ? 1 : 0;
        }

        private boolean isDrowned(int from, int to) {
            int which = NOISE_FROM + 64 * net.tick + 8 * from + to;
            return lot(100, which) < plan.numbers[Plan.NOISE];
        }

        private void advertComes(int i) {
            int from = coming.from[i];
            for (int to = 0; to < plan.posts; to++) {
                if (net.areNeighbours(from, to)) {
                    if (isDrowned(from, to)) {
                        net.lost++;
                    } else {
                        hearAdvert(from, to, coming.about[i], coming.value[i]);
                        choose(to);
                    }
                }
            }
        }

        private void hearAdvert(int from, int to, int version, int rank) {
            Post p = net.posts[to];
            if (version < p.version) {
                beginAnew(to);
                return;
            }
            if (version > p.version) {
                p.version = version;
                p.lowest = NEVER;
                p.forgetHeard();
            }
            if (rank == p.heard[from]) {
                p.timerHeard++;
            } else {
                beginAnew(to);
            }
            p.heard[from] = rank;
        }

        /** A REACH or a GONE comes, or is lost. */
        private void wordComes(int i) {
            int from = coming.from[i];
            int to = coming.to[i];
            int about = coming.about[i];
            if (!net.areNeighbours(from, to) || isDrowned(from, to)) {
                net.lost++;
                return;
            }
            if (about == to) {
                return;
            }
            boolean taken = coming.sort[i] == Mail.REACH
                ? takeReach(from, to, about, coming.value[i])
                : takeGone(from, to, about, coming.value[i]);
            int parent = net.posts[to].parent;
            int links = coming.links[i] + 1;
            if (taken && parent != NOBODY && links < MOST_LINKS_OVER) {
                put(coming.sort[i], to, parent, about, coming.value[i], links);
            }
        }

        private boolean takeReach(int from, int to, int about, int sequence) {
            Post p = net.posts[to];
            if (p.route[about] != NOBODY && p.routeSequence[about] > sequence) {
                return false;
            }
            p.route[about] = from;
            p.routeSequence[about] = sequence;
            return true;
        }

        private boolean takeGone(int from, int to, int about, int sequence) {
            Post p = net.posts[to];
            if (p.route[about] != from || p.routeSequence[about] > sequence) {
                return false;
            }
            p.route[about] = NOBODY;
            return true;
        }

        private void report(int post) {
            Post p = net.posts[post];
            p.sequence++;
            put(Mail.REACH, post, p.parent, post, p.sequence, 0);
        }

        // ---- choosing

        void allChoose() {
            for (int post = 0; post < plan.posts; post++) {
                choose(post);
            }
        }

        private void choose(int post) {
            Post p = net.posts[post];
            if (post == ROOT || !p.on || p.rests > 0) {
                return;
            }
            int oldRank = p.rank;
            int oldParent = p.parent;
            int best = net.bestOffer(post, NOBODY);
            settle(post, isKept(post, best) ? oldParent : best);
            if (p.rank != oldRank) {
                beginAnew(post);
            }
            if (p.parent != oldParent) {
                if (oldParent != NOBODY) {
                    put(Mail.GONE, post, oldParent, post, p.sequence, 0);
                    tellRoutes(Mail.GONE, post, oldParent);
                }
                if (p.parent != NOBODY) {
                    report(post);
                    tellRoutes(Mail.REACH, post, p.parent);
                }
            }
        }

        /** Whether it stays with its PARENT: that is not left for a little. */
        private boolean isKept(int post, int best) {
            int parent = net.posts[post].parent;
            if (parent == NOBODY || best == NOBODY) {
                return false;
            }
            int kept = net.offer(post, parent);
            return kept < Net.NO_OFFER
                && kept - net.offer(post, best) <= plan.numbers[Plan.APART];
        }

        private void settle(int post, int chosen) {
            Post p = net.posts[post];
            int rank = chosen == NOBODY ? NEVER : net.offer(post, chosen);
            // who has nobody to choose is not POISONED: RISE bounds only a RANK that comes from another one
            if (chosen != NOBODY && rank > p.lowest + plan.numbers[Plan.RISE]) {
                p.parent = NOBODY;
                p.rank = NEVER;
                p.lowest = NEVER;
                p.rests = plan.numbers[Plan.REST];
                net.poisoned++;
            } else {
                p.parent = chosen;
                p.rank = rank;
                p.lowest = Math.min(p.lowest, rank);
            }
        }

        private void tellRoutes(int sort, int post, int to) {
            Post p = net.posts[post];
            for (int about = 0; about < plan.posts; about++) {
                if (p.route[about] != NOBODY) {
                    put(sort, post, to, about, p.routeSequence[about], 0);
                }
            }
        }
    }

    /** TRUE RANKS, and what is measured by them. */
    private static final class Truth {
        final int[] rank = new int[MOST_POSTS];

        /** TRUE RANKS of all POSTS, one LINK (or NONE) being left out. */
        void reckon(Net net, int without) {
            Plan plan = net.plan;
            for (int post = 0; post < MOST_POSTS; post++) {
                rank[post] = NEVER;
            }
            rank[ROOT] = ROOT_RANK;
            for (int round = 1; round < plan.posts; round++) {
                for (int link = 0; link < plan.links; link++) {
                    int a = plan.linkFrom[link];
                    int b = plan.linkTo[link];
                    if (link != without && net.areNeighbours(a, b)) {
                        int step = net.stepOf(link);
                        rank[a] = Math.min(rank[a], rank[b] + step);
                        rank[b] = Math.min(rank[b], rank[a] + step);
                    }
                }
            }
        }

        int postsReached(Net net) {
            int posts = 0;
            for (int post = 0; post < net.plan.posts; post++) {
                posts += net.posts[post].on && rank[post] < NEVER ? 1 : 0;
            }
            return posts;
        }

        int sumBeyond(Net net) {
            int sum = 0;
            for (int post = 0; post < net.plan.posts; post++) {
                Post p = net.posts[post];
                if (p.on && p.rank < NEVER && rank[post] < NEVER) {
                    sum += p.rank - rank[post];
                }
            }
            return sum;
        }

        boolean isRight(Net net) {
            for (int post = ROOT + 1; post < net.plan.posts; post++) {
                if (net.posts[post].on && !isPostRight(net, post)) {
                    return false;
                }
            }
            return true;
        }

        private boolean isPostRight(Net net, int post) {
            Post p = net.posts[post];
            if (p.version != net.posts[ROOT].version) {
                return false;
            }
            if (rank[post] >= NEVER) {
                return p.rank == NEVER;
            }
            if (!net.areNeighbours(post, p.parent)) {
                return false;
            }
            int step = net.stepOf(net.plan.linkOf[post][p.parent]);
            return net.posts[p.parent].rank + step == p.rank && net.comesTo(post, ROOT);
        }
    }

    /** DATA on its way: where it goes and how it ends; it changes nothing itself. */
    private static final class Journey {
        static final int CAME = 0;
        static final int NO_WAY = 1;
        static final int UNKNOWN = 2;
        static final int BROKEN = 3;
        static final int LOOP = 4;
        static final int WRONG = 5;
        static final int FAR = 6;
        static final int MOST_HOPS = 20;
        static final int MOST_AGAINST = 2;

        final Net net;
        final int[] hops = new int[MOST_HOPS];
        int size = 0;
        final int[] againstAt = new int[MOST_AGAINST];
        int against = 0;
        int end = CAME;
        /** The POST by whose ROUTE or PARENT it came to where it ended. */
        int cameFrom = ROOT;

        Journey(Net net) {
            this.net = net;
        }

        void go(int from, int to) {
            size = 0;
            against = 0;
            cameFrom = from;
            int at = from;
            boolean down = false;
            for (int i = 0; i <= MOST_HOPS; i++) {
                boolean known = net.posts[at].route[to] != NOBODY;
                end = endAt(at, known, down);
                if (end != CAME) {
                    return;
                }
                int next = known ? net.posts[at].route[to] : net.posts[at].parent;
                down = known;
                end = endOfHop(at, next, down);
                if (end != CAME || next == to) {
                    return;
                }
                cameFrom = at;
                at = next;
            }
        }

        /** How it ends where it is; CAME if it goes on. */
        private int endAt(int at, boolean known, boolean down) {
            if (known) {
                return CAME;
            }
            if (down) {
                return WRONG;
            }
            if (at == ROOT) {
                return UNKNOWN;
            }
            return net.posts[at].parent == NOBODY ? NO_WAY : CAME;
        }

        /** Takes the hop, if it can be taken; CAME if that is not its end. */
        private int endOfHop(int at, int next, boolean down) {
            if (!net.areNeighbours(at, next)) {
                return BROKEN;
            }
            if (size >= MOST_HOPS) {
                return FAR;
            }
            hops[size] = next;
            size++;
            int rise = net.posts[next].rank - net.posts[at].rank;
            boolean isAgainst = down ? rise <= 0 : rise >= 0;
            if (isAgainst && against < MOST_AGAINST) {
                againstAt[against] = next;
                against++;
            }
            return against == MOST_AGAINST ? LOOP : CAME;
        }
    }
}

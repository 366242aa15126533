import java.util.ArrayList;
import java.util.List;
import java.util.Map;
import java.util.TreeMap;
import java.util.regex.Matcher;
import java.util.regex.Pattern;

/**
 * The document once more, written from its words with the whole Java library and with no thought of speed:
 * FuzzTest holds SensorTree against it.
 */
final class Model {
    static final int NEVER = 9999;
    static final String[] SETTINGS = {"first", "twice", "enough", "apart", "rise", "rest", "fresh", "noise", "seed"};
    static final int[][] RANGES = {{2, 8}, {0, 4}, {1, 9}, {0, 99}, {0, 999}, {1, 20}, {2, 60}, {0, 100}, {0, 9999}};

    static final class Post {
        boolean on = true;
        int version = 0;
        int rank = NEVER;
        int parent = -2;
        int lowest = NEVER;
        int rests = 0;
        int sequence = 0;
        int lng;
        int far;
        int count;
        int fires;
        Map<Integer, Integer> heard = new TreeMap<>();
        Map<Integer, int[]> routes = new TreeMap<>();

        Post copy() {
            Post p = new Post();
            p.on = on;
            p.version = version;
            p.rank = rank;
            p.parent = parent;
            p.lowest = lowest;
            p.rests = rests;
            p.sequence = sequence;
            p.lng = lng;
            p.far = far;
            p.count = count;
            p.fires = fires;
            p.heard = new TreeMap<>(heard);
            for (Map.Entry<Integer, int[]> e : routes.entrySet()) {
                p.routes.put(e.getKey(), e.getValue().clone());
            }
            return p;
        }
    }

    record Message(String kind, int from, int to, int of, int version, int rank, int sequence, int links) { }

    record Link(int a, int b) { }

    static final class State {
        int tick = 0;
        int seed;
        List<Post> posts = new ArrayList<>();
        List<Boolean> up = new ArrayList<>();
        List<Integer> cost = new ArrayList<>();
        List<Message> waiting = new ArrayList<>();
        Map<String, Integer> soFar = new TreeMap<>();

        State copy() {
            State s = new State();
            s.tick = tick;
            s.seed = seed;
            for (Post p : posts) {
                s.posts.add(p.copy());
            }
            s.up = new ArrayList<>(up);
            s.cost = new ArrayList<>(cost);
            s.waiting = new ArrayList<>(waiting);
            s.soFar = new TreeMap<>(soFar);
            return s;
        }

        void more(String what) {
            soFar.merge(what, 1, Integer::sum);
        }

        int soFar(String what) {
            return soFar.getOrDefault(what, 0);
        }
    }

    StringBuilder tape = new StringBuilder();
    int place = -1;
    List<Link> links = new ArrayList<>();
    Map<String, Integer> settings = new TreeMap<>();
    boolean costs = false;
    State s = new State();
    List<State> past = new ArrayList<>();
    State[] slots = new State[3];

    Model() {
        settings = defaults();
    }

    static Map<String, Integer> defaults() {
        Map<String, Integer> m = new TreeMap<>();
        int[] usual = {4, 3, 2, 5, 60, 4, 12, 0, 0};
        for (int i = 0; i < SETTINGS.length; i++) {
            m.put(SETTINGS[i], usual[i]);
        }
        return m;
    }

    // ---------------------------------------------------------------- the tape and the text

    int feed(int... five) {
        if (tape.length() + 20 > 2000) {
            return -1;
        }
        for (int v : five) {
            tape.append((char) (v >> 24 & 255)).append((char) (v >> 16 & 255));
            tape.append((char) (v >> 8 & 255)).append((char) (v & 255));
        }
        return tape.length();
    }

    int back(int n) {
        if (n < 0 || n > tape.length()) {
            return -1;
        }
        tape.setLength(tape.length() - n);
        return tape.length();
    }

    record Token(char sort, String text, int place) { }

    record Fault(int place, int number) { }

    private static final Pattern TOKEN = Pattern.compile("[ \\t\\n\\r]*(?:([a-z]+)|([0-9]+)|(;)|([^ \\t\\n\\r]))", Pattern.DOTALL);
    private static final Pattern TEXT = Pattern.compile("(?:pn;|lnni;|si;|gh;)*");

    static List<Token> tokens(String text) {
        List<Token> all = new ArrayList<>();
        Matcher m = TOKEN.matcher(text);
        int at = 0;
        while (m.find(at) && m.start() == at) {
            if (m.group(1) != null) {
                all.add(new Token(wordSort(m.group(1)), m.group(1), m.start(1)));
            } else if (m.group(2) != null) {
                all.add(new Token(m.group(2).length() > 4 ? '?' : 'i', m.group(2), m.start(2)));
            } else if (m.group(3) != null) {
                all.add(new Token(';', ";", m.start(3)));
            } else {
                all.add(new Token('?', m.group(4), m.start(4)));
            }
            at = m.end();
        }
        return all;
    }

    static char wordSort(String word) {
        if (List.of(SETTINGS).contains(word)) {
            return 's';
        }
        return switch (word) {
            case "post" -> 'p';
            case "link" -> 'l';
            case "goal" -> 'g';
            case "hops", "costs" -> 'h';
            default -> word.length() > 8 ? '?' : 'n';
        };
    }

    static Fault least(List<Fault> faults) {
        Fault best = null;
        for (Fault f : faults) {
            if (best == null || f.place < best.place || f.place == best.place && f.number < best.number) {
                best = f;
            }
        }
        return best;
    }

    static Fault shapeFault(List<Token> tokens, int length) {
        List<Fault> faults = new ArrayList<>();
        StringBuilder shape = new StringBuilder();
        int posts = 0;
        int links = 0;
        boolean stuck = false;
        for (int i = 0; i < tokens.size() && !stuck; i++) {
            Token t = tokens.get(i);
            shape.append(t.sort);
            Matcher m = TEXT.matcher(shape);
            if (!m.matches() && !m.hitEnd()) {
                faults.add(new Fault(t.place, 1));
                stuck = true;
            }
            posts += t.sort == 'p' ? 1 : 0;
            links += t.sort == 'l' ? 1 : 0;
            if (i == 400 || t.sort == 'p' && posts == 8 || t.sort == 'l' && links == 17) {
                faults.add(new Fault(t.place, 2));
            }
        }
        if (!stuck && !TEXT.matcher(shape).matches()) {
            faults.add(new Fault(length, 1));
        }
        return least(faults);
    }

    int read() {
        String text = tape.toString();
        tape.setLength(0);
        List<Token> tokens = tokens(text);
        Fault fault = shapeFault(tokens, text.length());
        List<String> names = new ArrayList<>();
        List<Link> newLinks = new ArrayList<>();
        List<Integer> newCosts = new ArrayList<>();
        Map<String, Integer> newSettings = defaults();
        boolean byCosts = false;
        List<Fault> faults = new ArrayList<>();
        for (int i = 0; fault == null && i < tokens.size(); i++) {
            Token t = tokens.get(i);
            if (t.sort == 'p') {
                Token name = tokens.get(i + 1);
                if (names.contains(name.text)) {
                    faults.add(new Fault(name.place, 3));
                }
                names.add(name.text);
            } else if (t.sort == 'l') {
                Token n1 = tokens.get(i + 1);
                Token n2 = tokens.get(i + 2);
                int a = names.indexOf(n1.text);
                int b = names.indexOf(n2.text);
                if (a < 0) {
                    faults.add(new Fault(n1.place, 4));
                }
                if (b < 0) {
                    faults.add(new Fault(n2.place, 4));
                }
                if (a >= 0 && a == b || newLinks.contains(new Link(a, b)) || newLinks.contains(new Link(b, a))) {
                    faults.add(new Fault(n2.place, 3));
                }
                int cost = Integer.parseInt(tokens.get(i + 3).text);
                if (cost < 1 || cost > 9) {
                    faults.add(new Fault(tokens.get(i + 3).place, 5));
                }
                newLinks.add(new Link(a, b));
                newCosts.add(cost);
            } else if (t.sort == 's') {
                int value = Integer.parseInt(tokens.get(i + 1).text);
                int[] range = RANGES[List.of(SETTINGS).indexOf(t.text)];
                if (value < range[0] || value > range[1]) {
                    faults.add(new Fault(tokens.get(i + 1).place, 5));
                }
                newSettings.put(t.text, t.text.equals("first") ? value & ~1 : value);
            } else if (t.sort == 'g') {
                byCosts = tokens.get(i + 1).text.equals("costs");
            }
        }
        if (fault == null) {
            fault = least(faults);
        }
        if (fault != null) {
            place = fault.place;
            return fault.number;
        }
        place = -1;
        links = newLinks;
        settings = newSettings;
        costs = byCosts;
        past.clear();
        slots = new State[3];
        s = new State();
        s.seed = settings.get("seed");
        s.cost.addAll(newCosts);
        for (int i = 0; i < links.size(); i++) {
            s.up.add(true);
        }
        for (int i = 0; i < names.size(); i++) {
            s.posts.add(fresh(s, i));
        }
        return 0;
    }

    int set(String name) {
        return settings.get(name);
    }

    // ---------------------------------------------------------------- II

    Post fresh(State s, int n) {
        Post p = new Post();
        p.rank = n == 0 ? 10 : NEVER;
        p.lng = set("first");
        p.fires = fires(s, p.lng, n);
        return p;
    }

    static int lot(int n, int seed, int which) {
        int h = seed;
        for (int it : new int[] {229, which}) {
            h = (h ^ it) * 1103515245 + 12345;
            h = h ^ (h >>> 15);
        }
        return (h >>> 1) % n;
    }

    int fires(State s, int lng, int n) {
        return lng / 2 + lot(lng / 2, s.seed, 8 * s.tick + n);
    }

    void anew(State s, int n) {
        Post p = s.posts.get(n);
        if (p.lng == set("first")) {
            return;
        }
        p.lng = set("first");
        p.far = 0;
        p.count = 0;
        p.fires = fires(s, p.lng, n);
    }

    int linkOf(int a, int b) {
        for (int i = 0; i < links.size(); i++) {
            Link l = links.get(i);
            if (l.a == a && l.b == b || l.a == b && l.b == a) {
                return i;
            }
        }
        return -1;
    }

    boolean neighbours(State s, int a, int b) {
        int l = linkOf(a, b);
        return l >= 0 && s.up.get(l) && s.posts.get(a).on && s.posts.get(b).on;
    }

    int step(State s, int link) {
        return costs ? 10 * s.cost.get(link) : 10;
    }

    static int heard(Post p, int m) {
        return p.heard.getOrDefault(m, NEVER);
    }

    void put(State s, Message m) {
        if (s.waiting.size() < 200) {
            s.waiting.add(m);
            s.more(m.kind);
        }
    }

    void tick(State s) {
        List<Message> coming = s.waiting;
        s.waiting = new ArrayList<>();
        for (Message m : coming) {
            if (m.kind.equals("advert")) {
                for (int n = 0; n < s.posts.size(); n++) {
                    if (neighbours(s, m.from, n)) {
                        arrive(s, m, n);
                    }
                }
            } else {
                arrive(s, m, m.to);
            }
        }
        for (int n = 0; n < s.posts.size(); n++) {
            Post p = s.posts.get(n);
            if (p.on) {
                turn(s, p, n);
            }
        }
        for (int n = 0; n < s.posts.size(); n++) {
            Post p = s.posts.get(n);
            if (p.on && p.parent >= 0 && s.tick % set("fresh") == n % set("fresh")) {
                reports(s, n);
            }
        }
        s.tick++;
    }

    void turn(State s, Post p, int n) {
        if (p.rests > 0) {
            p.rests--;
            if (p.rests == 0) {
                chooses(s, n);
            }
        }
        p.far++;
        if (p.far == p.fires) {
            if (p.count < set("enough")) {
                put(s, new Message("advert", n, -1, -1, p.version, p.rank, 0, 0));
            } else {
                s.more("spared");
            }
        }
        if (p.far == p.lng) {
            int doubled = 0;
            for (int l = set("first"); l < p.lng; l *= 2) {
                doubled++;
            }
            if (doubled < set("twice")) {
                p.lng *= 2;
            }
            p.far = 0;
            p.count = 0;
            p.fires = fires(s, p.lng, n);
        }
    }

    void arrive(State s, Message m, int n) {
        boolean noise = lot(100, s.seed, 1_000_000 + 64 * s.tick + 8 * m.from + n) < set("noise");
        if (noise || !neighbours(s, m.from, n)) {
            s.more("lost");
            return;
        }
        Post p = s.posts.get(n);
        if (m.kind.equals("advert")) {
            if (m.version < p.version) {
                anew(s, n);
                return;
            }
            if (m.version > p.version) {
                p.version = m.version;
                p.heard.clear();
                p.lowest = NEVER;
            }
            if (heard(p, m.from) == m.rank) {
                p.count++;
            } else {
                anew(s, n);
            }
            p.heard.put(m.from, m.rank);
            chooses(s, n);
            return;
        }
        if (m.of == n) {
            return;
        }
        int[] route = p.routes.get(m.of);
        boolean goesOn = false;
        if (m.kind.equals("reach") && (route == null || route[1] <= m.sequence)) {
            p.routes.put(m.of, new int[] {m.from, m.sequence});
            goesOn = true;
        }
        if (m.kind.equals("gone") && route != null && route[0] == m.from && route[1] <= m.sequence) {
            p.routes.remove(m.of);
            goesOn = true;
        }
        int over = m.links + 1;
        if (goesOn && p.parent >= 0 && over < 12) {
            put(s, new Message(m.kind, n, p.parent, m.of, 0, 0, m.sequence, over));
        }
    }

    void reports(State s, int n) {
        Post p = s.posts.get(n);
        p.sequence++;
        put(s, new Message("reach", n, p.parent, n, 0, 0, p.sequence, 0));
    }

    TreeMap<Integer, Integer> offers(State s, int n) {
        TreeMap<Integer, Integer> all = new TreeMap<>();
        for (int m = 0; m < s.posts.size(); m++) {
            if (neighbours(s, n, m) && heard(s.posts.get(n), m) < NEVER) {
                all.put(m, heard(s.posts.get(n), m) + step(s, linkOf(n, m)));
            }
        }
        return all;
    }

    static int leastOf(TreeMap<Integer, Integer> offers) {
        int best = -2;
        for (int m : offers.keySet()) {
            if (best < 0 || offers.get(m) < offers.get(best)) {
                best = m;
            }
        }
        return best;
    }

    void chooses(State s, int n) {
        Post p = s.posts.get(n);
        if (n == 0 || !p.on || p.rests > 0) {
            return;
        }
        int rankWas = p.rank;
        int parentWas = p.parent;
        TreeMap<Integer, Integer> offers = offers(s, n);
        if (offers.isEmpty()) {
            p.parent = -2;
            p.rank = NEVER;
        } else {
            int pick = leastOf(offers);
            if (offers.containsKey(parentWas) && !(offers.get(pick) < offers.get(parentWas) - set("apart"))) {
                pick = parentWas;
            }
            int rank = offers.get(pick);
            if (rank > p.lowest + set("rise")) {
                p.parent = -2;
                p.rank = NEVER;
                p.lowest = NEVER;
                p.rests = set("rest");
                s.more("poisoned");
            } else {
                p.parent = pick;
                p.rank = rank;
                p.lowest = rank < p.lowest ? rank : p.lowest;
            }
        }
        if (p.rank != rankWas) {
            anew(s, n);
        }
        if (p.parent != parentWas) {
            if (parentWas >= 0) {
                put(s, new Message("gone", n, parentWas, n, 0, 0, p.sequence, 0));
                p.routes.forEach((d, r) -> put(s, new Message("gone", n, parentWas, d, 0, 0, r[1], 0)));
            }
            if (p.parent >= 0) {
                reports(s, n);
                p.routes.forEach((d, r) -> put(s, new Message("reach", n, p.parent, d, 0, 0, r[1], 0)));
            }
        }
    }

    // ---------------------------------------------------------------- what is done

    void remember() {
        past.add(s.copy());
        if (past.size() > 20) {
            past.remove(0);
        }
    }

    void allChoose() {
        for (int n = 0; n < s.posts.size(); n++) {
            chooses(s, n);
        }
    }

    boolean isPost(int n) {
        return n >= 0 && n < s.posts.size();
    }

    boolean isLink(int n) {
        return n >= 0 && n < links.size();
    }

    boolean isOn(int n) {
        return isPost(n) && s.posts.get(n).on;
    }

    int ticks(int n) {
        if (n < 0 || n > 200) {
            return -1;
        }
        if (n > 0) {
            remember();
            for (int i = 0; i < n; i++) {
                tick(s);
            }
        }
        return s.tick;
    }

    boolean join(int link, boolean up) {
        if (!isLink(link) || s.up.get(link) == up) {
            return false;
        }
        remember();
        s.up.set(link, up);
        allChoose();
        return true;
    }

    boolean cost(int link, int cost) {
        if (!isLink(link) || cost < 1 || cost > 9 || s.cost.get(link) == cost) {
            return false;
        }
        remember();
        s.cost.set(link, cost);
        allChoose();
        return true;
    }

    boolean power(int n, boolean on) {
        if (!isPost(n) || n == 0 || s.posts.get(n).on == on) {
            return false;
        }
        remember();
        if (on) {
            Post p = fresh(s, n);
            p.sequence = s.posts.get(n).sequence;
            s.posts.set(n, p);
        } else {
            s.posts.get(n).on = false;
        }
        allChoose();
        return true;
    }

    int repair() {
        if (s.posts.isEmpty() || s.posts.get(0).version == 99) {
            return -1;
        }
        remember();
        s.posts.get(0).version++;
        anew(s, 0);
        return s.posts.get(0).version;
    }

    record Trip(int end, List<Integer> hops, int against) { }

    /** DATA in a state, which it changes. */
    Trip data(State s, int from, int d) {
        List<Integer> hops = new ArrayList<>();
        int against = 0;
        int x = from;
        int by = -1;
        boolean cameDown = false;
        while (true) {
            Post px = s.posts.get(x);
            int y;
            boolean down;
            if (cameDown && !px.routes.containsKey(d)) {
                s.posts.get(by).routes.remove(d);
                return new Trip(5, hops, against);
            } else if (px.routes.containsKey(d)) {
                y = px.routes.get(d)[0];
                down = true;
            } else if (x == 0) {
                return new Trip(2, hops, against);
            } else if (px.parent >= 0) {
                y = px.parent;
                down = false;
            } else {
                return new Trip(1, hops, against);
            }
            if (!neighbours(s, x, y)) {
                return new Trip(3, hops, against);
            }
            if (hops.size() + 1 == 21) {
                return new Trip(6, hops, against);
            }
            hops.add(y);
            int ry = s.posts.get(y).rank;
            if (!down && !(ry < px.rank) || down && !(ry > px.rank)) {
                against++;
                anew(s, y);
                if (against == 2) {
                    return new Trip(4, hops, against);
                }
            }
            if (y == d) {
                return new Trip(0, hops, against);
            }
            by = x;
            x = y;
            cameDown = down;
        }
    }

    boolean canSend(int from, int to) {
        return from != to && isOn(from) && isOn(to);
    }

    int send(int from, int to) {
        if (!canSend(from, to)) {
            return -1;
        }
        remember();
        return data(s, from, to).end;
    }

    boolean undo() {
        if (past.isEmpty()) {
            return false;
        }
        s = past.remove(past.size() - 1);
        return true;
    }

    // ---------------------------------------------------------------- what stands

    int post(int n, int what) {
        if (!isPost(n) || what < 0 || what > 10) {
            return -1;
        }
        Post p = s.posts.get(n);
        return new int[] {p.on ? 1 : 0, p.version, p.rank, p.parent, p.lowest, p.rests, p.sequence, p.lng, p.far,
            p.count, p.fires}[what];
    }

    int heard(int n, int of) {
        return n == of || !isPost(n) || !isPost(of) ? -1 : heard(s.posts.get(n), of);
    }

    int route(int n, int to, int what) {
        if (n == to || !isPost(n) || !isPost(to) || what != 0 && what != 1) {
            return -1;
        }
        int[] route = s.posts.get(n).routes.get(to);
        return route == null ? -2 : route[what];
    }

    int link(int link, int what) {
        if (!isLink(link) || what < 0 || what > 4) {
            return -1;
        }
        return new int[] {links.get(link).a, links.get(link).b, s.cost.get(link), s.up.get(link) ? 1 : 0,
            step(s, link)}[what];
    }

    int neighbours(int n) {
        if (!isPost(n)) {
            return -1;
        }
        int bits = 0;
        for (int m = 0; m < s.posts.size(); m++) {
            bits |= neighbours(s, n, m) ? 1 << m : 0;
        }
        return bits;
    }

    /** TRUE RANKS by trying every way there is. */
    int[] truths(State s) {
        int[] best = new int[s.posts.size()];
        java.util.Arrays.fill(best, NEVER);
        if (best.length > 0) {
            walk(s, 0, 10, 1, best);
        }
        return best;
    }

    void walk(State s, int at, int rank, int seen, int[] best) {
        best[at] = Math.min(best[at], rank);
        for (int m = 0; m < s.posts.size(); m++) {
            if ((seen >> m & 1) == 0 && neighbours(s, at, m)) {
                walk(s, m, rank + step(s, linkOf(at, m)), seen | 1 << m, best);
            }
        }
    }

    int truth(int n) {
        return isOn(n) ? truths(s)[n] : -1;
    }

    /** All that it comes to by PARENTS, itself only if they lead back to it. */
    static List<Integer> above(State s, int n) {
        List<Integer> all = new ArrayList<>();
        int at = s.posts.get(n).parent;
        while (at >= 0 && !all.contains(at)) {
            all.add(at);
            at = s.posts.get(at).parent;
        }
        return all;
    }

    boolean right(State s) {
        int[] truths = truths(s);
        for (int n = 1; n < s.posts.size(); n++) {
            Post p = s.posts.get(n);
            if (!p.on) {
                continue;
            }
            boolean good = p.version == s.posts.get(0).version;
            if (truths[n] < NEVER) {
                good = good && p.parent >= 0 && neighbours(s, n, p.parent)
                    && s.posts.get(p.parent).rank + step(s, linkOf(n, p.parent)) == p.rank
                    && above(s, n).contains(0);
            } else {
                good = good && p.rank == NEVER;
            }
            if (!good) {
                return false;
            }
        }
        return true;
    }

    int right() {
        return right(s) ? 1 : 0;
    }

    int circle() {
        int bits = 0;
        for (int n = 0; n < s.posts.size(); n++) {
            bits |= above(s, n).contains(n) ? 1 << n : 0;
        }
        return bits;
    }

    int below(int n) {
        if (!isPost(n)) {
            return -1;
        }
        int bits = 0;
        for (int m = 0; m < s.posts.size(); m++) {
            bits |= m != n && above(s, m).contains(n) ? 1 << m : 0;
        }
        return bits;
    }

    int way(int n, int i) {
        if (!isPost(n) || i < 0 || i > 20) {
            return -1;
        }
        int at = n;
        for (int k = 0; k < i && at >= 0; k++) {
            at = s.posts.get(at).parent;
        }
        return at < 0 ? -1 : at;
    }

    // ---------------------------------------------------------------- III

    int would(int from, int to, int what) {
        if (!canSend(from, to) || what < 0 || what > 2) {
            return -1;
        }
        Trip t = data(s.copy(), from, to);
        return new int[] {t.end, t.hops.size(), t.against}[what];
    }

    int hop(int from, int to, int i) {
        if (!canSend(from, to)) {
            return -1;
        }
        Trip t = data(s.copy(), from, to);
        return i < 0 || i >= t.hops.size() ? -1 : t.hops.get(i);
    }

    State in(int n, int seed) {
        State t = s.copy();
        t.seed = seed;
        for (int i = 0; i < n; i++) {
            tick(t);
        }
        return t;
    }

    int soon() {
        State t = s.copy();
        for (int n = 0; n <= 200; n++) {
            if (right(t)) {
                return n;
            }
            tick(t);
        }
        return -2;
    }

    static int put(State s) {
        return s.soFar("advert") + s.soFar("reach") + s.soFar("gone");
    }

    int busy(int n) {
        return n < 0 || n > 200 ? -1 : put(in(n, s.seed)) - put(s);
    }

    int cut(int link) {
        if (!isLink(link) || !s.up.get(link)) {
            return -1;
        }
        State t = s.copy();
        t.up.set(link, false);
        int[] with = truths(s);
        int[] without = truths(t);
        int lost = 0;
        for (int n = 0; n < with.length; n++) {
            lost += with[n] < NEVER && without[n] == NEVER ? 1 : 0;
        }
        return lost;
    }

    int needs(int n) {
        if (!isOn(n)) {
            return -1;
        }
        int bits = 0;
        for (int link = 0; link < links.size(); link++) {
            State t = s.copy();
            t.up.set(link, false);
            bits |= s.up.get(link) && truths(t)[n] > truths(s)[n] ? 1 << link : 0;
        }
        return bits;
    }

    int spare(int n) {
        if (!isOn(n) || n == 0 || s.posts.get(n).parent < 0) {
            return -1;
        }
        State t = s.copy();
        int link = linkOf(n, s.posts.get(n).parent);
        t.up.set(link, false);
        return leastOf(offers(t, n));
    }

    int deep() {
        int most = 0;
        for (int n = 1; n < s.posts.size(); n++) {
            most = Math.max(most, above(s, n).contains(0) ? above(s, n).size() : 0);
        }
        return most;
    }

    int reached() {
        int all = 0;
        for (int a = 0; a < s.posts.size(); a++) {
            for (int b = 0; b < s.posts.size(); b++) {
                all += canSend(a, b) && would(a, b, 0) == 0 ? 1 : 0;
            }
        }
        return all;
    }

    int lull(int n) {
        if (n < 1 || n > 200) {
            return -1;
        }
        int best = 0;
        int run = 0;
        State t = s.copy();
        for (int i = 0; i < n; i++) {
            int was = put(t);
            tick(t);
            run = put(t) == was ? run + 1 : 0;
            best = Math.max(best, run);
        }
        return best;
    }

    int stretch() {
        int sum = 0;
        int[] truths = truths(s);
        for (int n = 0; n < truths.length; n++) {
            Post p = s.posts.get(n);
            sum += p.on && p.rank < NEVER && truths[n] < NEVER ? p.rank - truths[n] : 0;
        }
        return sum;
    }

    int then(int n, int ticks, int what) {
        if (!isPost(n) || ticks < 0 || ticks > 200 || what < 0 || what > 1) {
            return -1;
        }
        Post p = in(ticks, s.seed).posts.get(n);
        return what == 0 ? p.rank : p.parent;
    }

    int year(int n, int seeds) {
        if (n < 0 || n > 200 || seeds < 1 || seeds > 10) {
            return -1;
        }
        int good = 0;
        for (int i = 0; i < seeds; i++) {
            good += right(in(n, s.seed + i)) ? 1 : 0;
        }
        return good;
    }

    // ---------------------------------------------------------------- what is kept

    boolean hold(int slot) {
        if (slot < 0 || slot > 2) {
            return false;
        }
        slots[slot] = s.copy();
        return true;
    }

    boolean restore(int slot) {
        if (slot < 0 || slot > 2 || slots[slot] == null) {
            return false;
        }
        s = slots[slot].copy();
        past.clear();
        return true;
    }

    int count(int what) {
        int routes = 0;
        int on = 0;
        int rest = 0;
        int alone = 0;
        int most = 0;
        int holding = 0;
        for (int n = 0; n < s.posts.size(); n++) {
            Post p = s.posts.get(n);
            routes += p.routes.size();
            on |= p.on ? 1 << n : 0;
            rest |= p.rests > 0 ? 1 << n : 0;
            alone |= n > 0 && p.on && p.parent < 0 ? 1 << n : 0;
            most = p.rank < NEVER ? Math.max(most, p.rank) : most;
        }
        for (State slot : slots) {
            holding += slot != null ? 1 : 0;
        }
        int[] all = {s.posts.size(), links.size(), s.tick, s.waiting.size(), s.soFar("advert"), s.soFar("reach"),
            s.soFar("gone"), routes, tape.length(), past.size(), on, holding, s.soFar("poisoned"), s.soFar("lost"),
            s.soFar("spared"), most, rest, alone};
        return what < 0 || what >= all.length ? -1 : all[what];
    }
}

import java.util.ArrayList;
import java.util.HashMap;
import java.util.List;
import java.util.Map;

/**
 * The document once more, as slowly and plainly as it can be told: whatever is asked is tried on a copy of all,
 * a whole bell at a time. The random runs hold StairNews against it.
 */
final class Plain {
    static final class Fault extends RuntimeException {
        final int number;

        Fault(int place, int kind) {
            number = 1 + 8 * place + kind;
        }
    }

    static final class Person {
        int home;
        int toldPace;
        int pace;
        int at;
        int goal;
        int left;
        boolean deaf;
        int twist;
        boolean knows;
        int heard = -1;
        int chairs;
        int of = -1;
        boolean onLanding = true;

        Person copy() {
            Person p = new Person();
            p.home = home;
            p.toldPace = toldPace;
            p.pace = pace;
            p.at = at;
            p.goal = goal;
            p.left = left;
            p.deaf = deaf;
            p.twist = twist;
            p.knows = knows;
            p.heard = heard;
            p.chairs = chairs;
            p.of = of;
            p.onLanding = onLanding;
            return p;
        }

        boolean stands() {
            return at == goal;
        }
    }

    interface Sum {
        long of(Map<String, Long> words);
    }

    interface Test {
        boolean holds(Map<String, Long> words);
    }

    static final class Clause {
        Sum sum;
        Test test;
    }

    /** All that an image holds. */
    static final class World {
        int floors;
        List<Person> people = new ArrayList<>();
        List<int[]> errands = new ArrayList<>();
        List<int[]> hates = new ArrayList<>();
        boolean[] toldPlants = new boolean[9];
        boolean[] plants = new boolean[9];
        boolean[] lit = new boolean[9];
        int night = -1;
        int from = -1;
        int to = -1;
        int bell;
        List<int[]> news = new ArrayList<>();
        int force = -1;
        long x;

        World copy() {
            World w = new World();
            w.floors = floors;
            for (Person p : people) {
                w.people.add(p.copy());
            }
            w.errands.addAll(errands);
            w.hates.addAll(hates);
            w.toldPlants = toldPlants.clone();
            w.plants = plants.clone();
            w.lit = lit.clone();
            w.night = night;
            w.from = from;
            w.to = to;
            w.bell = bell;
            w.news.addAll(news);
            w.force = force;
            w.x = x;
            return w;
        }

        boolean hate(int a, int b) {
            for (int[] h : hates) {
                if (h[0] == a && h[1] == b || h[0] == b && h[1] == a) {
                    return true;
                }
            }
            return false;
        }

        int known() {
            int bits = 0;
            for (int p = 0; p < people.size(); p++) {
                bits |= people.get(p).knows ? 1 << p : 0;
            }
            return bits;
        }
    }

    private final StringBuilder tape = new StringBuilder();
    private final List<List<Clause>> rules = new ArrayList<>();
    private World world = new World();
    private final List<World> undone = new ArrayList<>();
    private final World[] images = new World[4];

    // ---- the tape and the texts

    int feed(int a, int b, int c, int d, int e) {
        if (tape.length() + 20 > 400) {
            return -1;
        }
        for (int n : new int[] {a, b, c, d, e}) {
            tape.append((char) (n >>> 24)).append((char) (n >>> 16 & 255));
            tape.append((char) (n >>> 8 & 255)).append((char) (n & 255));
        }
        return tape.length();
    }

    int end(int n) {
        if (n < 0 || n > tape.length()) {
            return -1;
        }
        tape.setLength(n);
        return n;
    }

    private static final class Token {
        final String text;
        final int place;

        Token(String text, int place) {
            this.text = text;
            this.place = place;
        }

        boolean isNumber() {
            return !text.isEmpty() && text.charAt(0) >= '0' && text.charAt(0) <= '9';
        }
    }

    /** Words, numbers and signs with their places; the last token is the end, an empty one. */
    private static List<Token> tokens(String text) {
        List<Token> all = new ArrayList<>();
        int i = 0;
        while (i < text.length()) {
            int from = i;
            char c = text.charAt(i++);
            if (c == ' ') {
                continue;
            }
            if (c >= 'a' && c <= 'z') {
                while (i < text.length() && text.charAt(i) >= 'a' && text.charAt(i) <= 'z') {
                    i++;
                }
            } else if (c >= '0' && c <= '9') {
                while (i < text.length() && text.charAt(i) >= '0' && text.charAt(i) <= '9') {
                    i++;
                }
            } else if ((c == '<' || c == '>') && i < text.length() && text.charAt(i) == '=') {
                i++;
            }
            all.add(new Token(text.substring(from, i), from));
        }
        all.add(new Token("", text.length()));
        return all;
    }

    private List<Token> tokens;
    private int next;
    private int amount;

    private Token peek() {
        return tokens.get(next);
    }

    private boolean takes(String text) {
        if (!peek().text.equals(text)) {
            return false;
        }
        next++;
        return true;
    }

    private int number(int low, int high) {
        Token t = peek();
        if (!t.isNumber()) {
            throw new Fault(t.place, 0);
        }
        if (t.text.length() > 5 || Integer.parseInt(t.text) < low || Integer.parseInt(t.text) > high) {
            throw new Fault(t.place, 1);
        }
        next++;
        return Integer.parseInt(t.text);
    }

    int house() {
        tokens = tokens(tape.toString());
        tape.setLength(0);
        next = 0;
        World w = new World();
        try {
            int clauses = 0;
            do {
                houseClause(w, clauses++);
            } while (takes(";"));
            if (!peek().text.isEmpty()) {
                throw new Fault(peek().place, 0);
            }
        } catch (Fault f) {
            return -2 - f.number;
        }
        w.force = world.force;
        w.x = world.x;
        w.plants = w.toldPlants.clone();
        world = w;
        undone.clear();
        return w.people.size();
    }

    private void houseClause(World w, int clauses) {
        Token t = peek();
        List<String> kinds = List.of("house", "person", "errand", "hates", "deaf", "adds", "takes", "plant", "night",
                "lit", "bucket");
        if (!kinds.contains(t.text)) {
            throw new Fault(t.place, 0);
        }
        boolean over = clauses >= 40
                || clauses == 0 && !t.text.equals("house")
                || clauses > 0 && t.text.equals("house")
                || t.text.equals("person") && w.people.size() == 7
                || t.text.equals("errand") && w.errands.size() == 10
                || t.text.equals("hates") && w.hates.size() == 6
                || t.text.equals("night") && w.night != -1
                || t.text.equals("bucket") && w.from != -1;
        if (over) {
            throw new Fault(t.place, 4);
        }
        next++;
        int lastPerson = w.people.size() - 1;
        int lastFloor = w.floors - 1;
        if (t.text.equals("house")) {
            w.floors = number(2, 9);
        } else if (t.text.equals("person")) {
            Person p = new Person();
            p.home = number(0, lastFloor);
            p.at = p.home;
            p.goal = p.home;
            p.toldPace = number(1, 9);
            p.pace = p.toldPace;
            w.people.add(p);
        } else if (t.text.equals("errand")) {
            w.errands.add(new int[] {number(0, lastPerson), number(0, lastFloor), number(0, 99)});
        } else if (t.text.equals("hates")) {
            w.hates.add(pair(lastPerson));
        } else if (t.text.equals("deaf")) {
            w.people.get(number(0, lastPerson)).deaf = true;
        } else if (t.text.equals("adds")) {
            w.people.get(number(0, lastPerson)).twist = number(1, 9);
        } else if (t.text.equals("takes")) {
            w.people.get(number(0, lastPerson)).twist = -number(1, 9);
        } else if (t.text.equals("plant")) {
            w.toldPlants[number(0, lastFloor)] = true;
        } else if (t.text.equals("night")) {
            w.night = number(0, 99);
        } else if (t.text.equals("lit")) {
            w.lit[number(0, lastFloor)] = true;
        } else {
            int[] both = pair(lastFloor);
            w.from = both[0];
            w.to = both[1];
        }
    }

    private int[] pair(int last) {
        int a = number(0, last);
        int place = peek().place;
        int b = number(0, last);
        if (a == b) {
            throw new Fault(place, 1);
        }
        return new int[] {a, b};
    }

    int rule() {
        if (rules.size() == 6) {
            return -1;
        }
        tokens = tokens(tape.toString());
        tape.setLength(0);
        next = 0;
        amount = 0;
        List<Clause> clauses = new ArrayList<>();
        try {
            do {
                clauses.add(ruleClause(clauses.size()));
            } while (takes(";"));
            if (!peek().text.isEmpty()) {
                throw new Fault(peek().place, 0);
            }
        } catch (Fault f) {
            return -2 - f.number;
        }
        rules.add(clauses);
        return rules.size() - 1;
    }

    private Clause ruleClause(int clauses) {
        if (!peek().text.equals("tell")) {
            throw new Fault(peek().place, 0);
        }
        if (clauses >= 12) {
            throw new Fault(peek().place, 4);
        }
        next++;
        Clause c = new Clause();
        c.sum = sum();
        if (takes("if")) {
            c.test = test(0);
        }
        return c;
    }

    private Test test(int depth) {
        Test left = part(depth);
        while (takes("or")) {
            Test a = left;
            Test b = part(depth);
            left = w -> a.holds(w) || b.holds(w);
        }
        return left;
    }

    private Test part(int depth) {
        Test left = fact(depth);
        while (takes("and")) {
            Test a = left;
            Test b = fact(depth);
            left = w -> a.holds(w) && b.holds(w);
        }
        return left;
    }

    private Test fact(int depth) {
        Token t = peek();
        if (t.text.equals("not") || t.text.equals("[")) {
            if (depth == 10) {
                throw new Fault(t.place, 2);
            }
            next++;
            if (t.text.equals("not")) {
                Test inner = fact(depth + 1);
                return w -> !inner.holds(w);
            }
            Test inner = test(depth + 1);
            if (!takes("]")) {
                throw new Fault(peek().place, 0);
            }
            return inner;
        }
        Sum a = sum();
        Token sign = peek();
        if (!List.of("<", "<=", "=", ">=", ">").contains(sign.text)) {
            throw new Fault(sign.place, 0);
        }
        countOne(sign.place);
        next++;
        Sum b = sum();
        switch (sign.text) {
            case "<": return w -> a.of(w) < b.of(w);
            case "<=": return w -> a.of(w) <= b.of(w);
            case "=": return w -> a.of(w) == b.of(w);
            case ">=": return w -> a.of(w) >= b.of(w);
            default: return w -> a.of(w) > b.of(w);
        }
    }

    private void countOne(int place) {
        if (++amount > 60) {
            throw new Fault(place, 3);
        }
    }

    private Sum sum() {
        Sum left = term();
        while (peek().text.equals("+") || peek().text.equals("-")) {
            boolean plus = tokens.get(next++).text.equals("+");
            Sum a = left;
            Sum b = term();
            left = plus ? w -> a.of(w) + b.of(w) : w -> a.of(w) - b.of(w);
        }
        return left;
    }

    private Sum term() {
        Sum left = value();
        while (List.of("*", "/", "%").contains(peek().text)) {
            String sign = tokens.get(next++).text;
            Sum a = left;
            Sum b = value();
            left = w -> {
                long x = a.of(w);
                long y = b.of(w);
                return sign.equals("*") ? x * y : y == 0 ? 0 : sign.equals("/") ? x / y : x % y;
            };
        }
        return left;
    }

    private Sum value() {
        Token t = peek();
        if (t.isNumber()) {
            if (t.text.length() > 5) {
                throw new Fault(t.place, 1);
            }
            countOne(t.place);
            next++;
            long n = Long.parseLong(t.text);
            return w -> n;
        }
        List<String> words = List.of("teller", "hearer", "floor", "bell", "chairs", "since", "home", "there", "known",
                "night", "twist");
        if (!words.contains(t.text)) {
            throw new Fault(t.place, 0);
        }
        countOne(t.place);
        next++;
        return w -> w.get(t.text);
    }

    // ---- what happens

    private int ring(World w) {
        for (int p = 0; p < w.people.size(); p++) {
            int goal = -1;
            for (int[] e : w.errands) {
                if (e[0] == p && e[2] == w.bell) {
                    goal = e[1];
                }
            }
            Person q = w.people.get(p);
            if (goal != -1 && q.stands() && goal != q.at) {
                q.goal = goal;
                q.left = q.pace;
            }
        }
        for (Person q : w.people) {
            q.onLanding = true;
            if (!q.stands()) {
                q.left--;
                q.onLanding = q.left == 0;
                if (q.left == 0) {
                    q.at += Integer.signum(q.goal - q.at);
                    q.left = q.stands() ? 0 : q.pace;
                }
            }
        }
        int known = w.known();
        int heard = 0;
        for (int h = 0; h < w.people.size(); h++) {
            Person q = w.people.get(h);
            if ((known >> h & 1) == 1 || q.deaf || !q.onLanding) {
                continue;
            }
            int of = -1;
            for (int t = w.people.size() - 1; t >= 0; t--) {
                if (tells(w, t, h, known)) {
                    of = t;
                }
            }
            if (of == -1 && w.to == q.at) {
                for (int t = w.people.size() - 1; t >= 0; t--) {
                    Person o = w.people.get(t);
                    if ((known >> t & 1) == 1 && o.onLanding && o.at == w.from) {
                        of = t;
                    }
                }
            }
            if (of != -1) {
                q.knows = true;
                q.heard = w.bell;
                q.of = of;
                q.chairs = Math.max(-999, Math.min(999, w.people.get(of).chairs + w.people.get(of).twist));
                heard++;
            }
        }
        w.bell = Math.min(999, w.bell + 1);
        return heard;
    }

    private boolean tells(World w, int t, int h, int known) {
        Person teller = w.people.get(t);
        Person hearer = w.people.get(h);
        boolean night = w.night != -1 && w.bell >= w.night;
        if ((known >> t & 1) == 0 || !teller.onLanding || teller.at != hearer.at || w.plants[hearer.at]
                || night && !w.lit[hearer.at]) {
            return false;
        }
        long there = -2;
        for (Person q : w.people) {
            there += q.onLanding && q.at == hearer.at ? 1 : 0;
        }
        if (w.hate(t, h) && there == 0) {
            return false;
        }
        if (w.force == -1) {
            return true;
        }
        Map<String, Long> words = new HashMap<>();
        words.put("teller", (long) t);
        words.put("hearer", (long) h);
        words.put("floor", (long) hearer.at);
        words.put("bell", (long) w.bell);
        words.put("chairs", (long) teller.chairs);
        words.put("since", (long) w.bell - teller.heard);
        words.put("home", hearer.at == hearer.home ? 1L : 0L);
        words.put("there", there);
        words.put("known", (long) Integer.bitCount(known));
        words.put("night", night ? 1L : 0L);
        words.put("twist", (long) teller.twist);
        for (Clause c : rules.get(w.force)) {
            if (c.test == null || c.test.holds(words)) {
                return c.sum.of(words) > 0;
            }
        }
        return false;
    }

    private World after(World w, int n) {
        World v = w.copy();
        for (int i = 0; i < n; i++) {
            ring(v);
        }
        return v;
    }

    private void act() {
        undone.add(world.copy());
        if (undone.size() > 20) {
            undone.remove(0);
        }
    }

    private boolean isPerson(int p) {
        return p >= 0 && p < world.people.size();
    }

    private boolean isFloor(int f) {
        return f >= 0 && f < world.floors;
    }

    int force(int rule) {
        if (rule < -1 || rule >= rules.size()) {
            return -2;
        }
        int was = world.force;
        world.force = rule;
        return was;
    }

    int person(int p, int what) {
        if (!isPerson(p) || what < 0 || what > 7) {
            return -1000;
        }
        Person q = world.people.get(p);
        int hated = 0;
        for (int o = 0; o < world.people.size(); o++) {
            hated |= world.hate(p, o) ? 1 << o : 0;
        }
        return new int[] {q.at, q.goal, q.left, q.pace, q.home, hated, q.deaf ? 1 : 0, q.twist}[what];
    }

    int knows(int p, int what) {
        if (!isPerson(p) || what < 0 || what > 2) {
            return -1000;
        }
        Person q = world.people.get(p);
        return new int[] {q.heard, q.chairs, q.of}[what];
    }

    int floor(int f, int what) {
        if (!isFloor(f) || what < 0 || what > 2) {
            return -1;
        }
        int on = 0;
        for (int p = 0; p < world.people.size(); p++) {
            on |= world.people.get(p).at == f ? 1 << p : 0;
        }
        return new int[] {on, world.plants[f] ? 1 : 0, world.lit[f] ? 1 : 0}[what];
    }

    int bell() {
        if (world.floors == 0 || world.bell == 999) {
            return -1;
        }
        act();
        return ring(world);
    }

    boolean whisper(int p, int chairs) {
        if (!isPerson(p) || chairs < 0 || chairs > 99 || world.people.get(p).deaf || world.people.get(p).knows) {
            return false;
        }
        act();
        tellNow(world, p, chairs);
        return true;
    }

    private static void tellNow(World w, int p, int chairs) {
        Person q = w.people.get(p);
        q.knows = true;
        q.heard = w.bell;
        q.chairs = chairs;
        q.of = -1;
    }

    int send(int p, int f) {
        if (!isPerson(p) || !isFloor(f) || !world.people.get(p).stands() || world.people.get(p).at == f) {
            return -1;
        }
        act();
        Person q = world.people.get(p);
        q.goal = f;
        q.left = q.pace;
        return Math.abs(q.at - f);
    }

    int plant(int f) {
        if (!isFloor(f)) {
            return -1;
        }
        act();
        world.plants[f] = !world.plants[f];
        return world.plants[f] ? 1 : 0;
    }

    int heel(int p) {
        if (!isPerson(p) || world.people.get(p).pace == 9) {
            return -1;
        }
        act();
        return ++world.people.get(p).pace;
    }

    int undo() {
        if (undone.isEmpty()) {
            return -1;
        }
        World was = undone.remove(undone.size() - 1);
        was.force = world.force;
        was.x = world.x;
        was.news = world.news;
        world = was;
        return undone.size();
    }

    // ---- what is asked

    int ahead(int n) {
        return world.floors == 0 || n < 0 || n > 100 ? -1 : after(world, n).known();
    }

    int where(int p, int n) {
        return !isPerson(p) || n < 0 || n > 100 ? -1 : after(world, n).people.get(p).at;
    }

    int hears(int p) {
        if (!isPerson(p)) {
            return -1;
        }
        Person q = after(world, 100).people.get(p);
        return q.knows ? q.heard : -2;
    }

    int whom(int a, int n, int b, int what) {
        if (!isFloor(a) || !isFloor(b) || a == b || n < 1 || n > 60 || what < 0 || what > 1) {
            return -1;
        }
        int best = -1;
        for (int set = 0; set < 1 << world.people.size(); set++) {
            if (best != -1 && Integer.bitCount(set) >= Integer.bitCount(best)) {
                continue;
            }
            World w = world.copy();
            boolean can = true;
            for (int p = 0; p < w.people.size(); p++) {
                if ((set >> p & 1) == 1) {
                    can &= !w.people.get(p).deaf && !w.people.get(p).knows;
                    tellNow(w, p, 0);
                }
            }
            if (!can) {
                continue;
            }
            w = after(w, n);
            boolean good = false;
            boolean bad = false;
            for (Person q : w.people) {
                good |= q.knows && q.home == a;
                bad |= q.knows && q.home == b;
            }
            if (good && !bad) {
                best = set;
            }
        }
        return best == -1 ? -2 : what == 0 ? Integer.bitCount(best) : best;
    }

    int news(int p, int chairs) {
        if (p == -1) {
            world.news = new ArrayList<>();
            return 0;
        }
        if (!isPerson(p) || chairs < -1000 || chairs > 999 || world.news.size() == 10) {
            return -2;
        }
        world.news.add(new int[] {p, chairs});
        return world.news.size();
    }

    private static int answer(Person q) {
        return q.knows ? q.chairs : -1000;
    }

    private List<World> starts = new ArrayList<>();
    private List<int[]> startsOf = new ArrayList<>();

    private void findStarts() {
        starts = new ArrayList<>();
        startsOf = new ArrayList<>();
        World first = world.copy();
        first.bell = 0;
        first.plants = first.toldPlants.clone();
        for (Person q : first.people) {
            q.at = q.home;
            q.goal = q.home;
            q.left = 0;
            q.pace = q.toldPace;
            q.knows = false;
            q.heard = -1;
            q.chairs = 0;
            q.of = -1;
        }
        for (int p = 0; p < world.people.size(); p++) {
            for (int b = 0; b <= Math.min(40, world.bell); b++) {
                if (world.people.get(p).deaf) {
                    continue;
                }
                World w = after(first, b);
                tellNow(w, p, 0);
                w = after(w, world.bell - b);
                boolean so = true;
                for (int[] n : world.news) {
                    so &= answer(w.people.get(n[0])) == n[1];
                }
                if (so) {
                    starts.add(w);
                    startsOf.add(new int[] {p, b});
                }
            }
        }
    }

    int starts(int what) {
        if (world.floors == 0 || what < 0 || what > 2) {
            return -1;
        }
        findStarts();
        return what == 0 ? starts.size() : starts.isEmpty() ? -2 : startsOf.get(0)[what - 1];
    }

    int look(int what) {
        if (world.floors == 0 || what < 0 || what > 1) {
            return -1;
        }
        findStarts();
        int best = -2;
        int fewest = -2;
        for (int p = 0; p < world.people.size() && !starts.isEmpty(); p++) {
            Map<Integer, Integer> alike = new HashMap<>();
            int most = 0;
            for (World w : starts) {
                most = Math.max(most, alike.merge(answer(w.people.get(p)), 1, Integer::sum));
            }
            if (best == -2 || most < fewest) {
                best = p;
                fewest = most;
            }
        }
        return what == 0 ? best : fewest;
    }

    int block(int n, int what) {
        if (world.floors == 0 || n < 1 || n > 60 || what < 0 || what > 1) {
            return -1;
        }
        int best = -2;
        int fewest = -2;
        for (int f = 0; f < world.floors; f++) {
            if (world.plants[f]) {
                continue;
            }
            World w = world.copy();
            w.plants[f] = true;
            int know = Integer.bitCount(after(w, n).known());
            if (best == -2 || know < fewest) {
                best = f;
                fewest = know;
            }
        }
        return what == 0 ? best : fewest;
    }

    int silence(int person, int n, int what) {
        if (!isPerson(person) || n < 1 || n > 60 || what < 0 || what > 1) {
            return -1;
        }
        int best = -1;
        for (int set = 0; set < 1 << world.people.size(); set++) {
            if ((set >> person & 1) == 1 || (set & world.known()) != 0
                    || best != -1 && Integer.bitCount(set) >= Integer.bitCount(best)) {
                continue;
            }
            World w = world.copy();
            for (int p = 0; p < w.people.size(); p++) {
                w.people.get(p).deaf |= (set >> p & 1) == 1;
            }
            if (!after(w, n).people.get(person).knows) {
                best = set;
            }
        }
        return best == -1 ? -2 : what == 0 ? Integer.bitCount(best) : best;
    }

    int meeting(int what) {
        if (world.floors == 0 || what < 0 || what > 1) {
            return -1;
        }
        int best = -1;
        int fewest = Integer.MAX_VALUE;
        for (int f = 0; f < world.floors; f++) {
            int flights = 0;
            for (Person q : world.people) {
                flights += Math.abs(q.at - f);
            }
            if (flights < fewest) {
                best = f;
                fewest = flights;
            }
        }
        return what == 0 ? best : fewest;
    }

    private int last(World w) {
        World v = after(w, 100);
        int last = -1;
        for (int p = 0; p < v.people.size(); p++) {
            if (v.people.get(p).knows && !w.people.get(p).knows) {
                last = Math.max(last, v.people.get(p).heard);
            }
        }
        return last;
    }

    int cost(int p) {
        if (!isPerson(p) || world.people.get(p).pace == 9) {
            return -1000;
        }
        World w = world.copy();
        w.people.get(p).pace++;
        int with = last(w);
        int without = last(world);
        return with == -1 || without == -1 ? -1000 : with - without;
    }

    int seed(int x) {
        if (x < 0) {
            return -1;
        }
        int was = (int) world.x;
        world.x = x;
        return was;
    }

    int evenings(int m, int n, int what) {
        if (world.floors == 0 || m < 1 || m > 10 || n < 1 || n > 60 || what < 0 || what > 1) {
            return -1000000;
        }
        World w = world.copy();
        int looked = 0;
        for (int i = 0; i < m && !w.people.isEmpty(); i++) {
            w.x = (w.x * 1103515245L + 12345) % (1L << 31);
            Person q = w.people.get((int) (w.x / 65536) % w.people.size());
            w.x = (w.x * 1103515245L + 12345) % (1L << 31);
            int f = (int) (w.x / 65536) % w.floors;
            if (q.stands() && q.at != f) {
                q.goal = f;
                q.left = q.pace;
            }
            for (int bell = 0; bell < n && looked < 100; bell++) {
                ring(w);
                looked++;
            }
        }
        int chairs = 0;
        for (Person q : w.people) {
            chairs += q.knows ? q.chairs : 0;
        }
        return what == 0 ? w.known() : chairs;
    }

    int count(int what) {
        int walk = 0;
        for (int p = 0; p < world.people.size(); p++) {
            walk |= world.people.get(p).stands() ? 0 : 1 << p;
        }
        int[] all = {world.floors, world.people.size(), world.errands.size(), rules.size(), world.force, world.bell,
            world.known(), walk, world.news.size(), undone.size(), (int) world.x, tape.length(), world.night};
        return what < 0 || what >= all.length ? -1 : all[what];
    }

    int image(int k) {
        if (k < 0 || k > 3) {
            return -1;
        }
        images[k] = world.copy();
        return world.bell;
    }

    int back(int k) {
        if (k < 0 || k > 3 || images[k] == null) {
            return -1;
        }
        world = images[k].copy();
        undone.clear();
        return world.bell;
    }
}

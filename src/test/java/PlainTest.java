import java.util.Random;

/** Random runs of at most 512 calls, each answer held against Plain's; the runs are the same every time. */
public final class PlainTest {
    private static final int RUNS = Integer.getInteger("stairnews.runs", 2000);
    private static final int[] ODD = {-1, -2, 7, 9, 10, 60, 61, 99, 100, 101, 1000, -1000, -1001,
        Integer.MIN_VALUE, Integer.MAX_VALUE};
    private static final String SIGNS = "abehlnoprst0123456789 ;[]<=>+-*/%\0\u00ff";

    private final Random random;
    private final StairNews x = new StairNews();
    private final Plain y = new Plain();
    private final int run;
    private int people;
    private int floors;
    private int calls;

    private PlainTest(int run) {
        this.run = run;
        random = new Random(run);
    }

    public static void main(String[] args) {
        int from = Integer.getInteger("stairnews.from", 0);
        for (int run = from; run < from + RUNS; run++) {
            new PlainTest(run).go();
            if (run % 60 == 0) {
                new PlainTest(run).goLate();
            }
        }
        Due.finish();
    }

    private void due(String call, int got, int want) {
        calls++;
        Due.is("run " + run + ", call " + calls + ": " + call, got, want);
    }

    private void go() {
        int length = 40 + random.nextInt(random.nextInt(20) == 0 ? 400 : 200);
        newHouse();
        while (calls < length) {
            step();
        }
    }

    /** Bells far beyond 100, and a rule by which they tell late: starts ask for all of them, what is ahead does not. */
    private void goLate() {
        newHouse();
        String when = (random.nextBoolean() ? "bell" : "since") + (random.nextBoolean() ? " = " : " >= ");
        String text = "tell 1 if " + when + (30 + random.nextInt(270)) + ";tell " + random.nextInt(2) + " if " + aTest(2);
        tape(text);
        due("rule() of '" + text + "'", x.rule(), y.rule());
        int last = y.count(3) - 1;
        due("force(" + last + ")", x.force(last), y.force(last));
        while (calls < 500) {
            int kind = random.nextInt(60);
            if (kind == 0) {
                ask();
            } else if (kind == 1) {
                aNews(some(people));
                askForStarts();
            } else {
                due("bell()", x.bell(), y.bell());
            }
        }
        askForStarts();
    }

    private void askForStarts() {
        int which = some(3);
        int what = some(2);
        due("starts(" + which + ")", x.starts(which), y.starts(which));
        due("look(" + what + ")", x.look(what), y.look(what));
    }

    private void step() {
        int kind = random.nextInt(100);
        if (kind < 22) {
            due("bell()", x.bell(), y.bell());
        } else if (kind < 30) {
            newText();
        } else if (kind < 55) {
            act();
        } else if (kind < 70) {
            show();
        } else {
            ask();
        }
    }

    private int some(int bound) {
        return random.nextInt(25) == 0 ? ODD[random.nextInt(ODD.length)] : random.nextInt(Math.max(1, bound));
    }

    private void tape(String text) {
        due("count(11)", x.count(11), y.count(11));
        due("end(0)", x.end(0), y.end(0));
        for (int i = 0; i < text.length(); i += 20) {
            int[] n = new int[5];
            for (int k = 0; k < 5; k++) {
                n[k] = Due.four(text, i + 4 * k);
            }
            due("feed", x.feed(n[0], n[1], n[2], n[3], n[4]), y.feed(n[0], n[1], n[2], n[3], n[4]));
        }
        due("end(" + text.length() + ")", x.end(text.length()), y.end(text.length()));
    }

    private void newText() {
        int kind = random.nextInt(10);
        if (kind == 0) {
            newHouse();
        } else if (kind < 6) {
            String text = damaged(aRule());
            tape(text);
            due("rule() of '" + text + "'", x.rule(), y.rule());
            int last = y.count(3) - 1;
            if (random.nextInt(3) > 0) {
                due("force(" + last + ")", x.force(last), y.force(last));
            }
        } else if (kind < 8) {
            String text = damaged(aHouse());
            tape(text);
            due("house() of '" + text + "'", x.house(), y.house());
            readSizes();
        } else {
            int n = some(420);
            due("end(" + n + ")", x.end(n), y.end(n));
        }
    }

    private void newHouse() {
        String text = aHouse();
        tape(text);
        due("house() of '" + text + "'", x.house(), y.house());
        readSizes();
        int bells = random.nextInt(40) == 0 ? 90 + random.nextInt(40) : random.nextInt(3) == 0 ? random.nextInt(50) : 0;
        for (int i = 0; i < bells; i++) {
            due("bell()", x.bell(), y.bell());
        }
        if (random.nextInt(5) > 0) {
            aWhisper(some(people));
        }
        for (int i = 0; i < 8; i++) {
            ask();
        }
    }

    private void readSizes() {
        floors = y.count(0);
        people = y.count(1);
    }

    private String blank() {
        int n = random.nextInt(12);
        return n == 0 ? "  " : n == 1 ? "   " : " ";
    }

    private String loose() {
        return random.nextInt(15) == 0 ? " " : "";
    }

    private String aHouse() {
        int f = 2 + random.nextInt(random.nextInt(3) == 0 ? 8 : 3);
        int p = random.nextInt(20) == 0 ? random.nextInt(2) : 2 + random.nextInt(6);
        StringBuilder text = new StringBuilder("house" + blank() + f);
        for (int i = 0; i < p; i++) {
            clause(text, "person", random.nextInt(f), 1 + random.nextInt(random.nextInt(4) == 0 ? 9 : 3));
        }
        int more = p == 0 ? 0 : random.nextInt(22);
        boolean night = false;
        boolean bucket = false;
        int hates = 0;
        int errands = 0;
        for (int i = 0; i < more; i++) {
            int who = random.nextInt(p);
            switch (random.nextInt(11)) {
                case 0: case 1: case 2: case 3:
                    if (errands++ < 10) {
                        clause(text, "errand", who, random.nextInt(f), random.nextInt(random.nextInt(3) == 0 ? 100 : 12));
                    }
                    break;
                case 4:
                    if (p > 1 && hates++ < 6) {
                        clause(text, "hates", who, (who + 1 + random.nextInt(p - 1)) % p);
                    }
                    break;
                case 5:
                    if (random.nextInt(3) == 0) {
                        clause(text, "deaf", who);
                    }
                    break;
                case 6: clause(text, "adds", who, 1 + random.nextInt(9)); break;
                case 7: clause(text, "takes", who, 1 + random.nextInt(9)); break;
                case 8: clause(text, random.nextInt(3) == 0 ? "plant" : "lit", random.nextInt(f)); break;
                case 9:
                    if (!night && random.nextInt(2) == 0) {
                        clause(text, "night", random.nextInt(random.nextInt(2) == 0 ? 100 : 10));
                        night = true;
                    }
                    break;
                default:
                    if (!bucket) {
                        int from = random.nextInt(f);
                        clause(text, "bucket", from, (from + 1 + random.nextInt(f - 1)) % f);
                        bucket = true;
                    }
                    break;
            }
        }
        return text.length() > 400 ? text.substring(0, text.lastIndexOf(";", 400)) : text.toString();
    }

    private void clause(StringBuilder text, String word, int... numbers) {
        text.append(loose()).append(';').append(loose()).append(word);
        for (int n : numbers) {
            text.append(blank()).append(random.nextInt(40) == 0 ? "0" : "").append(n);
        }
    }

    private String aRule() {
        StringBuilder text = new StringBuilder();
        int clauses = 1 + random.nextInt(4);
        for (int i = 0; i < clauses; i++) {
            String sum = random.nextInt(3) == 0 ? aSum() : Integer.toString(random.nextInt(3));
            text.append(i > 0 ? ";" : "").append(loose()).append("tell ").append(sum);
            if (i < clauses - 1 || random.nextInt(3) > 0) {
                text.append(" if ").append(aTest(0));
            }
        }
        return text.length() > 400 ? text.substring(0, 400) : text.toString();
    }

    private String aTest(int depth) {
        StringBuilder text = new StringBuilder(aFact(depth));
        int more = random.nextInt(4) == 0 ? 1 + random.nextInt(2) : 0;
        for (int i = 0; i < more; i++) {
            text.append(random.nextBoolean() ? " and " : " or ").append(aFact(depth));
        }
        return text.toString();
    }

    private String aFact(int depth) {
        int kind = random.nextInt(6);
        int far = random.nextInt(100) == 0 ? 12 : 4;
        if (kind == 0 && depth < far) {
            return "not " + aFact(depth + 1);
        }
        if (kind == 1 && depth < far) {
            return "[" + loose() + aTest(depth + 1) + loose() + "]";
        }
        String[] signs = {"<", "<=", "=", ">=", ">"};
        if (random.nextInt(12) == 0) {
            // Nobody tells until late, so that it shows how many bells are looked at.
            return "bell" + loose() + signs[random.nextInt(5)] + " " + (60 + random.nextInt(90));
        }
        return aSum() + loose() + signs[random.nextInt(5)] + loose() + aSum();
    }

    private String aSum() {
        StringBuilder text = new StringBuilder(aValue());
        int more = random.nextInt(3) == 0 ? 1 + random.nextInt(3) : 0;
        String[] signs = {"+", "-", "*", "/", "%"};
        for (int i = 0; i < more; i++) {
            text.append(loose()).append(signs[random.nextInt(5)]).append(loose()).append(aValue());
        }
        return text.toString();
    }

    private String aValue() {
        if (random.nextInt(3) == 0) {
            return Integer.toString(random.nextInt(random.nextInt(8) == 0 ? 100000 : 6));
        }
        String[] words = {"teller", "hearer", "floor", "bell", "chairs", "since", "home", "there", "known", "night",
            "twist"};
        return words[random.nextInt(words.length)];
    }

    private String damaged(String text) {
        if (random.nextInt(3) > 0) {
            return text;
        }
        StringBuilder worse = new StringBuilder(text);
        int place = worse.length() == 0 ? 0 : random.nextInt(worse.length());
        char sign = SIGNS.charAt(random.nextInt(SIGNS.length()));
        switch (random.nextInt(5)) {
            case 0: worse.insert(place, sign); break;
            case 1: worse.setLength(place); break;
            case 2: worse.insert(place, worse.substring(place)); break;
            case 3: worse.delete(place, Math.min(worse.length(), place + 1 + random.nextInt(4))); break;
            default:
                if (worse.length() > 0) {
                    worse.setCharAt(place, sign);
                }
                break;
        }
        return worse.length() > 400 ? worse.substring(0, 400) : worse.toString();
    }

    private void act() {
        int p = some(people);
        int f = some(floors);
        int k = some(4);
        switch (random.nextInt(13)) {
            case 0: case 1: aWhisper(p); break;
            case 2: case 3: case 4: due("send(" + p + ", " + f + ")", x.send(p, f), y.send(p, f)); break;
            case 5: due("plant(" + f + ")", x.plant(f), y.plant(f)); break;
            case 6: due("heel(" + p + ")", x.heel(p), y.heel(p)); break;
            case 7: due("undo()", x.undo(), y.undo()); break;
            case 8: due("image(" + k + ")", x.image(k), y.image(k)); break;
            case 9:
                if (random.nextInt(2) == 0) {
                    due("back(" + k + ")", x.back(k), y.back(k));
                    readSizes();
                }
                break;
            case 10: {
                int r = random.nextInt(4) == 0 ? some(7) : random.nextInt(1 + y.count(3)) - 1;
                due("force(" + r + ")", x.force(r), y.force(r));
                break;
            }
            case 11: {
                int s = random.nextInt(3) == 0 ? some(3) : random.nextInt();
                due("seed(" + s + ")", x.seed(s), y.seed(s));
                break;
            }
            default: aNews(p); break;
        }
    }

    private void aWhisper(int p) {
        int chairs = some(100);
        due("whisper(" + p + ", " + chairs + ")", x.whisper(p, chairs) ? 1 : 0, y.whisper(p, chairs) ? 1 : 0);
    }

    private void aNews(int p) {
        int who = random.nextInt(3) == 0 ? -1 : p;
        int chairs = random.nextInt(3) == 0 ? -1000 : random.nextInt(4) == 0 ? some(12) : 0;
        due("news(" + who + ", " + chairs + ")", x.news(who, chairs), y.news(who, chairs));
    }

    private void show() {
        int p = some(people);
        int f = some(floors);
        switch (random.nextInt(4)) {
            case 0: {
                int what = some(8);
                due("person(" + p + ", " + what + ")", x.person(p, what), y.person(p, what));
                break;
            }
            case 1: {
                int what = some(3);
                due("knows(" + p + ", " + what + ")", x.knows(p, what), y.knows(p, what));
                break;
            }
            case 2: {
                int what = some(3);
                due("floor(" + f + ", " + what + ")", x.floor(f, what), y.floor(f, what));
                break;
            }
            default: {
                int what = some(13);
                due("count(" + what + ")", x.count(what), y.count(what));
                break;
            }
        }
    }

    private void ask() {
        int p = some(people);
        int what = some(2);
        int n = 1 + some(random.nextBoolean() ? 60 : 12);
        switch (random.nextInt(11)) {
            case 0: due("ahead(" + n + ")", x.ahead(n), y.ahead(n)); break;
            case 1: due("where(" + p + ", " + n + ")", x.where(p, n), y.where(p, n)); break;
            case 2: due("hears(" + p + ")", x.hears(p), y.hears(p)); break;
            case 3: {
                int a = some(floors);
                int b = some(floors);
                due("whom(" + a + ", " + n + ", " + b + ", " + what + ")", x.whom(a, n, b, what), y.whom(a, n, b, what));
                break;
            }
            case 4: {
                int which = some(3);
                due("starts(" + which + ")", x.starts(which), y.starts(which));
                break;
            }
            case 5: due("look(" + what + ")", x.look(what), y.look(what)); break;
            case 6: due("block(" + n + ", " + what + ")", x.block(n, what), y.block(n, what)); break;
            case 7: due("silence(" + p + ", " + n + ", " + what + ")", x.silence(p, n, what), y.silence(p, n, what)); break;
            case 8: due("meeting(" + what + ")", x.meeting(what), y.meeting(what)); break;
            case 9: due("cost(" + p + ")", x.cost(p), y.cost(p)); break;
            default: {
                int m = 1 + some(10);
                due("evenings(" + m + ", " + n + ", " + what + ")", x.evenings(m, n, what), y.evenings(m, n, what));
                break;
            }
        }
    }
}

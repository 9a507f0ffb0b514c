import java.util.ArrayList;
import java.util.List;
import java.util.function.Consumer;
import java.util.function.Supplier;
import java.util.function.ToIntFunction;

/**
 * Whether nothing happened: of two objects made by the same calls one is asked, and from then on both answer alike.
 * No object comes beyond the 512 calls up to which answers are promised.
 */
final class Still {
    private Still() {
    }

    /** A call that answers as due, and by which nothing happens. */
    static void keeps(String call, Supplier<StairNews> made, ToIntFunction<StairNews> asked, int due) {
        StairNews x = made.get();
        Due.is(call, asked.applyAsInt(x), due);
        alike(call + ", and nothing happens", x, made.get());
    }

    /** Two runs of calls behind which an object of each stands the same. */
    static void sameBehind(String what, Supplier<StairNews> made, Consumer<StairNews> one, Consumer<StairNews> other) {
        StairNews x = made.get();
        StairNews y = made.get();
        one.accept(x);
        other.accept(y);
        alike(what, x, y);
    }

    /** Calls by which nothing happens, whatever they answer. */
    static void leaves(String call, Supplier<StairNews> made, Consumer<StairNews> asked) {
        sameBehind(call + " changes nothing", made, asked, x -> { });
    }

    /** Uses both objects up. */
    static void alike(String what, StairNews x, StairNews y) {
        List<String> names = new ArrayList<>();
        List<Integer> one = all(x, names);
        List<Integer> other = all(y, new ArrayList<>());
        Due.is(what + ": how many answers", one.size(), other.size());
        for (int i = 0; i < Math.min(one.size(), other.size()); i++) {
            Due.is(what + ": " + names.get(i), one.get(i), other.get(i));
        }
    }

    private static List<Integer> all(StairNews x, List<String> names) {
        List<Integer> answers = new ArrayList<>();
        show(x, names, answers);
        foresee(x, names, answers);
        int left = 0;
        for (int i = 0; i <= 20 && left >= 0; i++) {
            left = x.undo();
            note("undo()", left, names, answers);
            for (int what = 5; what <= 7; what++) {
                note("count(" + what + ") behind undo()", x.count(what), names, answers);
            }
        }
        for (int k = 0; k < 4; k++) {
            note("back(" + k + ")", x.back(k), names, answers);
            for (int what : new int[] {0, 4, 6, 8, 10}) {
                note("count(" + what + ") behind back(" + k + ")", x.count(what), names, answers);
            }
        }
        for (int k = 0; k < 6; k++) {
            note("force(" + k + ")", x.force(k), names, answers);
            note("ahead(60) by rule " + k, x.ahead(60), names, answers);
        }
        note("house() of the tape", x.house(), names, answers);
        note("floors of the tape's house", x.count(0), names, answers);
        return answers;
    }

    private static void note(String name, int answer, List<String> names, List<Integer> answers) {
        names.add(name);
        answers.add(answer);
    }

    private static void show(StairNews x, List<String> names, List<Integer> answers) {
        for (int what = 0; what <= 12; what++) {
            note("count(" + what + ")", x.count(what), names, answers);
        }
        for (int p = 0; p < x.count(1); p++) {
            for (int what = 0; what <= 7; what++) {
                note("person(" + p + ", " + what + ")", x.person(p, what), names, answers);
            }
            for (int what = 0; what <= 2; what++) {
                note("knows(" + p + ", " + what + ")", x.knows(p, what), names, answers);
            }
        }
        for (int f = 0; f < x.count(0); f++) {
            note("floor(" + f + ", 1)", x.floor(f, 1), names, answers);
            note("floor(" + f + ", 2)", x.floor(f, 2), names, answers);
        }
    }

    private static void foresee(StairNews x, List<String> names, List<Integer> answers) {
        for (int n = 0; n <= 100; n += 20) {
            note("ahead(" + n + ")", x.ahead(n), names, answers);
        }
        note("starts(0)", x.starts(0), names, answers);
        note("look(1)", x.look(1), names, answers);
        note("evenings(5, 7, 0)", x.evenings(5, 7, 0), names, answers);
        note("evenings(3, 30, 1)", x.evenings(3, 30, 1), names, answers);
    }

    /**
     * Five floors, five people: 0 knows, 1 stands, 2 walks, 3 is deaf and as slow as can be, 4 heard it of 0. There are
     * two rules, a rule in force, two pieces of news, acts to undo, images 0 and 2, and a house of two on the tape.
     */
    static StairNews rich() {
        StairNews x = Due.in("house 5;person 0 1;person 2 2;person 4 3;person 0 9;person 0 1;errand 0 2 6;errand 1 4 9;"
                + "hates 0 3;adds 0 2;takes 1 1;plant 1;deaf 3;night 30;lit 4;bucket 4 0");
        Due.rule(x, "tell 1 if bell < 5");
        Due.rule(x, "tell chairs + 1 if not hearer = 3");
        x.force(1);
        x.whisper(0, 5);
        x.send(2, 0);
        x.bell();
        x.image(0);
        x.bell();
        x.plant(3);
        x.heel(1);
        x.news(0, 0);
        x.news(1, -1000);
        x.seed(12345);
        x.image(2);
        x.bell();
        Due.tape(x, "house 2;person 0 1;person 1 9");
        return x;
    }
}

import java.util.Random;

/** Wild arguments, and more calls than are promised: nothing throws, and every call ends. */
public final class WildTest {
    private static final int[] EDGES = {-1000, -2, -1, 0, 1, 2, 3, 5, 6, 7, 8, 9, 10, 40, 60, 61, 99, 100, 399, 400, 999,
        Integer.MIN_VALUE, Integer.MAX_VALUE};
    private static final String[] HOUSES = {"house 2", "house 9" + Due.times(";person 8 1", 7) + ";bucket 8 0",
        "house 3;person 0 1;person 1 2;person 2 3;errand 0 2 0;errand 1 0 40;adds 0 9;takes 1 9;night 30;lit 1"};

    public static void main(String[] args) {
        for (int run = 0; run < 60; run++) {
            Random random = new Random(run);
            StairNews x = new StairNews();
            for (int i = 0; i < 1500; i++) {
                call(x, random);
            }
        }
        bellsToTheEnd();
        Due.finish();
    }

    /** Beyond the 512 calls that are promised; BELL ends at 999 all the same. */
    private static void bellsToTheEnd() {
        StairNews x = Due.in(HOUSES[2]);
        x.whisper(0, 0);
        Due.ring(x, 998);
        Due.is("the last bell", x.bell(), 0);
        Due.is("at BELL 999", x.bell(), -1);
        Due.is("BELL", x.count(5), 999);
        x.news(1, 9);
        Due.is("starts at BELL 999", x.starts(0) >= 1, true);
        Due.is("look at BELL 999", x.look(0) >= 0, true);
        Due.is("ahead", x.ahead(100), x.count(6));
    }

    private static int any(Random random) {
        return random.nextInt(10) == 0 ? random.nextInt() : EDGES[random.nextInt(EDGES.length)];
    }

    private static void call(StairNews x, Random random) {
        int a = any(random);
        int b = any(random);
        int c = any(random);
        int d = any(random);
        switch (random.nextInt(36)) {
            case 0: x.feed(a, b, c, d, any(random)); break;
            case 1: x.end(a); break;
            case 2: x.house(); break;
            case 3: x.rule(); break;
            case 4: x.force(a); break;
            case 5: x.person(a, b); break;
            case 6: x.knows(a, b); break;
            case 7: x.floor(a, b); break;
            case 8: x.whisper(a, b); break;
            case 9: x.send(a, b); break;
            case 10: x.plant(a); break;
            case 11: x.heel(a); break;
            case 12: x.undo(); break;
            case 13: x.ahead(a); break;
            case 14: x.where(a, b); break;
            case 15: x.hears(a); break;
            case 16: x.whom(a, b, c, d); break;
            case 17: x.news(a, b); break;
            case 18: x.starts(a); break;
            case 19: x.look(a); break;
            case 20: x.block(a, b); break;
            case 21: x.silence(a, b, c); break;
            case 22: x.meeting(a); break;
            case 23: x.cost(a); break;
            case 24: x.seed(a); break;
            case 25: x.evenings(a, b, c); break;
            case 26: x.count(a); break;
            case 27: x.image(a); break;
            case 28: x.back(a); break;
            case 29: text(x, random); break;
            default: x.bell(); break;
        }
    }

    private static void text(StairNews x, Random random) {
        int kind = random.nextInt(12);
        if (kind < 3) {
            Due.house(x, HOUSES[kind]);
        } else if (kind < 6) {
            Due.rule(x, "tell chairs * since - 0 % bell / 0 if not [known > 1 or there = 0];tell 1");
        } else {
            StringBuilder noise = new StringBuilder(kind < 9 ? "tell 1 if " : "house 9;");
            int length = random.nextInt(380);
            for (int i = 0; i < length; i++) {
                noise.append(kind % 2 == 0 ? '[' : (char) random.nextInt(256));
            }
            Due.tape(x, noise.toString());
            Due.is("a house of noise", x.house() <= 7, true);
            Due.is("a rule of noise", x.rule() <= 5, true);
        }
    }
}

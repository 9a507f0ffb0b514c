/** Promises 16 to 26 and 28: what is asked, by which nothing changes. */
public final class AskTest {
    /** At bell 2 person 0 comes to 1, at bell 6 to 2. */
    private static final String THREE = "house 4;person 0 1;person 1 1;person 3 1;errand 0 1 2;errand 0 3 5";
    private static final int[] ODD = {-2, 61, 101, 1000, Integer.MIN_VALUE, Integer.MAX_VALUE};

    public static void main(String[] args) {
        withoutHouse();
        aheadAndWhere();
        hears();
        whom();
        news();
        startsAndLook();
        startsAsTold();
        block();
        silence();
        meeting();
        cost();
        evenings();
        withoutPeople();
        oddNumbers();
        nothingChanges();
        Due.finish();
    }

    private static void withoutHouse() {
        StairNews x = new StairNews();
        Due.is("ahead", x.ahead(0), -1);
        Due.is("where", x.where(0, 0), -1);
        Due.is("hears", x.hears(0), -1);
        Due.is("whom", x.whom(0, 1, 1, 0), -1);
        Due.is("news", x.news(0, 0), -2);
        Due.is("no news", x.news(-1, 0), 0);
        Due.is("starts", x.starts(0), -1);
        Due.is("look", x.look(0), -1);
        Due.is("block", x.block(1, 0), -1);
        Due.is("silence", x.silence(0, 1, 0), -1);
        Due.is("meeting", x.meeting(0), -1);
        Due.is("cost", x.cost(0), -1000);
        Due.is("evenings", x.evenings(1, 1, 0), -1000000);
    }

    private static void aheadAndWhere() {
        StairNews x = Due.in(THREE);
        Due.is("nobody knows", x.ahead(100), 0);
        x.whisper(0, 0);
        int[] bells = {0, 2, 3, 6, 7, 100};
        int[] known = {1, 1, 3, 3, 7, 7};
        for (int i = 0; i < bells.length; i++) {
            Due.is("ahead(" + bells[i] + ")", x.ahead(bells[i]), known[i]);
        }
        Due.is("ahead(101)", x.ahead(101), -1);
        Due.is("ahead(-1)", x.ahead(-1), -1);
        int[] floors = {0, 0, 0, 1, 1, 1, 2, 3, 3};
        for (int n = 0; n < floors.length; n++) {
            Due.is("where(0, " + n + ")", x.where(0, n), floors[n]);
        }
        Due.is("where(0, 100)", x.where(0, 100), 3);
        Due.is("where(0, 101)", x.where(0, 101), -1);
        Due.is("where(0, -1)", x.where(0, -1), -1);
        Due.is("where(3, 0)", x.where(3, 0), -1);
        Due.is("where(-1, 0)", x.where(-1, 0), -1);
        Due.rule(x, "tell 1 if floor = 3");
        x.force(0);
        Due.is("by the rule in force", x.ahead(7), 5);
    }

    private static void hears() {
        StairNews x = Due.in(THREE);
        Due.is("nobody knows", x.hears(1), -2);
        Due.ring(x, 1);
        x.whisper(0, 0);
        Due.is("who knows it", x.hears(0), 1);
        Due.is("hears(1)", x.hears(1), 2);
        Due.is("hears(2)", x.hears(2), 6);
        Due.is("hears(3)", x.hears(3), -1);
        Due.is("hears(-1)", x.hears(-1), -1);
        StairNews y = Due.in("house 2;person 0 1;person 1 1;person 1 1;deaf 2;errand 0 1 99");
        y.whisper(0, 0);
        Due.is("at the last of 100 bells", y.hears(1), 99);
        Due.is("a deaf one", y.hears(2), -2);
        StairNews z = Due.in("house 2;person 0 2;person 1 1;errand 0 1 99");
        z.whisper(0, 0);
        Due.is("behind 100 bells", z.hears(1), -2);
        z.bell();
        Due.is("from now on", z.hears(1), 100);
    }

    private static void set(String call, int got0, int got1, int size, int set) {
        Due.is(call + ", how many", got0, size);
        Due.is(call + ", the set", got1, set);
    }

    private static void whom(StairNews x, int a, int n, int b, int size, int set) {
        set("whom(" + a + ", " + n + ", " + b + ")", x.whom(a, n, b, 0), x.whom(a, n, b, 1), size, set);
    }

    private static void whom() {
        StairNews x = Due.in(THREE);
        whom(x, 3, 7, 1, 1, 4);
        whom(x, 0, 7, 1, 1, 4);
        whom(x, 0, 2, 1, 1, 1);
        whom(x, 0, 3, 1, -2, -2);
        whom(x, 0, 6, 1, -2, -2);
        whom(x, 3, 7, 2, 1, 1);
        whom(x, 2, 7, 1, -2, -2);
        whom(x, 1, 0, 3, -1, -1);
        whom(x, 1, 61, 3, -1, -1);
        whom(x, 1, 5, 1, -1, -1);
        whom(x, 4, 5, 1, -1, -1);
        whom(x, 1, 5, 4, -1, -1);
        Due.is("what 2", x.whom(0, 2, 1, 2), -1);
        Due.is("what -1", x.whom(0, 2, 1, -1), -1);
        x.whisper(0, 0);
        whom(x, 0, 2, 1, 0, 0);
        whom(x, 3, 2, 1, 1, 4);
        whom(x, 3, 1, 0, -2, -2);
        StairNews y = Due.in("house 3;person 0 1;person 0 1;person 1 1;deaf 0;hates 1 0");
        whom(y, 0, 1, 1, 1, 2);
        StairNews z = Due.in("house 3;person 0 9;person 0 9;person 1 9;errand 2 0 0;errand 0 1 20;errand 1 2 15");
        Due.rule(z, "tell 1 if known > 1 and hearer = 2 and chairs = 0");
        z.force(0);
        whom(z, 1, 9, 2, 1, 4);
        StairNews u = Due.in("house 3;person 0 1;person 1 1;errand 0 1 3");
        Due.rule(u, "tell 1 if chairs = 0");
        u.force(0);
        whom(u, 1, 4, 2, 1, 1);
        StairNews w = Due.in("house 3;person 0 9;person 0 9;person 1 9;deaf 2;person 2 1;bucket 0 2");
        Due.is("a deaf one can't be told", w.whom(1, 9, 0, 0), -2);
        StairNews v = Due.in("house 3;person 0 1;person 1 1;person 1 1;person 2 1;deaf 3;errand 1 0 0");
        Due.rule(v, "tell known - 1");
        v.force(0);
        whom(v, 0, 3, 2, 1, 1);
    }

    private static void news() {
        StairNews x = Due.in(THREE);
        Due.is("nobody", x.news(3, 0), -2);
        Due.is("nobody", x.news(-2, 0), -2);
        Due.is("1000 chairs", x.news(0, 1000), -2);
        Due.is("-1001 chairs", x.news(0, -1001), -2);
        Due.is("none", x.count(8), 0);
        Due.is("999 chairs", x.news(0, 999), 1);
        Due.is("-999 chairs", x.news(1, -999), 2);
        Due.is("not known", x.news(2, -1000), 3);
        for (int i = 4; i <= 10; i++) {
            Due.is("news", x.news(0, 0), i);
        }
        Due.is("an 11th", x.news(0, 0), -2);
        Due.is("ten", x.count(8), 10);
        Due.is("no acts", x.count(9), 0);
        Due.is("none then", x.news(-1, 5000), 0);
        Due.is("none", x.count(8), 0);
    }

    private static void starts(StairNews x, int many, int person, int bell) {
        Due.is("starts(0)", x.starts(0), many);
        Due.is("starts(1)", x.starts(1), person);
        Due.is("starts(2)", x.starts(2), bell);
    }

    private static void startsAndLook() {
        StairNews x = Due.in(THREE + ";adds 0 2");
        starts(x, 3, 0, 0);
        Due.ring(x, 8);
        starts(x, 27, 0, 0);
        set("look", x.look(0), x.look(1), 1, 13);
        x.news(2, 2);
        starts(x, 13, 0, 0);
        set("look", x.look(0), x.look(1), 1, 5);
        x.news(1, -1000);
        starts(x, 3, 0, 5);
        set("look", x.look(0), x.look(1), 0, 3);
        x.news(0, 1);
        starts(x, 0, -2, -2);
        set("look", x.look(0), x.look(1), -2, -2);
        x.news(-1, 0);
        x.news(2, 0);
        x.news(0, -1000);
        starts(x, 1, 2, 8);
        set("look", x.look(0), x.look(1), 0, 1);
        Due.is("starts(3)", x.starts(3), -1);
        Due.is("starts(-1)", x.starts(-1), -1);
        Due.is("look(2)", x.look(2), -1);
        Due.is("look(-1)", x.look(-1), -1);
        x.news(-1, 0);
        Due.ring(x, 40);
        starts(x, 3 * 41, 0, 0);
        Due.rule(x, "tell 0");
        x.force(0);
        x.news(1, 0);
        starts(x, 41, 1, 0);
        x.news(-1, 0);
        x.news(0, 0);
        x.news(1, 0);
        starts(x, 0, -2, -2);
    }

    private static void startsAsTold() {
        StairNews x = Due.in("house 3;person 0 1;person 0 1;person 1 1;person 0 1;deaf 3;plant 0;errand 0 1 1");
        x.plant(0);
        x.heel(0);
        x.send(1, 2);
        x.whisper(2, 50);
        Due.ring(x, 2);
        starts(x, 9, 0, 0);
        x.news(1, -1000);
        x.news(2, 0);
        starts(x, 5, 0, 0);
        x.news(0, -1000);
        starts(x, 1, 2, 2);
        x.news(-1, 0);
        x.news(1, 0);
        x.news(0, -1000);
        starts(x, 3, 1, 0);
        x.news(-1, 0);
        x.news(3, 0);
        starts(x, 0, -2, -2);
    }

    private static void block() {
        StairNews x = Due.in(THREE);
        set("block(60)", x.block(60, 0), x.block(60, 1), 0, 0);
        x.whisper(0, 0);
        set("block(7)", x.block(7, 0), x.block(7, 1), 1, 2);
        set("block(3)", x.block(3, 0), x.block(3, 1), 1, 1);
        set("block(2)", x.block(2, 0), x.block(2, 1), 0, 1);
        set("block(0)", x.block(0, 0), x.block(0, 1), -1, -1);
        set("block(61)", x.block(61, 0), x.block(61, 1), -1, -1);
        Due.is("what 2", x.block(1, 2), -1);
        Due.is("what -1", x.block(1, -1), -1);
        x.plant(1);
        set("one more", x.block(7, 0), x.block(7, 1), 3, 1);
        x.plant(0);
        x.plant(3);
        set("the last one", x.block(7, 0), x.block(7, 1), 2, 1);
        x.plant(2);
        set("on all", x.block(7, 0), x.block(7, 1), -2, -2);
    }

    private static void silence(StairNews x, int person, int n, int size, int set) {
        set("silence(" + person + ", " + n + ")", x.silence(person, n, 0), x.silence(person, n, 1), size, set);
    }

    private static void silence() {
        StairNews x = Due.in(THREE);
        silence(x, 2, 60, 0, 0);
        x.whisper(0, 0);
        silence(x, 2, 7, -2, -2);
        silence(x, 2, 6, 0, 0);
        silence(x, 0, 1, -2, -2);
        silence(x, 2, 0, -1, -1);
        silence(x, 2, 61, -1, -1);
        silence(x, 3, 5, -1, -1);
        silence(x, -1, 5, -1, -1);
        Due.is("what 2", x.silence(0, 1, 2), -1);
        Due.is("what -1", x.silence(0, 1, -1), -1);
        StairNews y = Due.in("house 3;person 0 1;person 0 1;person 2 1;person 0 1;person 2 1;errand 1 2 1");
        y.whisper(0, 0);
        silence(y, 2, 3, 1, 2);
        silence(y, 2, 2, 0, 0);
        StairNews z = Due.in("house 3;person 0 1;person 0 1;person 2 1;person 0 1;deaf 3;errand 1 2 1;errand 3 2 1");
        z.whisper(0, 0);
        silence(z, 2, 9, 1, 2);
        silence(z, 3, 9, 0, 0);
        StairNews w = Due.in("house 3;person 0 1;person 0 1;person 2 1;person 0 1;errand 1 2 1;errand 3 2 2");
        w.whisper(0, 0);
        silence(w, 2, 9, 2, 10);
        silence(w, 2, 3, 1, 2);
        StairNews v = Due.in("house 3;person 0 1;person 0 1;person 2 1;person 1 1;person 1 1;errand 1 1 1;"
                + "errand 3 2 2;bucket 1 2");
        v.whisper(0, 0);
        silence(v, 2, 9, 1, 2);
    }

    private static void meeting() {
        StairNews x = Due.in(THREE);
        set("meeting", x.meeting(0), x.meeting(1), 1, 3);
        Due.is("meeting(2)", x.meeting(2), -1);
        Due.is("meeting(-1)", x.meeting(-1), -1);
        StairNews y = Due.in("house 9;person 2 1;person 7 5");
        set("of several the least", y.meeting(0), y.meeting(1), 2, 5);
        y.send(1, 0);
        y.bell();
        set("by the landings they were on last", y.meeting(0), y.meeting(1), 2, 5);
        Due.ring(y, 4);
        set("a landing on", y.meeting(0), y.meeting(1), 2, 4);
    }

    private static void cost() {
        StairNews x = Due.in(THREE);
        Due.is("nobody hears it", x.cost(0), -1000);
        x.whisper(0, 0);
        Due.is("cost(0)", x.cost(0), 2);
        Due.is("cost(1)", x.cost(1), 0);
        Due.is("cost(3)", x.cost(3), -1000);
        Due.is("cost(-1)", x.cost(-1), -1000);
        Due.ring(x, 7);
        Due.is("all have heard it", x.cost(0), -1000);
        StairNews y = Due.in("house 3;person 0 1;person 0 1;person 1 1;errand 0 1 2;errand 2 2 3");
        y.whisper(0, 0);
        Due.is("earlier", y.cost(0), -2);
        Due.is("later by none", y.cost(1), 0);
        StairNews z = Due.in("house 3;person 0 1;person 1 1;errand 0 1 2;errand 1 2 3");
        z.whisper(0, 0);
        Due.is("nobody hears it in one of both", z.cost(0), -1000);
        StairNews w = Due.in("house 3;person 0 9;person 0 8;person 0 1");
        w.whisper(2, 0);
        Due.is("at 9", w.cost(0), -1000);
        Due.is("at 8", w.cost(1), 0);
    }

    private static void evenings() {
        StairNews x = Due.in("house 4;person 0 1;person 3 1;adds 0 5");
        set("nobody knows", x.evenings(1, 1, 0), x.evenings(1, 1, 1), 0, 0);
        x.whisper(0, 2);
        set("evenings(3, 1)", x.evenings(3, 1, 0), x.evenings(3, 1, 1), 1, 2);
        set("evenings(4, 1)", x.evenings(4, 1, 0), x.evenings(4, 1, 1), 1, 2);
        set("evenings(3, 2)", x.evenings(3, 2, 0), x.evenings(3, 2, 1), 3, 9);
        set("evenings(2, 60)", x.evenings(2, 60, 0), x.evenings(2, 60, 1), 1, 2);
        Due.is("x as it was", x.count(10), 0);
        x.seed(654583775);
        Due.is("another x: 1 goes to 1, 0 to 3", x.evenings(2, 60, 0), 1);
        x.seed(1406932606);
        Due.is("another x: 0 to 1, 0 to 3", x.evenings(2, 2, 0), 3);
        int[][] wrong = {{0, 1, 0}, {11, 1, 0}, {1, 0, 0}, {1, 61, 0}, {1, 1, 2}, {1, 1, -1}};
        for (int[] w : wrong) {
            Due.is("evenings(" + w[0] + ", " + w[1] + ", " + w[2] + ")", x.evenings(w[0], w[1], w[2]), -1000000);
        }
        StairNews y = Due.in("house 2;person 0 1;person 0 1;takes 0 9;night 0");
        y.whisper(0, 3);
        y.whisper(1, 1);
        Due.is("chairs", y.evenings(10, 60, 1), 4);
        StairNews z = Due.in("house 2;person 0 1;person 0 1;takes 0 9");
        z.whisper(0, 3);
        Due.is("below 0", z.evenings(1, 1, 1), -3);
    }

    private static void withoutPeople() {
        StairNews x = Due.in("house 3;plant 0");
        Due.is("bell", x.bell(), 0);
        Due.is("ahead", x.ahead(5), 0);
        Due.is("whom", x.whom(0, 1, 1, 0), -2);
        Due.is("starts", x.starts(0), 0);
        Due.is("starts", x.starts(1), -2);
        Due.is("look", x.look(0), -2);
        Due.is("block", x.block(1, 0), 1);
        Due.is("block", x.block(1, 1), 0);
        Due.is("meeting", x.meeting(0), 0);
        Due.is("meeting", x.meeting(1), 0);
        Due.is("evenings", x.evenings(1, 1, 0), 0);
        Due.is("evenings", x.evenings(1, 1, 1), 0);
    }

    private static void oddNumbers() {
        StairNews x = Due.in(THREE);
        x.whisper(0, 0);
        for (int odd : ODD) {
            Due.is("ahead(" + odd + ")", x.ahead(odd), odd == 61 ? 7 : -1);
            Due.is("hears(" + odd + ")", x.hears(odd), -1);
            Due.is("where(" + odd + ", 0)", x.where(odd, 0), -1);
            Due.is("whom(" + odd + ", 1, 1, 0)", x.whom(odd, 1, 1, 0), -1);
            Due.is("whom(1, 1, " + odd + ", 0)", x.whom(1, 1, odd, 0), -1);
            Due.is("whom(1, " + odd + ", 0, 0)", x.whom(1, odd, 0, 0), -1);
            Due.is("news(" + odd + ", 0)", x.news(odd, 0), -2);
            Due.is("starts(" + odd + ")", x.starts(odd), -1);
            Due.is("look(" + odd + ")", x.look(odd), -1);
            Due.is("block(" + odd + ", 0)", x.block(odd, 0), -1);
            Due.is("silence(" + odd + ", 1, 0)", x.silence(odd, 1, 0), -1);
            Due.is("silence(1, " + odd + ", 0)", x.silence(1, odd, 0), -1);
            Due.is("meeting(" + odd + ")", x.meeting(odd), -1);
            Due.is("cost(" + odd + ")", x.cost(odd), -1000);
            Due.is("evenings(" + odd + ", 1, 0)", x.evenings(odd, 1, 0), -1000000);
            Due.is("evenings(1, " + odd + ", 0)", x.evenings(1, odd, 0), -1000000);
        }
    }

    private static void nothingChanges() {
        StairNews x = Due.in(THREE + ";adds 0 2;night 70;lit 1");
        x.whisper(0, 3);
        x.send(2, 0);
        x.seed(4);
        x.bell();
        x.news(0, 3);
        long before = shown(x);
        x.ahead(100);
        x.where(0, 100);
        x.hears(2);
        x.whom(1, 60, 2, 0);
        x.starts(0);
        x.look(0);
        x.block(60, 0);
        x.silence(1, 60, 0);
        x.meeting(0);
        x.cost(0);
        x.evenings(10, 60, 0);
        Due.is("by what is asked nothing changes", shown(x), before);
    }

    private static long shown(StairNews x) {
        long all = 0;
        for (int what = 0; what <= 12; what++) {
            all = all * 31 + x.count(what);
        }
        for (int p = 0; p < 3; p++) {
            for (int what = 0; what <= 7; what++) {
                all = all * 31 + x.person(p, what);
                all = all * 31 + x.knows(p, what);
            }
        }
        for (int f = 0; f < 4; f++) {
            all = all * 31 + x.floor(f, 1);
        }
        return all;
    }
}

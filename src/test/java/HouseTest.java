/** Promises 1, 7 to 15, 27 and 29 to 31: what is, what happens, what is undone, what images keep. */
public final class HouseTest {
    private static final int[] ODD = {-1, -2, 7, 8, 9, 100, 1000, Integer.MIN_VALUE, Integer.MAX_VALUE};

    public static void main(String[] args) {
        newObject();
        walking();
        errands();
        telling();
        hatred();
        plantsAndNight();
        bucket();
        ruleWords();
        ruleClauses();
        whisper();
        send();
        plantAndHeel();
        undo();
        images();
        seed();
        wrongPeopleAndFloors();
        Due.finish();
    }

    private static void newObject() {
        StairNews x = new StairNews();
        Due.is("NONE", StairNews.NONE, -1);
        int[] due = {0, 0, 0, 0, -1, 0, 0, 0, 0, 0, 0, 0, -1};
        for (int what = 0; what < due.length; what++) {
            Due.is("count(" + what + ")", x.count(what), due[what]);
        }
        Due.is("count(13)", x.count(13), -1);
        Due.is("count(-1)", x.count(-1), -1);
        Due.is("person", x.person(0, 0), -1000);
        Due.is("knows", x.knows(0, 0), -1000);
        Due.is("floor", x.floor(0, 0), -1);
        Due.is("bell", x.bell(), -1);
        Due.is("whisper", x.whisper(0, 0), false);
        Due.is("send", x.send(0, 0), -1);
        Due.is("plant", x.plant(0), -1);
        Due.is("heel", x.heel(0), -1);
        Due.is("undo", x.undo(), -1);
        Due.is("back", x.back(0), -1);
    }

    private static void at(String when, StairNews x, int person, int floor, int goal, int left) {
        Due.is(when + ": floor", x.person(person, 0), floor);
        Due.is(when + ": goal", x.person(person, 1), goal);
        Due.is(when + ": left", x.person(person, 2), left);
    }

    private static void walking() {
        StairNews x = Due.in("house 5;person 0 2;person 4 1;errand 0 2 1");
        at("first", x, 0, 0, 0, 0);
        Due.is("bell", x.bell(), 0);
        at("bell 1", x, 0, 0, 0, 0);
        x.bell();
        at("bell 2", x, 0, 0, 2, 1);
        Due.is("walks", x.count(7), 1);
        Due.is("left it last", x.floor(0, 0), 1);
        x.bell();
        at("bell 3", x, 0, 1, 2, 2);
        Due.is("on the landing", x.floor(1, 0), 1);
        x.bell();
        at("bell 4", x, 0, 1, 2, 1);
        x.bell();
        at("bell 5", x, 0, 2, 2, 0);
        Due.is("stands", x.count(7), 0);
        Due.is("BELL", x.count(5), 5);
        x.send(1, 1);
        at("sent down", x, 1, 4, 1, 1);
        x.bell();
        at("a flight a bell", x, 1, 3, 1, 1);
        Due.ring(x, 2);
        at("down", x, 1, 1, 1, 0);
    }

    private static void errands() {
        StairNews x = Due.in("house 5;person 2 1;person 2 1;person 2 3;errand 0 0 0;errand 0 4 0;"
                + "errand 1 0 0;errand 1 2 0;errand 2 0 0;errand 2 4 1;errand 2 4 7");
        x.bell();
        at("the last told", x, 0, 3, 4, 1);
        at("the last told is where they are", x, 1, 2, 2, 0);
        at("the slow one", x, 2, 2, 0, 2);
        x.bell();
        at("who walks does not set out", x, 2, 2, 0, 1);
        Due.ring(x, 4);
        at("there", x, 2, 0, 0, 0);
        Due.ring(x, 2);
        at("again", x, 2, 0, 4, 2);
    }

    private static void heard(String when, StairNews x, int person, int bell, int chairs, int of) {
        Due.is(when + ": heard", x.knows(person, 0), bell);
        Due.is(when + ": chairs", x.knows(person, 1), chairs);
        Due.is(when + ": of", x.knows(person, 2), of);
    }

    private static void telling() {
        StairNews x = Due.in("house 3;person 0 1;person 0 1;person 0 1;person 0 2;person 1 1;"
                + "adds 0 9;takes 1 9;deaf 2;errand 3 1 0");
        heard("nobody knows", x, 0, -1, 0, -1);
        x.bell();
        x.whisper(1, 4);
        heard("whispered", x, 1, 1, 4, -1);
        Due.is("one hears, one is deaf, one on the stairs came", x.bell(), 1);
        heard("taken from", x, 0, 1, -5, 1);
        heard("deaf", x, 2, -1, 0, -1);
        heard("up by now", x, 3, -1, 0, -1);
        Due.is("who knows", x.count(6), 3);
        x.send(0, 1);
        Due.is("two hear", x.bell(), 2);
        heard("added to", x, 3, 2, 4, 0);
        heard("added to", x, 4, 2, 4, 0);
        StairNews y = Due.in("house 2;person 0 1;person 0 1;person 0 1;adds 0 1;adds 1 2;errand 2 1 0");
        y.whisper(0, 10);
        y.whisper(1, 20);
        y.bell();
        Due.is("gone at once", y.knows(2, 0), -1);
        y.send(2, 0);
        Due.is("hears", y.bell(), 1);
        heard("of the least", y, 2, 1, 11, 0);
        StairNews z = Due.in("house 3;person 0 1;person 0 2;person 2 1");
        z.whisper(0, 0);
        z.send(1, 1);
        Due.is("not on the stairs", z.bell(), 0);
        z.send(0, 1);
        Due.is("both come", z.bell(), 1);
        StairNews w = Due.in("house 4;person 0 1;person 1 9;person 3 9");
        w.whisper(0, 7);
        w.send(0, 3);
        Due.is("in passing", w.bell(), 1);
        Due.is("an empty landing", w.bell(), 0);
        Due.is("there", w.bell(), 1);
        StairNews v = Due.in("house 3;person 0 1;person 1 1;person 2 1;errand 0 1 0;errand 1 2 0");
        v.whisper(0, 0);
        Due.is("all at once", v.bell(), 0);
        StairNews u = Due.in("house 2;person 0 1;person 0 1;person 0 1;hates 0 2");
        u.whisper(0, 0);
        u.bell();
        heard("not of who hears it at this bell", u, 2, 0, 0, 0);
    }

    private static void hatred() {
        StairNews x = Due.in("house 3;person 0 1;person 0 1;person 1 1;deaf 2;hates 1 0;hates 0 1");
        Due.is("whom 0 hates", x.person(0, 5), 2);
        Due.is("who hates 1", x.person(1, 5), 1);
        Due.is("nobody", x.person(2, 5), 0);
        x.whisper(0, 0);
        Due.is("alone they keep silent", x.bell(), 0);
        x.send(2, 0);
        Due.is("with a third they do not", x.bell(), 1);
        StairNews y = Due.in("house 3;person 0 1;person 0 1;person 0 1;person 0 2;hates 0 1;hates 0 2");
        y.whisper(0, 0);
        y.send(2, 1);
        y.send(3, 1);
        Due.is("a third on the stairs is none", y.bell(), 0);
        StairNews z = Due.in("house 2;person 0 1;person 0 1;person 0 1;hates 0 2;hates 0 1;hates 2 1;hates 0 2");
        Due.is("told twice", z.person(0, 5), 6);
        z.whisper(0, 0);
        Due.is("each is the other's third", z.bell(), 2);
    }

    private static void plantsAndNight() {
        StairNews x = Due.in("house 3;person 0 1;person 0 1;plant 0");
        x.whisper(0, 0);
        Due.is("a plant", x.bell(), 0);
        x.plant(0);
        Due.is("none", x.bell(), 1);
        StairNews y = Due.in("house 2;person 0 1;person 0 1;person 1 1;person 1 1;night 1;lit 1");
        Due.is("lit", y.floor(1, 2), 1);
        Due.is("not lit", y.floor(0, 2), 0);
        y.whisper(0, 0);
        Due.is("not night yet", y.bell(), 1);
        y.whisper(2, 0);
        Due.is("night, but lit", y.bell(), 1);
        StairNews z = Due.in("house 2;person 0 1;person 0 1;night 1;lit 1");
        z.bell();
        z.whisper(0, 0);
        Due.is("night", z.bell(), 0);
        Due.is("still night", z.bell(), 0);
        StairNews w = Due.in("house 2;person 0 1;person 0 1;night 0");
        w.whisper(0, 0);
        Due.is("night from the first bell on", w.bell(), 0);
        Due.is("night", w.count(12), 0);
    }

    private static void bucket() {
        StairNews x = Due.in("house 3;person 0 1;person 2 1;person 2 1;person 2 9;plant 0;plant 2;night 0;"
                + "bucket 0 2;deaf 2;takes 0 2;hates 0 1;hates 0 3");
        Due.rule(x, "tell 0");
        x.force(0);
        x.whisper(0, 1);
        x.send(3, 1);
        Due.is("by the bucket", x.bell(), 1);
        heard("chairs of the caller", x, 1, 0, -1, 0);
        StairNews y = Due.in("house 2;person 1 1;person 0 1;person 1 1;person 1 1;bucket 0 1;adds 1 4;adds 2 1");
        y.whisper(1, 0);
        y.whisper(2, 0);
        Due.is("who is on the landing tells first", y.bell(), 2);
        heard("of 2, not of 1", y, 0, 0, 1, 2);
        StairNews z = Due.in("house 2;person 0 1;person 1 1;bucket 1 0");
        z.whisper(0, 0);
        Due.is("it goes one way", z.bell(), 0);
        StairNews w = Due.in("house 3;person 0 2;person 1 1;bucket 0 1");
        w.whisper(0, 0);
        w.send(0, 2);
        Due.is("not from the stairs", w.bell(), 0);
    }

    /** Whether one tells the other by a rule: teller 1 (adds 3), hearer 2, floor 2, at bell 5, heard at bell 3. */
    private static int told(String text) {
        StairNews x = Due.in("house 4;person 0 1;person 1 1;person 2 1;person 2 9;person 2 9;adds 1 3;night 4;"
                + "lit 2;deaf 3;deaf 4;errand 1 2 5");
        Due.is("the rule " + text, Due.rule(x, text), 0);
        x.force(0);
        Due.ring(x, 3);
        x.whisper(1, 40);
        x.whisper(0, 40);
        Due.ring(x, 2);
        return x.bell();
    }

    private static void holds(String test) {
        Due.is(test, told("tell 1 if " + test), 1);
        Due.is("not " + test, told("tell 1 if not [" + test + "]"), 0);
    }

    private static void ruleWords() {
        holds("teller = 1");
        holds("hearer = 2");
        holds("floor = 2");
        holds("bell = 5");
        holds("chairs = 40");
        holds("since = 2");
        holds("home = 1");
        holds("there = 2");
        holds("known = 2");
        holds("night = 1");
        holds("twist = 3");
        StairNews x = Due.in("house 2;person 0 1;person 1 1;takes 0 2;errand 0 1 0");
        Due.rule(x, "tell 1 if twist + 2 = 0 and night = 0 and there = 0 and known = 1 and since = 0");
        x.force(0);
        x.whisper(0, 9);
        Due.is("takes", x.bell(), 1);
        StairNews z = Due.in("house 2;person 0 1;person 0 1;takes 0 7");
        Due.rule(z, "tell 1 if twist / 2 + 3 = 0 and twist % 4 + 3 = 0 and 8 / twist + 1 = 0 and 8 % twist = 1");
        z.force(0);
        z.whisper(0, 9);
        Due.is("towards 0, and its rest", z.bell(), 1);
        StairNews y = Due.in("house 2;person 0 1;person 1 1;errand 0 1 0;errand 1 0 0");
        Due.rule(y, "tell home");
        y.force(0);
        y.whisper(0, 0);
        Due.is("they pass", y.bell(), 0);
        y.send(0, 0);
        Due.is("not home", y.bell(), 0);
        y.send(0, 1);
        y.bell();
        y.send(1, 1);
        Due.is("home", y.bell(), 1);
    }

    private static void ruleClauses() {
        holds("1 + 2 * 3 = 7");
        holds("10 - 4 - 3 = 3");
        holds("100 / 7 / 2 = 7");
        holds("17 % 5 * 2 = 4");
        holds("[1 = 1]");
        holds("5 / 0 = 0 and 5 % 0 = 0");
        holds("1 < 2 and not 2 < 2 and 2 <= 2 and not 3 <= 2 and 2 > 1 and not 2 > 2 and 2 >= 2 and not 1 >= 2");
        holds("1 = 1 or 1 = 1 and 1 = 2");
        holds("not [[1 = 1 or 1 = 1] and 1 = 2]");
        holds("not 1 = 2 and 1 = 1");
        holds("not not 1 = 1");
        String deep = Due.times("1=2 or 1=1 and [", 9) + "6=2+2*2" + Due.times("]", 9);
        Due.is("much that waits", told("tell 1 if " + deep), 1);
        Due.is("much that waits", told("tell 1 if " + deep.replace('6', '5')), 0);
        String longTest = Due.times("not not 1=1 and ", 17) + "1=1";
        Due.is("a long test", told("tell 1 if " + longTest), 1);
        Due.is("a long test", told("tell 1 if " + longTest + " and 1=2"), 0);
        Due.is("goes round", told("tell 65536*65536*32768*65536"), 0);
        Due.is("goes round", told("tell 65536*65536*32768*65536-1"), 1);
        Due.is("above 0", told("tell 1"), 1);
        Due.is("not above 0", told("tell 0"), 0);
        Due.is("below 0", told("tell 0 - 1"), 0);
        Due.is("first that holds", told("tell 0 if bell=4;tell 1 if bell=5;tell 0"), 1);
        Due.is("first that holds", told("tell 1 if bell=4;tell 0 if bell=5;tell 1"), 0);
        Due.is("first without a test", told("tell 0;tell 1"), 0);
        Due.is("none holds", told("tell 1 if bell=4;tell 1 if bell = 6"), 0);
    }

    private static void whisper() {
        StairNews x = Due.in("house 2;person 0 1;person 1 1;person 0 1;deaf 2");
        Due.is("-1 chairs", x.whisper(0, -1), false);
        Due.is("100 chairs", x.whisper(0, 100), false);
        Due.is("a deaf one", x.whisper(2, 0), false);
        Due.is("nobody", x.whisper(3, 0), false);
        Due.is("nothing happened", x.count(9), 0);
        Due.is("99 chairs", x.whisper(0, 99), true);
        Due.is("known", x.whisper(0, 1), false);
        heard("whispered", x, 0, 0, 99, -1);
        Due.is("0 chairs", x.whisper(1, 0), true);
        Due.is("acts", x.count(9), 2);
        Due.is("known", x.count(6), 3);
    }

    private static void send() {
        StairNews x = Due.in("house 9;person 3 2;person 8 1");
        Due.is("where they are", x.send(0, 3), -1);
        Due.is("no floor", x.send(0, 9), -1);
        Due.is("no floor", x.send(0, -1), -1);
        Due.is("nobody", x.send(2, 0), -1);
        Due.is("acts", x.count(9), 0);
        Due.is("up", x.send(0, 8), 5);
        Due.is("who walks", x.send(0, 1), -1);
        at("sent", x, 0, 3, 8, 2);
        Due.is("down", x.send(1, 0), 8);
        Due.is("acts", x.count(9), 2);
        Due.is("walk", x.count(7), 3);
    }

    private static void plantAndHeel() {
        StairNews x = Due.in("house 2;person 0 2;person 0 9;plant 1");
        Due.is("put", x.plant(0), 1);
        Due.is("taken", x.plant(0), 0);
        Due.is("taken", x.plant(1), 0);
        Due.is("no floor", x.plant(2), -1);
        Due.is("acts", x.count(9), 3);
        x.send(0, 1);
        Due.is("heel", x.heel(0), 3);
        Due.is("pace", x.person(0, 3), 3);
        Due.is("this flight stays", x.person(0, 2), 2);
        Due.ring(x, 2);
        at("up", x, 0, 1, 1, 0);
        x.send(0, 0);
        Due.is("the next one", x.person(0, 2), 3);
        Due.is("at 9", x.heel(1), -1);
        Due.is("nobody", x.heel(2), -1);
        StairNews y = Due.in("house 3;person 0 1;errand 0 2 0");
        y.bell();
        y.heel(0);
        Due.is("began ahead of it", y.person(0, 2), 1);
        StairNews z = Due.in("house 3;person 0 2;errand 0 2 0");
        z.bell();
        z.heel(0);
        z.bell();
        at("begins behind it", z, 0, 1, 2, 3);
    }

    private static void undo() {
        StairNews x = Due.in("house 4;person 0 2;person 0 1;errand 1 3 0;plant 2");
        x.whisper(0, 5);
        x.send(0, 3);
        x.bell();
        x.heel(0);
        x.plant(2);
        Rules.force(x);
        x.seed(9);
        x.news(0, 4);
        Due.is("acts", x.count(9), 5);
        Due.is("undo plant", x.undo(), 4);
        Due.is("plant", x.floor(2, 1), 1);
        Due.is("undo heel", x.undo(), 3);
        Due.is("pace", x.person(0, 3), 2);
        Due.is("undo bell", x.undo(), 2);
        Due.is("BELL", x.count(5), 0);
        at("before the bell", x, 0, 0, 3, 2);
        at("before the bell", x, 1, 0, 0, 0);
        Due.is("undo send", x.undo(), 1);
        at("before it was sent", x, 0, 0, 0, 0);
        Due.is("undo whisper", x.undo(), 0);
        heard("before it was whispered", x, 0, -1, 0, -1);
        Due.is("no more", x.undo(), -1);
        Due.is("the rule stays", x.count(4), 0);
        Due.is("x stays", x.count(10), 9);
        Due.is("news stay", x.count(8), 1);
        for (int i = 0; i < 25; i++) {
            x.bell();
        }
        Due.is("20 at most", x.count(9), 20);
        for (int i = 19; i >= 0; i--) {
            Due.is("undo", x.undo(), i);
        }
        Due.is("no more", x.undo(), -1);
        Due.is("BELL", x.count(5), 5);
        x.bell();
        Due.is("undo again", x.undo(), 0);
        Due.is("BELL", x.count(5), 5);
    }

    private static final class Rules {
        static void force(StairNews x) {
            Due.rule(x, "tell 1");
            x.force(0);
        }
    }

    private static void images() {
        StairNews x = new StairNews();
        Due.is("without a house", x.image(3), 0);
        Due.is("image(4)", x.image(4), -1);
        Due.is("image(-1)", x.image(-1), -1);
        Due.house(x, "house 4;person 0 2;person 3 1;adds 0 2;hates 0 1;deaf 1;errand 0 3 1;plant 1;night 9;lit 2");
        x.whisper(0, 8);
        x.news(0, 8);
        x.seed(5);
        Due.ring(x, 3);
        Rules.force(x);
        Due.is("image(0)", x.image(0), 3);
        Due.is("acts stay", x.count(9), 4);
        Due.is("back(1)", x.back(1), -1);
        Due.is("back(4)", x.back(4), -1);
        Due.is("back(-1)", x.back(-1), -1);
        Due.is("nothing happened", x.count(9), 4);
        Due.rule(x, "tell 0");
        x.force(1);
        x.seed(6);
        Due.house(x, "house 2;person 1 1");
        x.bell();
        Due.tape(x, "house");
        Due.is("back(0)", x.back(0), 3);
        int[] due = {4, 2, 1, 2, 0, 3, 1, 1, 1, 0, 5, 5, 9};
        for (int what = 0; what < due.length; what++) {
            Due.is("count(" + what + ") as in the image", x.count(what), due[what]);
        }
        Due.is("undo", x.undo(), -1);
        at("as in the image", x, 0, 1, 3, 2);
        heard("as in the image", x, 0, 0, 8, -1);
        Due.is("twist", x.person(0, 7), 2);
        Due.is("home", x.person(1, 4), 3);
        Due.is("hated", x.person(1, 5), 1);
        Due.is("deaf", x.person(1, 6), 1);
        Due.is("plant", x.floor(1, 1), 1);
        Due.is("lit", x.floor(2, 2), 1);
        x.bell();
        Due.is("an image stays as it was", x.back(0), 3);
        x.bell();
        Due.is("made anew", x.image(0), 4);
        x.bell();
        Due.is("made anew", x.back(0), 4);
        Due.is("without a house again", x.back(3), 0);
        Due.is("no house", x.bell(), -1);
        Due.is("no floors", x.count(0), 0);
        Due.is("no rule in force", x.count(4), -1);
        Due.is("rules stay", x.count(3), 2);
        Due.is("x", x.count(10), 0);
    }

    private static void seed() {
        StairNews x = new StairNews();
        Due.is("seed(5)", x.seed(5), 0);
        Due.is("seed(MAX)", x.seed(Integer.MAX_VALUE), 5);
        Due.is("seed(-1)", x.seed(-1), -1);
        Due.is("seed(MIN)", x.seed(Integer.MIN_VALUE), -1);
        Due.is("nothing happened", x.count(10), Integer.MAX_VALUE);
        Due.is("seed(0)", x.seed(0), Integer.MAX_VALUE);
    }

    private static void wrongPeopleAndFloors() {
        StairNews x = Due.in("house 9" + Due.times(";person 0 1", 7));
        for (int odd : ODD) {
            Due.is("person(" + odd + ", 0)", x.person(odd, 0), odd < 0 || odd > 6 ? -1000 : 0);
            Due.is("knows(" + odd + ", 0)", x.knows(odd, 0), -1000);
            Due.is("whisper(" + odd + ", 0)", x.whisper(odd, 0), false);
            Due.is("heel(" + odd + ")", x.heel(odd), -1);
            Due.is("send(" + odd + ", 1)", x.send(odd, 1), -1);
            Due.is("person(0, " + odd + ")", x.person(0, odd), odd == 7 ? 0 : -1000);
            Due.is("knows(0, " + odd + ")", x.knows(0, odd), -1000);
            Due.is("floor(0, " + odd + ")", x.floor(0, odd), -1);
            boolean isFloor = odd == 7 || odd == 8;
            Due.is("floor(" + odd + ", 0)", x.floor(odd, 0), isFloor ? 0 : -1);
            if (!isFloor) {
                Due.is("plant(" + odd + ")", x.plant(odd), -1);
                Due.is("send(0, " + odd + ")", x.send(0, odd), -1);
            }
        }
        Due.is("all on floor 0", x.floor(0, 0), 127);
        Due.is("acts", x.count(9), 0);
    }
}

/** Promises 2 to 6: the tape, the two languages with all their faults, the rule in force. */
public final class TextTest {
    public static void main(String[] args) {
        tape();
        houses();
        houseFaults();
        houseLimits();
        houseInPlace();
        rules();
        ruleFaults();
        ruleLimits();
        force();
        Due.finish();
    }

    private static void tape() {
        StairNews x = new StairNews();
        Due.is("end(0)", x.end(0), 0);
        Due.is("end(1)", x.end(1), -1);
        Due.is("end(-1)", x.end(-1), -1);
        for (int i = 1; i <= 20; i++) {
            Due.is("feed", x.feed(1, 2, 3, 4, 5), 20 * i);
        }
        Due.is("feed over", x.feed(0, 0, 0, 0, 0), -1);
        Due.is("count(11)", x.count(11), 400);
        Due.is("end(381)", x.end(381), 381);
        Due.is("feed over by one", x.feed(0, 0, 0, 0, 0), -1);
        Due.is("end(401)", x.end(401), -1);
        Due.is("end(380)", x.end(380), 380);
        Due.is("feed to the brim", x.feed(-1, -1, -1, -1, -1), 400);
        Due.is("end(MIN)", x.end(Integer.MIN_VALUE), -1);
        Due.is("end(MAX)", x.end(Integer.MAX_VALUE), -1);
        Due.is("end(400)", x.end(400), 400);
        Due.is("end(5)", x.end(5), 5);
        Due.is("end(6)", x.end(6), -1);
        x.end(0);
        x.feed(0x686F7573, 0x65203200, 0, 0, 0);
        x.end(7);
        Due.is("the highest byte comes first", x.house(), 0);
    }

    private static void houses() {
        StairNews x = new StairNews();
        Due.is("house 2", Due.house(x, "house 2"), 0);
        Due.is("the tape is empty", x.count(11), 0);
        Due.is("no blanks", Due.house(x, "house9;person8 9;plant0"), 1);
        Due.is("many blanks", Due.house(x, "  house   9  ; person 8   1  "), 1);
        Due.is("leading zeros", Due.house(x, "house 00002;person 00001 00009"), 1);
        Due.is("all clauses", Due.house(x, "house 5;person 0 1;person 2 2;person 4 3;person 0 1;errand 0 2 1;"
                + "errand 1 4 3;hates 0 3;adds 0 2;takes 1 1;plant 1;deaf 2;night 6;lit 4;bucket 4 0"), 4);
        Due.is("floors", x.count(0), 5);
        Due.is("people", x.count(1), 4);
        Due.is("errands", x.count(2), 2);
        Due.is("night", x.count(12), 6);
        Due.is("adds", x.person(0, 7), 2);
        Due.is("takes", x.person(1, 7), -1);
        Due.is("neither", x.person(2, 7), 0);
        Due.is("deaf", x.person(2, 6), 1);
        Due.is("plant", x.floor(1, 1), 1);
        Due.is("lit", x.floor(4, 2), 1);
        Due.is("the last of adds and takes", Due.house(x, "house 2;person 0 1;adds 0 9;takes 0 3;adds 0 4"), 1);
        Due.is("adds at last", x.person(0, 7), 4);
        Due.is("takes at last", Due.house(x, "house 2;person 0 1;adds 0 9;takes 0 3"), 1);
        Due.is("takes at last", x.person(0, 7), -3);
    }

    private static void fault(String text, int place, int kind) {
        StairNews x = new StairNews();
        Due.is("house '" + text + "'", Due.house(x, text), Due.fault(place, kind));
        Due.is("the tape is empty then", x.count(11), 0);
        Due.is("no house then", x.count(0), 0);
    }

    private static void houseFaults() {
        fault("", 0, 0);
        fault("   ", 3, 0);
        fault("house", 5, 0);
        fault("house ", 6, 0);
        fault("house\0", 5, 0);
        fault("house x", 6, 0);
        fault("house 1", 6, 1);
        fault("house 10", 6, 1);
        fault("house 000002", 6, 1);
        fault("house 2\t", 7, 0);
        fault("House 2", 0, 0);
        fault("houses 2", 0, 0);
        fault("hous 2", 0, 0);
        fault("2", 0, 0);
        fault(";house 2", 0, 0);
        fault("house 2 2", 8, 0);
        fault("house 2 123456", 8, 0);
        fault("house 2 house 2", 8, 0);
        fault("house 2;", 8, 0);
        fault("house 2; ", 9, 0);
        fault("house 2;;", 8, 0);
        fault("house 2;tell 1", 8, 0);
        fault("house 2;house 2", 8, 4);
        fault("person 0 1", 0, 4);
        fault(" lit 7 7 7", 1, 4);
        fault("house 2;person 2 1", 15, 1);
        fault("house 2;person 0 0", 17, 1);
        fault("house 2;person 0 10", 17, 1);
        fault("house 2;person 0", 16, 0);
        fault("house 2;person 01", 17, 0);
        fault("house 2;person 0;", 16, 0);
        fault("house 2;errand 0 0 0", 15, 1);
        fault("house 2;person 0 1;errand 0 2 0", 28, 1);
        fault("house 2;person 0 1;errand 0 0 100", 30, 1);
        fault("house 2;person 0 1;errand 1 0 0", 26, 1);
        fault("house 2;person 0 1;hates 0 0", 27, 1);
        fault("house 2;person 0 1;hates 1 1", 25, 1);
        fault("house 2;person 0 1;hates 0 1;person 0 1", 27, 1);
        fault("house 2;deaf 0", 13, 1);
        fault("house 2;person 0 1;adds 0 0", 26, 1);
        fault("house 2;person 0 1;adds 0 10", 26, 1);
        fault("house 2;person 0 1;takes 0 0", 27, 1);
        fault("house 2;person 0 1;takes 1 1", 25, 1);
        fault("house 2;plant 2", 14, 1);
        fault("house 2;night 100", 14, 1);
        fault("house 2;night 1;night 1", 16, 4);
        fault("house 2;night 1;night x", 16, 4);
        fault("house 2;lit 2", 12, 1);
        fault("house 2;bucket 0 0", 17, 1);
        fault("house 2;bucket 2 2", 15, 1);
        fault("house 2;bucket 0 2", 17, 1);
        fault("house 2;bucket 0 1;bucket 0 1", 19, 4);
        fault("house 2;plant 0-", 15, 0);
        fault("house 2;plant \u00e9", 14, 0);
    }

    private static void houseLimits() {
        String people = "house 3" + Due.times(";person 1 2", 7);
        Due.is("seven people", Due.house(new StairNews(), people), 7);
        fault(people + ";person 9 9", people.length() + 1, 4);
        fault(people + "; persons", people.length() + 2, 0);
        String errands = "house 3;person 1 1" + Due.times(";errand 0 2 99", 10);
        Due.is("ten errands", Due.house(new StairNews(), errands), 1);
        fault(errands + ";errand 0 1 1", errands.length() + 1, 4);
        String hates = "house 3;person 1 1;person 1 1" + Due.times(";hates 0 1", 6);
        Due.is("six hates", Due.house(new StairNews(), hates), 2);
        fault(hates + ";hates 0 1", hates.length() + 1, 4);
        String clauses = "house 3" + Due.times(";plant 1", 39);
        Due.is("40 clauses", Due.house(new StairNews(), clauses), 0);
        fault(clauses + ";plant 1", clauses.length() + 1, 4);
        fault(clauses + ";plant", clauses.length() + 1, 4);
        fault(clauses + ";plan 1", clauses.length() + 1, 0);
        fault(clauses + ";", clauses.length() + 1, 0);
    }

    private static void houseInPlace() {
        StairNews x = Due.in("house 4;person 0 1;person 0 1;deaf 1;adds 0 3;night 3;bucket 0 1;lit 2;hates 0 1");
        Due.rule(x, "tell 1");
        x.force(0);
        x.seed(77);
        x.whisper(0, 3);
        x.news(0, 3);
        Due.ring(x, 3);
        Due.is("a fault", Due.house(x, "house 3;person 0 1;person"), Due.fault(25, 0));
        Due.is("all stays: floors", x.count(0), 4);
        Due.is("all stays: people", x.count(1), 2);
        Due.is("all stays: bell", x.count(5), 3);
        Due.is("all stays: acts", x.count(9), 4);
        Due.is("all stays: news", x.count(8), 1);
        Due.is("all stays: who knows", x.count(6), 1);
        Due.is("all stays: the rule in force", x.count(4), 0);
        Due.is("all stays: x", x.count(10), 77);
        Due.is("the tape does not stay", x.count(11), 0);
        Due.is("feed behind a fault", x.feed(0, 0, 0, 0, 0), 20);
        Due.is("another", Due.house(x, "house 2;person 1 1;person 0 1;person 1 2"), 3);
        Due.is("floors", x.count(0), 2);
        Due.is("bell", x.count(5), 0);
        Due.is("news", x.count(8), 0);
        Due.is("acts", x.count(9), 0);
        Due.is("undo", x.undo(), -1);
        Due.is("knows", x.count(6), 0);
        Due.is("night", x.count(12), -1);
        Due.is("deaf", x.person(1, 6), 0);
        Due.is("chairs", x.person(0, 7), 0);
        Due.is("hated", x.person(0, 5), 0);
        Due.is("lit", x.floor(0, 2), 0);
        Due.is("the rule in force stays", x.count(4), 0);
        Due.is("x stays", x.count(10), 77);
    }

    private static void rules() {
        StairNews x = new StairNews();
        Due.is("a rule without a house", Due.rule(x, "tell 1"), 0);
        Due.is("the tape is empty", x.count(11), 0);
        Due.is("a test", Due.rule(x, "tell chairs*2-since/3+twist%2 if home = 1 and there = 0;tell 0"), 1);
        Due.is("no blanks", Due.rule(x, "tell1if[bell<3or not floor>=2]and night<=known;tell teller-hearer"), 2);
        Due.is("all signs", Due.rule(x, "tell 99999 if 1<2 or 1<=2 or 1=2 or 1>=2 or 1>2"), 3);
        Due.is("a fault", Due.rule(x, "tell"), Due.fault(4, 0));
        Due.is("the tape is empty then", x.count(11), 0);
        Due.is("rules", x.count(3), 4);
        Due.is("a fifth", Due.rule(x, "tell 00000"), 4);
        Due.is("a sixth", Due.rule(x, "  tell  1  ;  tell 2  "), 5);
        Due.is("no seventh", Due.rule(x, "tell 1"), -1);
        Due.is("nothing happens", x.count(11), 6);
        Due.is("no seventh", x.count(3), 6);
        Due.is("nor a fault", Due.rule(x, "tell"), -1);
        Due.is("nothing happens", x.count(11), 4);
        Due.is("a house off the tape still", Due.house(x, "house 2"), 0);
    }

    private static void ruleFault(String text, int place, int kind) {
        StairNews x = new StairNews();
        Due.is("rule '" + text + "'", Due.rule(x, text), Due.fault(place, kind));
        Due.is("the tape is empty then", x.count(11), 0);
        Due.is("no rule then", x.count(3), 0);
    }

    private static void ruleFaults() {
        ruleFault("", 0, 0);
        ruleFault("tell", 4, 0);
        ruleFault("tells 1", 0, 0);
        ruleFault("tell1 1", 6, 0);
        ruleFault("tell x", 5, 0);
        ruleFault("tell tell", 5, 0);
        ruleFault("tell if", 5, 0);
        ruleFault("tell -1", 5, 0);
        ruleFault("tell not 1", 5, 0);
        ruleFault("tell [1]", 5, 0);
        ruleFault("tell 1;", 7, 0);
        ruleFault("tell 1 if", 9, 0);
        ruleFault("tell 1 of 1=1", 7, 0);
        ruleFault("tell 1 if home = 1]", 18, 0);
        ruleFault("tell 1 if [home = 1", 19, 0);
        ruleFault("tell 1 if [home = 1;", 19, 0);
        ruleFault("tell 1 if home", 14, 0);
        ruleFault("tell 1 if home and 1=1", 15, 0);
        ruleFault("tell 1 if 1 < = 2", 14, 0);
        ruleFault("tell 1 if 1 =< 2", 13, 0);
        ruleFault("tell 1 if 1==2", 12, 0);
        ruleFault("tell 1 if 1<2<3", 13, 0);
        ruleFault("tell 1 if 1<2 nor 1<2", 14, 0);
        ruleFault("tell 1 if 1<2 and", 17, 0);
        ruleFault("tell 1 if 1<2 or or", 17, 0);
        ruleFault("tell 1 if not", 13, 0);
        ruleFault("tell 1 if []", 11, 0);
        ruleFault("tell 1 if [bell]<2", 15, 0);
        ruleFault("tell 5 %", 8, 0);
        ruleFault("tell 5 5", 7, 0);
        ruleFault("tell 5 bell", 7, 0);
        ruleFault("tell 100000", 5, 1);
        ruleFault("tell 1+000001", 7, 1);
        ruleFault("tell 1\0", 6, 0);
        ruleFault("tell Bell", 5, 0);
        ruleFault("tell bellX", 9, 0);
        ruleFault("house 2", 0, 0);
    }

    private static void ruleLimits() {
        String open = Due.times("[", 10);
        String close = Due.times("]", 10);
        Due.is("10 deep", Due.rule(new StairNews(), "tell 1 if " + open + "1=1" + close), 0);
        ruleFault("tell 1 if " + open + "[1=1]" + close, 20, 2);
        Due.is("10 times not", Due.rule(new StairNews(), "tell 1 if " + Due.times("not ", 10) + "1=1"), 0);
        ruleFault("tell 1 if " + Due.times("not ", 11) + "1=1", 50, 2);
        ruleFault("tell 1 if " + Due.times("not[", 5) + "not 1=1" + Due.times("]", 5), 30, 2);
        Due.is("not within one another", Due.rule(new StairNews(),
                "tell 1 if " + open + "1=1" + close + "and " + Due.times("not ", 10) + "1=1 or " + open + "1=1" + close), 0);
        String sum = "tell 1" + Due.times("+1", 59);
        Due.is("60 values", Due.rule(new StairNews(), sum), 0);
        ruleFault(sum + "+ 1", sum.length() + 2, 3);
        ruleFault(sum + "+bell", sum.length() + 1, 3);
        ruleFault(sum + "+123456", sum.length() + 1, 1);
        ruleFault(sum + "+bells", sum.length() + 1, 0);
        ruleFault(sum + ";tell 1", sum.length() + 6, 3);
        ruleFault(sum + " if 1=1", sum.length() + 4, 3);
        String facts = "tell 1" + Due.times("+1", 56) + " if 1=1";
        Due.is("60 of both", Due.rule(new StairNews(), facts), 0);
        String less = "tell 1" + Due.times("+1", 57) + " if 1=1";
        ruleFault(less, less.length() - 1, 3);
        String least = "tell 1" + Due.times("+1", 58) + " if 1 >= 1";
        ruleFault(least, least.length() - 4, 3);
        String clauses = "tell 1" + Due.times(";tell 1", 11);
        Due.is("12 clauses", Due.rule(new StairNews(), clauses), 0);
        ruleFault(clauses + ";tell", clauses.length() + 1, 4);
        ruleFault(clauses + ";tel 1", clauses.length() + 1, 0);
        ruleFault(clauses + ";", clauses.length() + 1, 0);
    }

    private static void force() {
        StairNews x = new StairNews();
        Due.is("force(0) of none", x.force(0), -2);
        Due.is("force(NONE)", x.force(-1), -1);
        Due.rule(x, "tell 0");
        Due.rule(x, "tell 1");
        Due.is("force(0)", x.force(0), -1);
        Due.is("force(1)", x.force(1), 0);
        Due.is("force(2)", x.force(2), -2);
        Due.is("force(-2)", x.force(-2), -2);
        Due.is("nothing happened", x.count(4), 1);
        Due.is("force(NONE)", x.force(-1), 1);
        Due.is("none", x.count(4), -1);
    }
}

import java.util.function.Consumer;
import java.util.function.Supplier;

/**
 * Promises 1, 7 to 15, 27 and 29 to 31, and the terms of a bell and of acts: each sentence that names a boundary has a
 * test of its own, just below it, at it and just above it.
 */
public final class EdgeHouseTest {
    private static final int MIN = Integer.MIN_VALUE;
    private static final int MAX = Integer.MAX_VALUE;
    private static final int[] NOBODY = {-1, -2, 5, 6, 7, 32, 1000, MIN, MAX};
    private static final int[] NOWHERE = {-1, -2, 5, 6, 9, 32, 1000, MIN, MAX};
    private static final String PAIR = "house 3;person 0 1;person 0 1";

    public static void main(String[] args) {
        newObject();
        withoutHouse();
        atFirst();
        errandBell();
        errandOfWalker();
        errandLastTold();
        flights();
        landingInPassing();
        stairs();
        allAtOnce();
        leastTeller();
        deafAndKnowing();
        plantAndLight();
        hatred();
        ruleSum();
        ruleWithout();
        arithmetic();
        signs();
        andOrNot();
        muchAtOnce();
        words();
        bucket();
        chairs();
        bellNumber();
        promisedCalls();
        person();
        knows();
        floor();
        bell();
        whisper();
        send();
        plant();
        heel();
        undoTwenty();
        undoLastFirst();
        whatIsAnAct();
        undoRefused();
        seed();
        count();
        image();
        back();
        backRefused();
        Doc.coversPromises(1, 7, 8, 9, 10, 11, 12, 13, 14, 15, 27, 29, 30, 31);
        Due.finish();
    }

    private static void newObject() {
        Doc.says("Terms", "`NONE = -1`: None");
        Due.is("NONE", StairNews.NONE, -1);
        Doc.says("Promise 1", "No HOUSE, no RULES, none IN FORCE (all who can tell)");
        StairNews x = new StairNews();
        int[] due = {0, 0, 0, 0, -1, 0, 0, 0, 0, 0, 0, 0, -1};
        for (int what = 0; what < due.length; what++) {
            Due.is("count(" + what + ")", x.count(what), due[what]);
        }
        Due.is("no first rule", x.force(0), -2);
        Due.is("none was in force", x.force(-1), -1);
        StairNews y = Due.in(PAIR);
        y.whisper(0, 0);
        Due.is("all who can tell", y.bell(), 1);
    }

    private static void withoutHouse() {
        Doc.says("Promise 1", "No HOUSE");
        Supplier<StairNews> none = StairNews::new;
        Still.keeps("house()", none, StairNews::house, Due.fault(0, 0));
        Still.keeps("rule()", none, StairNews::rule, Due.fault(0, 0));
        Still.keeps("person(0, 0)", none, x -> x.person(0, 0), -1000);
        Still.keeps("knows(0, 0)", none, x -> x.knows(0, 0), -1000);
        Still.keeps("floor(0, 0)", none, x -> x.floor(0, 0), -1);
        Still.keeps("bell()", none, StairNews::bell, -1);
        Still.keeps("whisper(0, 0)", none, x -> x.whisper(0, 0) ? 1 : 0, 0);
        Still.keeps("send(0, 0)", none, x -> x.send(0, 0), -1);
        Still.keeps("send(0, 1)", none, x -> x.send(0, 1), -1);
        Still.keeps("plant(0)", none, x -> x.plant(0), -1);
        Still.keeps("heel(0)", none, x -> x.heel(0), -1);
        Still.keeps("undo()", none, StairNews::undo, -1);
        Still.keeps("ahead(0)", none, x -> x.ahead(0), -1);
        Still.keeps("where(0, 0)", none, x -> x.where(0, 0), -1);
        Still.keeps("hears(0)", none, x -> x.hears(0), -1);
        Still.keeps("whom(0, 1, 1, 0)", none, x -> x.whom(0, 1, 1, 0), -1);
        Still.keeps("news(0, 0)", none, x -> x.news(0, 0), -2);
        Still.keeps("news(NONE, 0)", none, x -> x.news(-1, 0), 0);
        Still.keeps("starts(0)", none, x -> x.starts(0), -1);
        Still.keeps("look(0)", none, x -> x.look(0), -1);
        Still.keeps("block(1, 0)", none, x -> x.block(1, 0), -1);
        Still.keeps("silence(0, 1, 0)", none, x -> x.silence(0, 1, 0), -1);
        Still.keeps("meeting(0)", none, x -> x.meeting(0), -1);
        Still.keeps("cost(0)", none, x -> x.cost(0), -1000);
        Still.keeps("evenings(1, 1, 0)", none, x -> x.evenings(1, 1, 0), -1000000);
        Still.keeps("back(0)", none, x -> x.back(0), -1);
    }

    private static void atFirst() {
        Doc.says("Terms", "At first each is at home, nobody knows anything, it is BELL 0");
        StairNews x = Due.in("house 9;person 8 9;person 0 1;person 4 5");
        int[] home = {8, 0, 4};
        for (int p = 0; p < 3; p++) {
            Due.is("at home", x.person(p, 0), home[p]);
            Due.is("stands there", x.person(p, 1), home[p]);
            Due.is("no flight", x.person(p, 2), 0);
            Due.is("not heard", x.knows(p, 0), -1);
        }
        Due.is("BELL", x.count(5), 0);
        Due.is("nobody knows", x.count(6), 0);
        Due.is("nobody walks", x.count(7), 0);
    }

    // ---- a bell: errands and flights

    private static void at(String when, StairNews x, int person, int floor, int goal, int left) {
        Due.is(when + ", the floor", x.person(person, 0), floor);
        Due.is(when + ", where to", x.person(person, 1), goal);
        Due.is(when + ", bells to go", x.person(person, 2), left);
    }

    private static void errandBell() {
        Doc.says("Terms", "whose ERRAND is at this BELL, and who stands, sets out for that FLOOR");
        StairNews x = Due.in("house 4;person 0 2;errand 0 1 3");
        for (int bell = 0; bell < 3; bell++) {
            Due.is("bell " + bell, x.bell(), 0);
            at("behind bell " + bell, x, 0, 0, 0, 0);
        }
        x.bell();
        at("behind bell 3", x, 0, 0, 1, 1);
        x.bell();
        at("behind bell 4", x, 0, 1, 1, 0);
        Due.ring(x, 5);
        at("once only", x, 0, 1, 1, 0);
    }

    private static void errandOfWalker() {
        Doc.says("Terms", "and who stands, sets out for that FLOOR");
        StairNews x = Due.in("house 4;person 0 2;errand 0 1 0;errand 0 3 1");
        Due.ring(x, 2);
        at("they walked ahead of bell 1", x, 0, 1, 1, 0);
        Due.ring(x, 3);
        at("and do not go then", x, 0, 1, 1, 0);
        StairNews y = Due.in("house 4;person 0 2;errand 0 1 0;errand 0 3 2");
        Due.ring(y, 3);
        at("they stood ahead of bell 2", y, 0, 1, 3, 1);
        StairNews z = Due.in("house 4;person 0 1;errand 0 3 0;errand 0 0 1;errand 0 0 2;errand 0 0 3");
        Due.ring(z, 2);
        at("on a landing in passing they walk", z, 0, 2, 3, 1);
        z.bell();
        at("there", z, 0, 3, 3, 0);
        z.bell();
        at("now they go", z, 0, 2, 0, 1);
        StairNews w = Due.in("house 4;person 0 1;errand 0 3 0");
        w.send(0, 1);
        w.bell();
        at("who was sent walks", w, 0, 1, 1, 0);
    }

    private static void errandLastTold() {
        Doc.says("Terms", "of several ERRANDS of one the last told; to where they are: none");
        StairNews x = Due.in("house 5;person 2 1;person 2 1;errand 0 0 0;errand 1 3 0;errand 0 4 0");
        x.bell();
        at("the last told", x, 0, 3, 4, 1);
        at("another's", x, 1, 3, 3, 0);
        StairNews y = Due.in("house 5;person 2 1;errand 0 2 0");
        y.bell();
        at("to where they are", y, 0, 2, 2, 0);
        StairNews z = Due.in("house 5;person 2 1;errand 0 4 0;errand 0 2 0");
        z.bell();
        at("the last told, where they are", z, 0, 2, 2, 0);
        StairNews u = Due.in("house 5" + Due.times(";person 2 1", 7) + ";errand 1 4 0;errand 6 4 0;errand 1 2 0;errand 6 2 0");
        u.bell();
        at("of 1 the last told, where they are", u, 1, 2, 2, 0);
        at("of 6 the last told, where they are", u, 6, 2, 2, 0);
        StairNews w = Due.in("house 5;person 2 1;errand 0 2 0;errand 0 4 0");
        w.bell();
        at("the last told, elsewhere", w, 0, 3, 4, 1);
        StairNews v = Due.in("house 5;person 2 1;errand 0 4 1;errand 0 1 0;errand 0 0 1");
        Due.ring(v, 2);
        at("by bells, not by order", v, 0, 0, 0, 0);
    }

    private static void flights() {
        Doc.says("Terms", "Who walks has one BELL of the flight less to go; at its end they are on the next landing, "
                + "a FLOOR nearer to where they go, and stand there, if it is that one; else the next flight begins");
        for (int pace = 1; pace <= 9; pace++) {
            for (int way = 0; way <= 1; way++) {
                StairNews x = Due.in("house 3;person " + 2 * way + " " + pace);
                int from = 2 * way;
                int to = 2 - from;
                Due.is("two flights", x.send(0, to), 2);
                at("sent", x, 0, from, to, pace);
                Due.ring(x, pace - 1);
                at("a bell ahead of the next landing", x, 0, from, to, 1);
                x.bell();
                at("on the next landing", x, 0, 1, to, pace);
                Due.is("walks", x.count(7), 1);
                Due.ring(x, pace - 1);
                at("a bell ahead of the last landing", x, 0, 1, to, 1);
                x.bell();
                at("stands there", x, 0, to, to, 0);
                Due.is("walks no more", x.count(7), 0);
                x.bell();
                at("stays", x, 0, to, to, 0);
            }
        }
    }

    private static void landingInPassing() {
        Doc.says("Terms", "else the next flight begins (they are on that landing at this BELL)");
        StairNews x = Due.in("house 3;person 0 2;person 1 1;person 2 1");
        x.whisper(0, 0);
        x.send(0, 2);
        Due.is("on the stairs", x.bell(), 0);
        Due.is("on the landing in passing", x.bell(), 1);
        Due.is("of whom", x.knows(1, 2), 0);
        Due.is("on the stairs again", x.bell(), 0);
        Due.is("at the end", x.bell(), 1);
        StairNews y = Due.in("house 3;person 0 2;person 1 1");
        y.whisper(1, 0);
        y.send(0, 2);
        Due.is("on the stairs", y.bell(), 0);
        Due.is("who passes hears, too", y.bell(), 1);
        at("and goes on", y, 0, 1, 2, 2);
    }

    private static void stairs() {
        Doc.says("Terms", "On the stairs is who walks, and is not on a landing at this BELL");
        StairNews x = Due.in("house 3;person 0 2;person 0 1;person 0 3");
        x.whisper(0, 0);
        x.send(0, 1);
        x.send(2, 1);
        Due.is("on the stairs they tell neither below nor one another", x.bell(), 0);
        Due.is("shown where they were last", x.floor(0, 0), 7);
        Due.is("all but 1 walk", x.count(7), 5);
        Due.is("nor is 2 above yet", x.bell(), 0);
        Due.is("shown above", x.floor(1, 0), 1);
        Due.is("now 2 is", x.bell(), 1);
        Due.is("1 never heard", x.knows(1, 0), -1);
    }

    // ---- a bell: tellings

    private static void allAtOnce() {
        Doc.says("Terms", "TELLINGS, all at once, by who knows ahead of them");
        StairNews x = Due.in("house 2;person 0 1;person 0 1;person 0 1;person 0 1");
        Due.rule(x, "tell 1 if hearer = teller + 1 and known = hearer");
        x.force(0);
        x.whisper(0, 0);
        for (int p = 1; p <= 3; p++) {
            Due.is("one a bell", x.bell(), 1);
            Due.is("of the one ahead", x.knows(p, 2), p - 1);
            Due.is("at bell", x.knows(p, 0), p - 1);
        }
        Due.is("nobody is left", x.bell(), 0);
        StairNews y = Due.in("house 2;person 0 1;person 1 1;person 1 1;bucket 0 1");
        Due.rule(y, "tell 1 if known > 1");
        y.force(0);
        y.whisper(0, 0);
        Due.is("both by the bucket at once", y.bell(), 2);
        Due.is("of 0", y.knows(2, 2), 0);
    }

    private static void leastTeller() {
        Doc.says("Terms", "hears it of the least PERSON who tells them");
        StairNews x = Due.in("house 2" + Due.times(";person 0 1", 7));
        for (int p = 6; p >= 1; p--) {
            x.whisper(p, p);
        }
        Due.is("one", x.bell(), 1);
        Due.is("of the least", x.knows(0, 2), 1);
        StairNews y = Due.in("house 2" + Due.times(";person 0 1", 7));
        Due.rule(y, "tell 1 if teller >= 5");
        y.force(0);
        for (int p = 1; p <= 6; p++) {
            y.whisper(p, p);
        }
        y.bell();
        Due.is("of the least who tells", y.knows(0, 2), 5);
        StairNews z = Due.in("house 2" + Due.times(";person 0 1", 7));
        z.whisper(6, 3);
        Due.is("six at once", z.bell(), 6);
        for (int p = 0; p < 6; p++) {
            Due.is("of 6", z.knows(p, 2), 6);
        }
    }

    private static void deafAndKnowing() {
        Doc.says("Terms", "a PERSON who does not know, is not deaf, and is on a landing");
        StairNews x = Due.in("house 2;person 0 1;person 0 1;person 0 1;deaf 1;bucket 1 0;adds 0 3");
        x.whisper(0, 10);
        x.whisper(2, 20);
        Due.is("who knows does not hear it again, the deaf one never", x.bell(), 0);
        Due.is("with chairs as they were", x.knows(2, 1), 20);
        Due.is("of nobody", x.knows(2, 2), -1);
        x.send(2, 1);
        x.bell();
        Due.is("not by the bucket either", x.ahead(100), 5);
        Due.is("deaf", x.hears(1), -2);
    }

    private static void plantAndLight() {
        Doc.says("Terms", "at which there is no plant, and which is lit, if it is night");
        String[] more = {"", ";plant 0", ";plant 1", ";night 0", ";night 0;lit 0", ";night 0;lit 1", ";plant 0;night 0;lit 0",
            ";night 1", ";lit 0", ";plant 0;lit 0"};
        int[] due = {1, 0, 1, 0, 1, 0, 0, 1, 1, 0};
        for (int i = 0; i < more.length; i++) {
            StairNews x = Due.in(PAIR + more[i]);
            x.whisper(0, 0);
            Due.is("with '" + more[i] + "'", x.bell(), due[i]);
        }
    }

    private static void hatred() {
        Doc.says("Terms", "who hates them not (either way), but if somebody else is on that landing, too");
        for (String hates : new String[] {";hates 0 1", ";hates 1 0"}) {
            for (int teller = 0; teller <= 1; teller++) {
                StairNews x = Due.in(PAIR + hates);
                x.whisper(teller, 0);
                Due.is("the two alone", x.bell(), 0);
            }
            StairNews deaf = Due.in(PAIR + ";person 0 1;deaf 2" + hates);
            deaf.whisper(0, 0);
            Due.is("with a deaf one", deaf.bell(), 1);
            StairNews above = Due.in(PAIR + ";person 1 1;deaf 2" + hates);
            above.whisper(0, 0);
            Due.is("with one on another landing", above.bell(), 0);
            StairNews walks = Due.in(PAIR + ";person 0 2;deaf 2" + hates);
            walks.whisper(0, 0);
            walks.send(2, 1);
            Due.is("with one on the stairs", walks.bell(), 0);
            StairNews passes = Due.in(PAIR + ";person 1 1;deaf 2" + hates);
            passes.whisper(0, 0);
            passes.send(2, 0);
            Due.is("with one who just came", passes.bell(), 1);
        }
        StairNews all = Due.in("house 2;person 0 1;person 0 1;person 0 1;hates 0 1;hates 0 2;hates 1 2");
        all.whisper(0, 0);
        Due.is("three who all hate one another", all.bell(), 2);
    }

    private static int told(String rule) {
        StairNews x = Due.in(PAIR);
        Due.is("the rule '" + rule + "'", Due.rule(x, rule), 0);
        x.force(0);
        x.whisper(0, 7);
        return x.bell();
    }

    private static void ruleSum() {
        Doc.says("Terms", "is above 0");
        Due.is("2", told("tell 2"), 1);
        Due.is("1", told("tell 1"), 1);
        Due.is("0", told("tell 0"), 0);
        Due.is("-1", told("tell 0-1"), 0);
        Due.is("the greatest", told("tell 65536*65536*32768*65536-1"), 1);
        Due.is("the least", told("tell 65536*65536*32768*65536"), 0);
        Due.is("above 32 bits", told("tell 65536*65536"), 1);
        Due.is("a half", told("tell 1/2"), 0);
    }

    private static void ruleWithout() {
        Doc.says("Terms", "by the RULE IN FORCE the SUM of its first CLAUSE without a TEST, or whose TEST holds (0 without)");
        Due.is("none holds", told("tell 1 if 1=2"), 0);
        Due.is("none of twelve holds", told("tell 1 if 1=2" + Due.times(";tell 1 if 1=2", 11)), 0);
        Due.is("the last of twelve", told("tell 0 if 1=2" + Due.times(";tell 0 if 1=2", 10) + ";tell 1 if 1=1"), 1);
        Due.is("the first that holds", told("tell 1 if 1=2;tell 0 if 1=1;tell 1"), 0);
        Due.is("the first without a test", told("tell 1 if 1=2;tell 0;tell 1"), 0);
        Due.is("the first without a test", told("tell 1;tell 0 if 1=1"), 1);
    }

    private static void arithmetic() {
        Doc.says("Terms", "/ is towards 0, % its rest, both 0 by 0; all goes round in 64 bits");
        String[] holds = {"7/2=3", "7%3=1", "7%7=0", "7/7=1", "7/8=0", "7%8=7", "8/7=1", "0/5=0", "0%5=0", "1/0=0", "1%0=0",
            "0/0=0", "0%0=0", "7/bell=0", "7%bell=0", "7/bell/bell=0", "5+7/bell*3=5", "1-2+1=0", "99999*0=0"};
        for (String test : holds) {
            Due.is(test, told("tell 1 if " + test), 1);
            Due.is("not " + test, told("tell 1 if not " + test), 0);
        }
        // The least number there is has no opposite: by -1 (twist of one who takes 1) it stays, its rest is 0.
        StairNews x = Due.in(PAIR + ";takes 0 1");
        Due.rule(x, "tell 1 if 65536*65536*32768*65536/twist=65536*65536*32768*65536 and 65536*65536*32768*65536%twist=0");
        x.force(0);
        x.whisper(0, 0);
        Due.is("the least by -1", x.bell(), 1);
        String least = "65536*65536*32768*65536";
        Due.is("one less than the least is above 0", told("tell " + least + "-1"), 1);
        Due.is("the greatest and 1 is the least", told("tell 1 if " + least + "-1+1=" + least + " and " + least + "<0"), 1);
        Due.is("twice the least is 0", told("tell 1 if " + least + "*2=0"), 1);
        Due.is("33 bits are kept", told("tell 1 if 65536*65536>0 and 65536*65536/65536=65536"), 1);
        StairNews y = Due.in(PAIR + ";takes 0 7");
        Due.rule(y, "tell 1 if twist/2=0-3 and twist%2=0-1 and twist/4=0-1 and twist/8=0 and 15/twist=0-2 and 15%twist=1");
        y.force(0);
        y.whisper(0, 0);
        Due.is("towards 0 also below 0", y.bell(), 1);
    }

    private static void signs() {
        Doc.says("Terms", "SUM SIGN SUM, SIGN one of < <= = >= >");
        String[] signs = {"<", "<=", "=", ">=", ">"};
        boolean[][] due = {{true, false, false}, {true, true, false}, {false, true, false}, {false, true, true},
            {false, false, true}};
        for (int i = 0; i < signs.length; i++) {
            for (int left = 6; left <= 8; left++) {
                int holds = due[i][left - 6] ? 1 : 0;
                Due.is(left + signs[i] + "7", told("tell 1 if " + left + signs[i] + "7"), holds);
                Due.is("not " + left + signs[i] + "7", told("tell 1 if not " + left + signs[i] + "7"), 1 - holds);
                Due.is("not not " + left + signs[i] + "7", told("tell 1 if not not " + left + signs[i] + "7"), holds);
                Due.is("below 0, " + left + signs[i] + "7", told("tell 1 if 0-" + (14 - left) + signs[i] + "0-7"), holds);
            }
        }
        String least = "65536*65536*32768*65536";
        Due.is("the least < the greatest", told("tell 1 if " + least + "<" + least + "-1"), 1);
        Due.is("the greatest < the least", told("tell 1 if " + least + "-1<" + least), 0);
    }

    private static void andOrNot() {
        Doc.says("Terms", "TEST: PART { or PART }. PART: FACT { and FACT }. FACT: not FACT | [ TEST ]");
        // Of three and of four facts, each true or not, joined in all ways: and binds more closely than or, not most.
        for (int values = 0; values < 16; values++) {
            boolean a = (values & 1) != 0;
            boolean b = (values & 2) != 0;
            boolean c = (values & 4) != 0;
            boolean d = (values & 8) != 0;
            holds(a || b || c || d, a, "or", b, "or", c, "or", d);
            holds(a && b && c && d, a, "and", b, "and", c, "and", d);
            holds(a || b && c || d, a, "or", b, "and", c, "or", d);
            holds(a && b || c && d, a, "and", b, "or", c, "and", d);
            holds(a || b || c && d, a, "or", b, "or", c, "and", d);
            holds(a && b || c || d, a, "and", b, "or", c, "or", d);
            holds(a || b && c && d, a, "or", b, "and", c, "and", d);
            holds(a && b && c || d, a, "and", b, "and", c, "or", d);
            holds(a && (b || c) && d, a, "and [", b, "or", c, "] and", d);
            holds((a || b) && (c || d), "[", a, "or", b, "] and [", c, "or", d, "]");
            holds(!(a || b) || !(c && d), "not [", a, "or", b, "] or not [", c, "and", d, "]");
            holds(!a && b || !c && !!d, "not", a, "and", b, "or not", c, "and not not", d);
            holds(a || !(b && (c || !d)), a, "or not [", b, "and [", c, "or not", d, "]]");
        }
    }

    private static void holds(boolean due, Object... parts) {
        StringBuilder test = new StringBuilder("tell 1 if");
        for (Object part : parts) {
            test.append(' ').append(part.equals(true) ? "1=1" : part.equals(false) ? "1=2" : part);
        }
        Due.is(test.toString(), told(test.toString()), due ? 1 : 0);
    }

    private static void muchAtOnce() {
        Doc.says("Terms", "[ and not lie within one another 10 deep at most; at most 60 VALUES (of SUMS) and FACTS made of a "
                + "SIGN, together");
        // As much as can wait: in each of nine brackets an or and an and, within them a sum whose product comes last.
        String waits = Due.times("1=2 or 1=1 and[", 9);
        for (int left = 5; left <= 7; left++) {
            String rule = "tell 1 if " + waits + left + "=2+2*2" + Due.times("]", 9);
            Due.is(rule, told(rule), left == 6 ? 1 : 0);
        }
        // Ten deep, in all ways to open: each not turns it round.
        for (int nots = 0; nots <= 10; nots++) {
            String open = Due.times("[", 10 - nots) + Due.times("not ", nots);
            String rule = "tell 1 if " + open + "1=1" + Due.times("]", 10 - nots);
            Due.is(rule, told(rule), nots % 2 == 0 ? 1 : 0);
        }
        // Nearly as many times not as 400 bytes hold: eight facts, ten times each.
        String ten = Due.times("not ", 10) + "1=1 and ";
        String many = "tell 1 if " + Due.times(ten, 7) + Due.times("not ", 10) + "1=1";
        Due.is("how long", many.length() <= 400, true);
        Due.is(many, told(many), 1);
        Due.is("the last turned round", told(many.substring(0, many.length() - 7) + "1=1"), 0);
        Due.is("60 values that come to -1", told("tell 0-59" + Due.times("+1", 58)), 0);
        Due.is("60 values that come to 0", told("tell 0-58" + Due.times("+1", 58)), 0);
        Due.is("60 values that come to 1", told("tell 0-57" + Due.times("+1", 58)), 1);
    }

    private static void words() {
        Doc.says("Terms", "since (BELLS since the teller heard it), home (1 if it is the hearer's home, else 0), "
                + "there (others on that landing but these two), known (PEOPLE who know), night (1, or 0), "
                + "twist (CHAIRS the teller adds, less than 0 if they take)");
        Due.is("since 0 in the bell behind the whisper", told("tell 1 if since = 0"), 1);
        Due.is("there 0", told("tell 1 if there = 0"), 1);
        Due.is("known 1", told("tell 1 if known = 1"), 1);
        Due.is("night 0", told("tell 1 if night = 0"), 1);
        Due.is("twist 0", told("tell 1 if twist = 0"), 1);
        Due.is("home 1", told("tell 1 if home = 1"), 1);
        Due.is("chairs as the teller knows it", told("tell 1 if chairs = 7"), 1);
        Due.is("teller 0, hearer 1, floor 0, bell 0", told("tell 1 if teller=0 and hearer=1 and floor=0 and bell=0"), 1);
        StairNews x = Due.in("house 9" + Due.times(";person 8 1", 7) + ";takes 5 9;night 3;lit 8");
        Due.rule(x, "tell 1 if since = 2 and there = 5 and known = 6 and night = 1 and twist + 9 = 0 and floor = 8 "
                + "and bell = 3 and teller = 5 and hearer = 6 and chairs = 99 and home = 1");
        x.force(0);
        x.bell();
        for (int p = 0; p < 6; p++) {
            x.whisper(p, 94 + p);
        }
        Due.is("since 0", x.bell(), 0);
        Due.is("since 1", x.bell(), 0);
        Due.is("since 2", x.bell(), 1);
        Due.is("less nine", x.knows(6, 1), 90);
        StairNews y = Due.in("house 2;person 0 1;person 1 1");
        Due.rule(y, "tell 1 if home = 0");
        y.force(0);
        y.whisper(0, 0);
        y.send(0, 1);
        Due.is("at the hearer's home", y.bell(), 0);
        StairNews z = Due.in("house 2;person 0 1;person 1 1");
        Due.rule(z, "tell 1 if home = 0");
        z.force(0);
        z.whisper(0, 0);
        z.send(1, 0);
        Due.is("at the teller's home", z.bell(), 1);
    }

    private static void bucket() {
        Doc.says("Terms", "If nobody does, and the bucket comes to that FLOOR: of the least PERSON who knows and is on the "
                + "landing it comes from (plants, night, hatred, the RULE not asked)");
        String up = "house 3;person 0 1;person 2 1;bucket 0 2";
        for (String more : new String[] {"", ";plant 0", ";plant 2", ";night 0", ";hates 0 1", ";hates 1 0;plant 0;night 0"}) {
            StairNews x = Due.in(up + more);
            Due.rule(x, "tell 0");
            x.force(0);
            x.whisper(0, 0);
            Due.is("by the bucket with '" + more + "'", x.bell(), 1);
            StairNews y = Due.in(up + more);
            y.whisper(1, 0);
            Due.is("not the other way with '" + more + "'", y.bell(), 0);
        }
        StairNews deaf = Due.in(up + ";deaf 1");
        deaf.whisper(0, 0);
        Due.is("the deaf one does not", deaf.bell(), 0);
        StairNews middle = Due.in("house 3;person 0 1;person 1 1;bucket 0 2");
        middle.whisper(0, 0);
        Due.is("not between", middle.bell(), 0);
        StairNews leaves = Due.in("house 3;person 0 2;person 2 1;bucket 0 2");
        leaves.whisper(0, 0);
        leaves.send(0, 1);
        Due.is("not from the stairs", leaves.bell(), 0);
        StairNews comes = Due.in("house 3;person 0 1;person 1 2;bucket 0 2");
        comes.whisper(0, 0);
        comes.send(1, 2);
        Due.is("not to the stairs", comes.bell(), 0);
        Due.is("to the landing", comes.bell(), 1);
        StairNews least = Due.in("house 2;person 0 1;person 0 1;person 0 1;person 1 1;bucket 0 1;adds 2 5");
        least.whisper(2, 1);
        least.whisper(1, 2);
        least.send(0, 1);
        Due.is("two are there", least.bell(), 2);
        Due.is("of the least who knows", least.knows(3, 2), 1);
        Due.is("with their chairs", least.knows(3, 1), 2);
        StairNews first = Due.in("house 2;person 0 1;person 1 1;person 1 1;bucket 0 1");
        first.whisper(0, 0);
        first.whisper(2, 9);
        first.bell();
        Due.is("who is there tells first", first.knows(1, 2), 2);
        Due.is("without a bucket", Due.in("house 3;person 0 1;person 2 1").ahead(100), 0);
    }

    private static void chairs() {
        Doc.says("Terms", "They know it with the teller's CHAIRS and what the teller adds (less what they take; -999 at "
                + "least, 999 at most)");
        // Seven people bring it to 99 + 6 * 9 and to 0 - 6 * 9; no run comes to 999.
        StringBuilder adds = new StringBuilder("house 2" + Due.times(";person 0 1", 7));
        StringBuilder takes = new StringBuilder(adds);
        for (int p = 0; p < 7; p++) {
            adds.append(";adds ").append(p).append(" 9");
            takes.append(";takes ").append(p).append(" 9");
        }
        StairNews x = Due.in(adds.toString());
        StairNews y = Due.in(takes.toString());
        for (StairNews z : new StairNews[] {x, y}) {
            Due.rule(z, "tell 1 if hearer = teller + 1");
            z.force(0);
        }
        x.whisper(0, 99);
        y.whisper(0, 0);
        Due.ring(x, 6);
        Due.ring(y, 6);
        for (int p = 0; p < 7; p++) {
            Due.is("added", x.knows(p, 1), 99 + 9 * p);
            Due.is("taken", y.knows(p, 1), -9 * p);
        }
    }

    private static void bellNumber() {
        Doc.says("Terms", "BELL is 1 more (999 at most)");
        StairNews x = Due.in(PAIR);
        for (int bell = 0; bell < 5; bell++) {
            Due.is("BELL", x.count(5), bell);
            x.bell();
        }
        // BELL 999 is beyond the 512 calls, so that no answer is promised there; it is as told all the same.
        String[] rules = {"tell 1 if bell = 998", "tell 1 if bell = 999", "tell 1 if bell > 999",
            "tell 1 if since > 48", "tell 1 if since > 49"};
        int[] due = {3, 3, 1, 3, 1};
        for (int i = 0; i < rules.length; i++) {
            StairNews y = Due.in("house 2;person 0 1;person 0 1");
            Due.rule(y, rules[i]);
            y.force(0);
            Due.ring(y, 950);
            Due.is("BELL", y.count(5), 950);
            y.whisper(0, 0);
            Due.is("'" + rules[i] + "', up to bell 997", y.ahead(48), 1);
            Due.is("'" + rules[i] + "', in 100 bells", y.ahead(100), due[i]);
        }
    }

    private static void promisedCalls() {
        Doc.says("What it is", "An object is used for at most 512 calls after it has been made");
        StairNews x = new StairNews();
        x.feed(0x686F7573, 0x6520323B, 0x70657273, 0x6F6E2031, 0x20310000);
        x.end(18);
        x.house();
        for (int call = 4; call <= 507; call++) {
            Due.is("call " + call, x.bell(), 0);
        }
        Due.is("call 508", x.count(5), 504);
        Due.is("call 509", x.starts(0), 41);
        Due.is("call 510", x.look(1), 41);
        Due.is("call 511", x.whisper(0, 9), true);
        Due.is("call 512", x.evenings(10, 60, 1), 9);
        // The longest that starts go back, and something happens late: of 0 it comes to 1 at bell 500 alone.
        StairNews y = new StairNews();
        y.feed(0x686F7573, 0x6520323B, 0x70657273, 0x6F6E2030, 0x20313B70);
        y.feed(0x6572736F, 0x6E203020, 0x31202020, 0x20202020, 0x20202020);
        Due.is("call 3", y.house(), 2);
        y.feed(0x74656C6C, 0x20312069, 0x66206265, 0x6C6C203E, 0x20343939);
        Due.is("call 5", y.rule(), 0);
        y.force(0);
        for (int call = 7; call <= 507; call++) {
            y.bell();
        }
        Due.is("call 508", y.count(5), 501);
        Due.is("call 509", y.news(1, 0), 1);
        Due.is("call 510", y.news(0, 0), 2);
        Due.is("call 511", y.starts(0), 82);
        Due.is("call 512", y.look(1), 82);
    }

    // ---- what is shown

    private static void person() {
        Doc.says("Promise 7", "0: the FLOOR they are on, or were on last, 1: the FLOOR they go to (the same: they stand), "
                + "2: BELLS of the flight to go still (0: none), 3: BELLS a flight, 4: home, 5: whom they hate, or who hates "
                + "them, as bits, 6: 1 if deaf, else 0, 7: CHAIRS they add");
        int[][] due = {{0, 0, 0, 1, 0, 8, 0, 2}, {2, 2, 0, 3, 2, 0, 0, -1}, {3, 0, 3, 3, 4, 0, 0, 0},
            {0, 0, 0, 9, 0, 1, 1, 0}, {0, 0, 0, 1, 0, 0, 0, 0}};
        StairNews x = Still.rich();
        for (int p = 0; p < 5; p++) {
            for (int what = 0; what <= 7; what++) {
                Due.is("person(" + p + ", " + what + ")", x.person(p, what), due[p][what]);
            }
        }
        Doc.says("Promise 7", "-1000 without these");
        for (int p : NOBODY) {
            for (int what = -1; what <= 8; what++) {
                Due.is("person(" + p + ", " + what + ")", x.person(p, what), -1000);
            }
        }
        for (int what : new int[] {-2, -1, 8, 9, 32, MIN, MAX}) {
            for (int p = 0; p < 5; p++) {
                Due.is("person(" + p + ", " + what + ")", x.person(p, what), -1000);
            }
        }
        Still.keeps("person(2, 1)", Still::rich, y -> y.person(2, 1), 0);
        StairNews all = Due.in("house 2" + Due.times(";person 0 1", 7) + ";hates 6 0;hates 6 1;hates 2 6;hates 3 6;hates 6 4;"
                + "hates 5 6");
        Due.is("all others", all.person(6, 5), 63);
        Due.is("the seventh", all.person(0, 5), 64);
        Due.is("nobody", Due.in("house 2").person(0, 0), -1000);
    }

    private static void knows() {
        Doc.says("Promise 8", "0: the BELL at which they heard it (NONE: not), 1: CHAIRS (0), 2: of whom (NONE: it was "
                + "WHISPERED, or not)");
        StairNews x = Due.in("house 2;person 0 1;person 0 1;person 1 1;adds 0 1");
        Due.ring(x, 4);
        x.whisper(0, 0);
        x.bell();
        int[][] due = {{4, 0, -1}, {4, 1, 0}, {-1, 0, -1}};
        for (int p = 0; p < 3; p++) {
            for (int what = 0; what <= 2; what++) {
                Due.is("knows(" + p + ", " + what + ")", x.knows(p, what), due[p][what]);
            }
        }
        StairNews first = Due.in(PAIR);
        first.whisper(1, 99);
        Due.is("at bell 0", first.knows(1, 0), 0);
        Due.is("99 chairs", first.knows(1, 1), 99);
        Doc.says("Promise 8", "-1000 without these");
        StairNews y = Still.rich();
        for (int p : NOBODY) {
            for (int what = -1; what <= 3; what++) {
                Due.is("knows(" + p + ", " + what + ")", y.knows(p, what), -1000);
            }
        }
        for (int what : new int[] {-2, -1, 3, 4, 32, MIN, MAX}) {
            Due.is("knows(0, " + what + ")", y.knows(0, what), -1000);
            Due.is("knows(4, " + what + ")", y.knows(4, what), -1000);
        }
        Due.is("nobody", Due.in("house 2").knows(0, 0), -1000);
    }

    private static void floor() {
        Doc.says("Promise 9", "0: who is on its landing, or left it last, as bits, 1: 1 if there is a plant, else 0, "
                + "2: 1 if it is lit by night, else 0");
        int[][] due = {{25, 0, 0}, {0, 1, 0}, {2, 0, 0}, {4, 1, 0}, {0, 0, 1}};
        StairNews x = Still.rich();
        for (int f = 0; f < 5; f++) {
            for (int what = 0; what <= 2; what++) {
                Due.is("floor(" + f + ", " + what + ")", x.floor(f, what), due[f][what]);
            }
        }
        Doc.says("Promise 9", "NONE without these");
        for (int f : NOWHERE) {
            for (int what = -1; what <= 3; what++) {
                Due.is("floor(" + f + ", " + what + ")", x.floor(f, what), -1);
            }
        }
        for (int what : new int[] {-2, -1, 3, 4, 32, MIN, MAX}) {
            Due.is("floor(0, " + what + ")", x.floor(0, what), -1);
            Due.is("floor(4, " + what + ")", x.floor(4, what), -1);
        }
        Due.is("all seven", Due.in("house 9" + Due.times(";person 8 1", 7)).floor(8, 0), 127);
    }

    // ---- acts

    private static void bell() {
        Doc.says("Promise 10", "A BELL: how many heard it");
        Due.is("without people", Due.in("house 2").bell(), 0);
        StairNews x = Due.in("house 2" + Due.times(";person 0 1", 7));
        Due.is("nobody knows", x.bell(), 0);
        x.whisper(3, 0);
        Due.is("all the others", x.bell(), 6);
        Due.is("all know", x.bell(), 0);
        Due.is("BELL", x.count(5), 3);
        Doc.says("Promise 10", "NONE, and nothing happens, without a HOUSE, or at BELL 999");
        Still.keeps("without a house", StairNews::new, StairNews::bell, -1);
        // By hand BELL 999 is beyond the 512 calls, so that no answer is promised there; it is as told all the same.
        StairNews late = Due.in("house 2;person 0 1;person 0 1");
        Due.ring(late, 998);
        late.whisper(0, 0);
        Due.is("at 998", late.bell(), 1);
        Due.is("BELL", late.count(5), 999);
        Due.is("at 999", late.bell(), -1);
        Due.is("BELL stays", late.count(5), 999);
        Due.is("nothing happened", late.undo(), 19);
        Due.is("the bell at 998 is undone", late.count(5), 998);
        Due.is("who heard at 998", late.count(6), 1);
    }

    private static int whispered(StairNews x, int person, int chairs) {
        return x.whisper(person, chairs) ? 1 : 0;
    }

    private static void whisper() {
        Doc.says("Promise 11", "WHISPER with CHAIRS (0 to 99): true");
        for (int chairs : new int[] {0, 1, 98, 99}) {
            StairNews x = Still.rich();
            Due.is("whisper(1, " + chairs + ")", x.whisper(1, chairs), true);
            Due.is("chairs", x.knows(1, 1), chairs);
            Due.is("at this bell", x.knows(1, 0), 3);
            Due.is("of nobody", x.knows(1, 2), -1);
            Due.is("an act", x.count(9), 8);
            Due.is("who knows", x.count(6), 19);
        }
        Due.is("on the stairs, too", Still.rich().whisper(2, 0), true);
        Doc.says("Promise 11", "false, and nothing happens, without these (not deaf), or if they know");
        for (int chairs : new int[] {-1, -2, 100, 101, 1000, MIN, MAX}) {
            Still.keeps("whisper(1, " + chairs + ")", Still::rich, x -> whispered(x, 1, chairs), 0);
        }
        for (int p : NOBODY) {
            Still.keeps("whisper(" + p + ", 0)", Still::rich, x -> whispered(x, p, 0), 0);
        }
        Doc.says("Terms", "WHISPER (a PERSON not deaf knows it, with so many CHAIRS, if they did not)");
        Still.keeps("a deaf one", Still::rich, x -> whispered(x, 3, 0), 0);
        Still.keeps("one who knows", Still::rich, x -> whispered(x, 0, 0), 0);
        Still.keeps("one who heard", () -> {
            StairNews x = Due.in(PAIR);
            x.whisper(0, 5);
            x.bell();
            return x;
        }, x -> whispered(x, 1, 50), 0);
    }

    private static void send() {
        Doc.says("Promise 12", "SEND: flights to go");
        for (int f = 0; f < 9; f++) {
            StairNews x = Due.in("house 9;person 4 2");
            Due.is("send(0, " + f + ") from 4", x.send(0, f), f == 4 ? -1 : Math.abs(f - 4));
            at("sent", x, 0, 4, f, f == 4 ? 0 : 2);
        }
        Due.is("up all", Due.in("house 9;person 0 1").send(0, 8), 8);
        Due.is("down all", Due.in("house 9;person 8 1").send(0, 0), 8);
        Doc.says("Promise 12", "NONE, and nothing happens, without these (they stand, another FLOOR)");
        for (int p : NOBODY) {
            Still.keeps("send(" + p + ", 1)", Still::rich, x -> x.send(p, 1), -1);
        }
        for (int f : NOWHERE) {
            Still.keeps("send(0, " + f + ")", Still::rich, x -> x.send(0, f), -1);
        }
        Doc.says("Terms", "SEND (a PERSON who stands sets out for another FLOOR now)");
        Still.keeps("to where they are", Still::rich, x -> x.send(1, 2), -1);
        for (int f = 0; f < 5; f++) {
            int floor = f;
            Still.keeps("who walks, to " + f, Still::rich, x -> x.send(2, floor), -1);
        }
        Still.keeps("sent just now", () -> {
            StairNews x = Still.rich();
            x.send(1, 3);
            return x;
        }, x -> x.send(1, 2), -1);
        StairNews y = Due.in("house 3;person 0 1");
        y.send(0, 2);
        y.bell();
        Due.is("in passing", y.send(0, 0), -1);
        y.bell();
        Due.is("there", y.send(0, 0), 2);
    }

    private static void plant() {
        Doc.says("Promise 13", "PLANT: 1 if there is one then, 0 if not");
        StairNews x = Still.rich();
        int[] due = {1, 0, 1, 0, 1};
        for (int f = 0; f < 5; f++) {
            Due.is("plant(" + f + ")", x.plant(f), due[f]);
            Due.is("floor(" + f + ", 1)", x.floor(f, 1), due[f]);
            Due.is("plant(" + f + ") again", x.plant(f), 1 - due[f]);
            Due.is("floor(" + f + ", 1)", x.floor(f, 1), 1 - due[f]);
        }
        Due.is("each is an act", x.count(9), 17);
        Doc.says("Terms", "PLANT (one is put on a landing, or taken away)");
        StairNews two = Due.in("house 2;person 0 1;person 0 1");
        two.whisper(0, 0);
        two.plant(0);
        Due.is("put", two.bell(), 0);
        two.plant(0);
        Due.is("taken away", two.bell(), 1);
        Doc.says("Promise 13", "NONE, and nothing happens, without that FLOOR");
        for (int f : NOWHERE) {
            Still.keeps("plant(" + f + ")", Still::rich, y -> y.plant(f), -1);
        }
        Still.keeps("plant(2) of two floors", () -> Due.in("house 2"), y -> y.plant(2), -1);
        Due.is("plant(8) of nine", Due.in("house 9").plant(8), 1);
        Still.keeps("plant(9) of nine", () -> Due.in("house 9"), y -> y.plant(9), -1);
    }

    private static void heel() {
        Doc.says("Promise 14", "HEEL: BELLS a flight then");
        Doc.says("Terms", "HEEL (a PERSON takes one BELL a flight more, 9 at most, from the next flight on)");
        StairNews x = Due.in("house 9;person 0 1");
        for (int bells = 2; bells <= 9; bells++) {
            Due.is("heel(0)", x.heel(0), bells);
            Due.is("bells a flight", x.person(0, 3), bells);
        }
        Due.is("at 9", x.heel(0), -1);
        Due.is("acts", x.count(9), 8);
        x.send(0, 1);
        Due.is("the next flight", x.person(0, 2), 9);
        StairNews y = Due.in("house 3;person 0 1");
        y.send(0, 2);
        y.heel(0);
        Due.is("the flight that has begun", y.person(0, 2), 1);
        y.bell();
        at("the next one", y, 0, 1, 2, 2);
        Doc.says("Promise 14", "NONE, and nothing happens, without that PERSON, or at 9");
        for (int p : NOBODY) {
            Still.keeps("heel(" + p + ")", Still::rich, z -> z.heel(p), -1);
        }
        Still.keeps("at 9", Still::rich, z -> z.heel(3), -1);
        Due.is("at 8", Due.in("house 2;person 0 8").heel(0), 9);
        Still.keeps("at 9 behind a heel", () -> {
            StairNews z = Due.in("house 2;person 0 8");
            z.heel(0);
            return z;
        }, z -> z.heel(0), -1);
    }

    private static void undoTwenty() {
        Doc.says("Terms", "The last 20 can be UNDONE, the last first");
        for (int acts : new int[] {1, 2, 19, 20, 21, 22, 40, 41}) {
            StairNews x = Due.in(PAIR);
            Due.ring(x, acts);
            int can = Math.min(acts, 20);
            Due.is("of " + acts, x.count(9), can);
            for (int left = can - 1; left >= 0; left--) {
                Due.is("of " + acts + ", undo", x.undo(), left);
                Due.is("of " + acts + ", BELL", x.count(5), acts - can + left);
                Due.is("of " + acts + ", that can be", x.count(9), left);
            }
            Due.is("of " + acts + ", no more", x.undo(), -1);
            Due.is("of " + acts + ", BELL stays", x.count(5), acts - can);
        }
        StairNews y = Due.in(PAIR);
        Due.ring(y, 20);
        Due.is("19 can be", y.undo(), 19);
        y.bell();
        y.bell();
        Due.is("20 at most", y.count(9), 20);
        for (int left = 19; left >= 0; left--) {
            Due.is("undo", y.undo(), left);
        }
        Due.is("BELL", y.count(5), 1);
    }

    private static void undone(String act, Consumer<StairNews> done) {
        Still.sameBehind(act + " undone", Still::rich, x -> {
            done.accept(x);
            Due.is(act, x.count(9), 8);
            Due.is("undo " + act, x.undo(), 7);
        }, x -> { });
    }

    private static void undoLastFirst() {
        Doc.says("Promise 15", "The last ACT is UNDONE: how many more can be");
        undone("bell", StairNews::bell);
        undone("whisper", x -> x.whisper(1, 3));
        undone("send", x -> x.send(1, 0));
        undone("plant", x -> x.plant(2));
        undone("plant taken away", x -> x.plant(3));
        undone("heel", x -> x.heel(2));
        StairNews heard = Due.in("house 2;person 0 1;person 0 1;adds 0 4");
        heard.whisper(0, 1);
        heard.image(0);
        heard.bell();
        heard.image(1);
        heard.undo();
        Due.is("not heard", heard.knows(1, 0), -1);
        Due.is("no chairs", heard.knows(1, 1), 0);
        Due.is("of nobody", heard.knows(1, 2), -1);
        heard.back(1);
        Due.is("heard", heard.knows(1, 0), 0);
        Due.is("chairs", heard.knows(1, 1), 5);
        Due.is("of 0", heard.knows(1, 2), 0);
        heard.back(0);
        Due.is("of nobody", heard.knows(1, 2), -1);
        StairNews x = Still.rich();
        x.force(0);
        x.news(2, 1);
        x.seed(7);
        x.image(1);
        Due.rule(x, "tell 3");
        Due.tape(x, "lit");
        Due.is("none of these is an act", x.count(9), 7);
        for (int left = 6; left >= 0; left--) {
            Due.is("undo", x.undo(), left);
        }
        int[] due = {5, 5, 2, 3, 0, 0, 0, 0, 3, 0, 7, 3, 30};
        for (int what = 0; what < due.length; what++) {
            Due.is("count(" + what + "), all acts undone", x.count(what), due[what]);
        }
        Due.is("the plant of the text", x.floor(1, 1), 1);
        Due.is("not the one of an act", x.floor(3, 1), 0);
        Due.is("bells a flight", x.person(1, 3), 2);
        at("at home", x, 2, 4, 4, 0);
        Due.is("the image stays", x.back(1), 3);
    }

    private static void whatIsAnAct() {
        Doc.says("Terms", "ACTS: a BELL; WHISPER");
        StairNews x = Due.in("house 3;person 0 1;person 0 1");
        x.bell();
        Due.is("a bell", x.count(9), 1);
        x.whisper(0, 0);
        Due.is("a whisper", x.count(9), 2);
        x.send(0, 2);
        Due.is("a send", x.count(9), 3);
        x.plant(0);
        Due.is("a plant", x.count(9), 4);
        x.heel(0);
        Due.is("a heel", x.count(9), 5);
        x.undo();
        Due.is("undoing is none", x.count(9), 4);
        x.force(-1);
        x.news(0, 0);
        x.seed(1);
        x.image(0);
        Due.rule(x, "tell 1");
        x.evenings(1, 1, 0);
        Due.is("nothing else is one", x.count(9), 4);
    }

    private static void undoRefused() {
        Doc.says("Promise 15", "NONE, and nothing happens: none can");
        Still.keeps("without a house", StairNews::new, StairNews::undo, -1);
        Still.keeps("without acts", () -> Due.in(PAIR), StairNews::undo, -1);
        Still.keeps("behind a house", () -> {
            StairNews x = Still.rich();
            x.house();
            return x;
        }, StairNews::undo, -1);
        Still.keeps("behind an image gone back to", () -> {
            StairNews x = Still.rich();
            x.back(2);
            return x;
        }, StairNews::undo, -1);
        Still.keeps("behind all that could be", () -> {
            StairNews x = Due.in(PAIR);
            x.bell();
            x.whisper(0, 1);
            x.undo();
            x.undo();
            return x;
        }, StairNews::undo, -1);
        StairNews y = Due.in(PAIR);
        y.undo();
        y.bell();
        Due.is("then an act", y.undo(), 0);
        Due.is("none more", y.undo(), -1);
    }

    // ---- x, counts and images

    private static void seed() {
        Doc.says("Promise 27", "x becomes a number: what it was");
        StairNews x = new StairNews();
        int was = 0;
        for (int number : new int[] {0, 1, 2, MAX - 1, MAX, 0}) {
            Due.is("seed(" + number + ")", x.seed(number), was);
            Due.is("x", x.count(10), number);
            was = number;
        }
        Doc.says("Promise 27", "NONE, and nothing happens, below 0");
        for (int number : new int[] {-1, -2, MIN, MIN + 1}) {
            Still.keeps("seed(" + number + ")", Still::rich, y -> y.seed(number), -1);
            Still.keeps("seed(" + number + ") of a new one", StairNews::new, y -> y.seed(number), -1);
        }
    }

    private static void count() {
        Doc.says("Promise 29", "What 0: FLOORS, 1: PEOPLE, 2: ERRANDS, 3: RULES, 4: the RULE IN FORCE (NONE), 5: BELL, "
                + "6: who knows, as bits, 7: who walks, as bits, 8: NEWS, 9: ACTS that can be UNDONE, 10: x, 11: bytes of the "
                + "TAPE, 12: the BELL from which on it is night (NONE: never)");
        StairNews x = Still.rich();
        int[] due = {5, 5, 2, 2, 1, 3, 17, 4, 2, 7, 12345, 29, 30};
        for (int what = 0; what < due.length; what++) {
            Due.is("count(" + what + ")", x.count(what), due[what]);
        }
        x.force(-1);
        Due.is("none in force", x.count(4), -1);
        Due.is("never", Due.in("house 2").count(12), -1);
        StairNews all = Due.in("house 2" + Due.times(";person 0 1", 7));
        for (int p = 0; p < 7; p++) {
            all.whisper(p, 0);
            all.send(p, 1);
        }
        Due.is("all know", all.count(6), 127);
        Due.is("all walk", all.count(7), 127);
        Doc.says("Promise 29", "NONE for others");
        for (int what : new int[] {-1, -2, 13, 14, 100, MIN, MAX}) {
            Still.keeps("count(" + what + ")", Still::rich, y -> y.count(what), -1);
            Due.is("count(" + what + ") of a new one", new StairNews().count(what), -1);
        }
    }

    private static void image() {
        Doc.says("Promise 30", "An IMAGE is made: BELL");
        Doc.says("Terms", "IMAGES 0 to 3");
        for (int k = 0; k <= 3; k++) {
            Due.is("image(" + k + ")", Still.rich().image(k), 3);
            Due.is("image(" + k + ") of a new one", new StairNews().image(k), 0);
            int number = k;
            Still.sameBehind("by image(" + k + ") alone nothing else changes", Still::rich, x -> {
                x.image(number);
                x.bell();
                x.undo();
            }, x -> x.image(number));
        }
        StairNews x = Due.in(PAIR);
        for (int k = 0; k <= 3; k++) {
            Due.is("image(" + k + ")", x.image(k), k);
            x.bell();
        }
        for (int k = 3; k >= 0; k--) {
            Due.is("each is its own: back(" + k + ")", x.back(k), k);
        }
        Due.ring(x, 9);
        Due.is("made anew", x.image(0), 9);
        Due.is("another", x.back(1), 1);
        Due.is("the new one", x.back(0), 9);
        Doc.says("Promise 30", "NONE without it");
        for (int k : new int[] {-1, -2, 4, 5, MIN, MAX}) {
            Still.keeps("image(" + k + ")", Still::rich, y -> y.image(k), -1);
            Still.keeps("image(" + k + ") of a new one", StairNews::new, y -> y.image(k), -1);
        }
    }

    private static void changeAll(StairNews x) {
        x.news(-1, 0);
        x.news(2, 2);
        x.news(2, 3);
        x.news(2, 4);
        x.seed(1);
        x.force(0);
        x.whisper(1, 9);
        x.whisper(2, 8);
        x.send(0, 4);
        x.send(3, 1);
        x.plant(0);
        x.plant(1);
        x.heel(0);
        x.heel(2);
        Due.ring(x, 30);
    }

    private static void back() {
        Doc.says("Promise 31", "All is as in an IMAGE: BELL");
        Doc.says("Terms", "all but the TAPE and the RULES, as it is (the RULE IN FORCE, too); gone back to, it is as it was "
                + "(these stay; nothing can be UNDONE then)");
        Still.sameBehind("all changed and gone back", Still::rich, x -> {
            x.image(1);
            changeAll(x);
            Due.is("back(1)", x.back(1), 3);
        }, x -> {
            x.image(1);
            x.back(1);
        });
        Still.sameBehind("another house and gone back", Still::rich, x -> {
            x.image(3);
            Due.house(x, "house 9;person 8 1;person 7 2;deaf 0;night 2;lit 1;plant 5;adds 1 3;bucket 3 4;errand 0 1 1");
            changeAll(x);
            Due.is("back(3)", x.back(3), 3);
        }, x -> {
            x.image(3);
            x.back(3);
            x.end(0);
        });
        StairNews x = Still.rich();
        Due.rule(x, "tell 8");
        x.force(2);
        Due.tape(x, "tell 9");
        Due.is("back(0)", x.back(0), 1);
        int[] due = {5, 5, 2, 3, 1, 1, 17, 4, 0, 0, 0, 6, 30};
        for (int what = 0; what < due.length; what++) {
            Due.is("count(" + what + ")", x.count(what), due[what]);
        }
        Due.is("none can be undone", x.undo(), -1);
        Due.is("the tape stays", x.rule(), 3);
        Due.is("the rules stay", x.force(2), 1);
        x.bell();
        Due.is("an act behind it", x.undo(), 0);
        Due.is("again", x.back(0), 1);
        Due.is("the other", x.back(2), 2);
        Due.is("its news", x.count(8), 2);
        StairNews y = Still.rich();
        y.force(-1);
        y.image(1);
        y.force(0);
        y.back(1);
        Due.is("none was in force", y.count(4), -1);
        StairNews z = new StairNews();
        z.image(0);
        Due.house(z, PAIR);
        z.bell();
        Due.is("back to no house", z.back(0), 0);
        Due.is("no house", z.bell(), -1);
        Due.is("nobody", z.person(0, 0), -1000);
    }

    private static void backRefused() {
        Doc.says("Promise 31", "NONE, and nothing happens, if it was never made, or without it");
        for (int k : new int[] {1, 3, -1, -2, 4, 5, MIN, MAX}) {
            Still.keeps("back(" + k + ")", Still::rich, y -> y.back(k), -1);
        }
        for (int k = -1; k <= 4; k++) {
            int number = k;
            Still.keeps("back(" + k + ") of a new one", StairNews::new, y -> y.back(number), -1);
        }
        StairNews x = Still.rich();
        x.house();
        Due.is("made with another house", x.back(0), 1);
        Due.is("never made", x.back(1), -1);
    }
}

import java.util.function.Supplier;

/**
 * Promises 16 to 26 and 28, and the terms of what is asked: each sentence that names a boundary has a test of its own,
 * just below it, at it and just above it.
 */
public final class EdgeAskTest {
    private static final int MIN = Integer.MIN_VALUE;
    private static final int MAX = Integer.MAX_VALUE;
    private static final int[] NOBODY = {-1, -2, 5, 6, 7, 32, 1000, MIN, MAX};
    private static final int[] NOWHERE = {-1, -2, 5, 6, 9, 32, 1000, MIN, MAX};
    private static final int[] NOT_PLANNED = {-1, 0, 61, 62, 100, MIN, MAX};
    private static final int[] NEITHER = {-1, -2, 2, 3, 32, MIN, MAX};

    public static void main(String[] args) {
        nothingChanges();
        whatOfPlans();
        whatOfStarts();
        aheadNow();
        aheadRefused();
        whereNow();
        whereRefused();
        hearsInTime();
        hearsRefused();
        whomInTime();
        whomFewest();
        whomNone();
        whomRefused();
        newsFull();
        newsChairs();
        newsRefused();
        startsBells();
        startsFirst();
        startsAsTold();
        startsUpToNow();
        startsNone();
        startsRefused();
        lookBest();
        lookNone();
        lookRefused();
        blockInTime();
        blockFull();
        blockRefused();
        silenceInTime();
        silenceSets();
        silenceNone();
        silenceRefused();
        meeting();
        meetingRefused();
        costInTime();
        costAtNine();
        costNobody();
        costRefused();
        draws();
        eveningsByHand();
        eveningsLooked();
        eveningsWithoutPeople();
        eveningsRefused();
        Doc.coversPromises(16, 17, 18, 19, 20, 21, 22, 23, 24, 25, 26, 28);
        Due.finish();
    }

    /** Person 0, who knows, comes to person 1 at that bell, who then hears it; there is a floor above. */
    private static StairNews meetingAt(int bell) {
        StairNews x = Due.in("house 3;person 0 1;person 1 1;errand 0 1 " + bell);
        x.whisper(0, 0);
        return x;
    }

    private static void both(String call, int got0, int got1, int due0, int due1) {
        Due.is(call + ", what 0", got0, due0);
        Due.is(call + ", what 1", got1, due1);
    }

    private static void nothingChanges() {
        Doc.says("Terms", "By what is asked nothing changes");
        Supplier<StairNews> rich = Still::rich;
        Still.leaves("ahead", rich, x -> x.ahead(100));
        Still.leaves("where", rich, x -> x.where(2, 100));
        Still.leaves("hears", rich, x -> x.hears(1));
        Still.leaves("whom", rich, x -> x.whom(4, 60, 2, 1));
        Still.leaves("starts", rich, x -> x.starts(0));
        Still.leaves("look", rich, x -> x.look(0));
        Still.leaves("block", rich, x -> x.block(60, 0));
        Still.leaves("silence", rich, x -> x.silence(1, 60, 1));
        Still.leaves("meeting", rich, x -> x.meeting(0));
        Still.leaves("cost", rich, x -> x.cost(0));
        Still.leaves("evenings", rich, x -> x.evenings(10, 60, 1));
        Still.leaves("count, person, knows, floor", rich, x -> {
            x.count(5);
            x.person(2, 0);
            x.knows(0, 1);
            x.floor(3, 0);
        });
        Still.leaves("all of them", rich, x -> {
            x.evenings(2, 30, 0);
            x.cost(1);
            x.silence(2, 9, 0);
            x.block(1, 1);
            x.look(1);
            x.starts(2);
            x.whom(0, 9, 4, 0);
            x.hears(2);
            x.where(0, 50);
            x.ahead(1);
        });
    }

    // ---- what each what answers: houses in which no two of these are alike

    /** Person 0 goes up from bell 1 on, by 1 and 3 at bell 2, to 2 and 4 at bell 4. */
    private static StairNews passingBy() {
        return Due.in("house 5;person 0 1;person 2 1;person 4 1;person 2 1;person 4 1;errand 0 4 1;adds 0 3;takes 1 1");
    }

    private static void whatOfPlans() {
        Doc.says("Promise 19", "WHOM what 0: how many, 1: the set");
        both("whom(4, 5, 2)", passingBy().whom(4, 5, 2, 0), passingBy().whom(4, 5, 2, 1), 1, 4);
        StairNews x = passingBy();
        x.whisper(0, 10);
        Doc.says("Promise 16", "Who knows n BELLS on, as bits");
        Due.is("ahead(2)", x.ahead(2), 1);
        Due.is("ahead(3)", x.ahead(3), 11);
        Due.is("ahead(5)", x.ahead(5), 31);
        Doc.says("Promise 23", "BLOCK what 0: the FLOOR, 1: how many know then");
        both("block(5)", x.block(5, 0), x.block(5, 1), 2, 3);
        Doc.says("Promise 25", "MEETING what 0: the FLOOR, 1: flights");
        both("meeting", x.meeting(0), x.meeting(1), 2, 6);
        Doc.says("Promise 26", "COST of a HEEL");
        Due.is("bell 8 in place of 4", x.cost(0), 4);
        Doc.says("Promise 24", "SILENCE what 0: how many, 1: the set");
        StairNews carrier = Due.in("house 3;person 0 1;person 0 1;person 2 1;errand 1 2 3");
        carrier.whisper(0, 0);
        both("silence(2, 9)", carrier.silence(2, 9, 0), carrier.silence(2, 9, 1), 1, 2);
        Doc.says("Promise 28", "EVENINGS what 0: who knows, 1: CHAIRS");
        StairNews evening = passingBy();
        evening.whisper(1, 10);
        both("evenings(1, 1)", evening.evenings(1, 1, 0), evening.evenings(1, 1, 1), 10, 19);
    }

    private static void whatOfStarts() {
        Doc.says("Promise 20", "A piece of NEWS");
        StairNews x = passingBy();
        Due.ring(x, 5);
        Due.is("3 knows it of 1", x.news(3, -1), 1);
        Due.is("0 does not know it", x.news(0, -1000), 2);
        // Person 0 has been by at bell 2, so that 1 was told ahead of bell 3 or 4.
        Doc.says("Promise 21", "STARTS what 0: how many, 1: the PERSON, 2: the BELL of the first");
        Due.is("starts(0)", x.starts(0), 2);
        Due.is("starts(1)", x.starts(1), 1);
        Due.is("starts(2)", x.starts(2), 3);
        Doc.says("Promise 22", "LOOK what 0: the PERSON, 1: how many are alike at most");
        both("look", x.look(0), x.look(1), 0, 2);
    }

    // ---- ahead, where, hears

    private static void aheadNow() {
        Doc.says("Terms", "AHEAD n BELLS (0 to 100): PEOPLE who know then, as bits");
        for (int bell : new int[] {0, 1, 50, 98, 99}) {
            StairNews x = meetingAt(bell);
            Due.is("now", x.ahead(0), 1);
            Due.is("up to bell " + bell, x.ahead(bell), 1);
            Due.is("behind bell " + bell, x.ahead(bell + 1), 3);
            Due.is("100 bells on", x.ahead(100), 3);
        }
        StairNews y = meetingAt(99);
        Due.is("99 bells on", y.ahead(99), 1);
        y.bell();
        Due.is("from bell 1 on", y.ahead(99), 3);
        Due.is("from bell 1 on", y.ahead(98), 1);
        Due.is("nobody", Due.in("house 2").ahead(100), 0);
        StairNews all = Due.in("house 2" + Due.times(";person 1 1", 7));
        all.whisper(6, 0);
        Due.is("now", all.ahead(0), 64);
        Due.is("all", all.ahead(1), 127);
    }

    private static void aheadRefused() {
        Doc.says("Promise 16", "NONE without these, or a HOUSE");
        for (int n : new int[] {-1, -2, 101, 102, MIN, MAX}) {
            Still.keeps("ahead(" + n + ")", Still::rich, x -> x.ahead(n), -1);
        }
        for (int n : new int[] {-1, 0, 1, 100, 101}) {
            Still.keeps("ahead(" + n + ") without a house", StairNews::new, x -> x.ahead(n), -1);
        }
    }

    private static void whereNow() {
        Doc.says("Promise 17", "The FLOOR a PERSON is on (or was on last) n BELLS on");
        for (int bell : new int[] {0, 1, 98, 99}) {
            StairNews x = Due.in("house 3;person 2 1;errand 0 0 " + bell);
            Due.is("now", x.where(0, 0), 2);
            Due.is("up to bell " + bell, x.where(0, bell), 2);
            Due.is("behind bell " + bell, x.where(0, bell + 1), 1);
            Due.is("100 bells on", x.where(0, 100), bell == 99 ? 1 : 0);
        }
        StairNews slow = Due.in("house 3;person 0 9");
        slow.send(0, 2);
        int[] bells = {0, 8, 9, 17, 18, 100};
        int[] due = {0, 0, 1, 1, 2, 2};
        for (int i = 0; i < bells.length; i++) {
            Due.is("on the stairs by the landing they were on last, " + bells[i], slow.where(0, bells[i]), due[i]);
        }
    }

    private static void whereRefused() {
        Doc.says("Promise 17", "NONE without these");
        for (int n : new int[] {-1, -2, 101, 102, MIN, MAX}) {
            Still.keeps("where(0, " + n + ")", Still::rich, x -> x.where(0, n), -1);
        }
        for (int p : NOBODY) {
            Still.keeps("where(" + p + ", 0)", Still::rich, x -> x.where(p, 0), -1);
            Due.is("where(" + p + ", 100)", Still.rich().where(p, 100), -1);
        }
        Due.is("the last person", Still.rich().where(4, 100), 0);
        Due.is("without people", Due.in("house 2").where(0, 0), -1);
        Due.is("without a house", new StairNews().where(0, 0), -1);
    }

    private static void hearsInTime() {
        Doc.says("Terms", "HEARS: the BELL at which a PERSON hears it (who knows it: the BELL at which they did)");
        for (int bell : new int[] {0, 1, 98, 99}) {
            Due.is("at bell " + bell, meetingAt(bell).hears(1), bell);
        }
        StairNews x = meetingAt(3);
        Due.is("whispered to at bell 0", x.hears(0), 0);
        Due.ring(x, 200);
        Due.is("heard long ago", x.hears(1), 3);
        Due.is("whispered to long ago", x.hears(0), 0);
        Doc.says("Promise 18", "HEARS; -2: not in 100 BELLS");
        for (int pace = 1; pace <= 9; pace++) {
            StairNews y = Due.in("house 2;person 0 " + pace + ";person 1 1;errand 0 1 96");
            y.whisper(0, 0);
            int bell = 95 + pace;
            Due.is("from bell 0 to " + bell, y.hears(1), bell <= 99 ? bell : -2);
            Due.ring(y, 3);
            Due.is("from bell 3 to " + bell, y.hears(1), bell <= 102 ? bell : -2);
        }
        Doc.says("Terms", "100 are looked at most");
        StairNews far = Due.in("house 2;person 0 1;person 1 1");
        Due.rule(far, "tell 1 if bell >= 100");
        far.force(0);
        far.whisper(0, 0);
        far.send(1, 0);
        Due.is("bell 100 from bell 0 on", far.hears(1), -2);
        Due.is("bell 100 from bell 0 on", far.ahead(100), 1);
        Due.is("bell 100 from bell 0 on", far.cost(0), -1000);
        far.bell();
        Due.is("bell 100 from bell 1 on", far.hears(1), 100);
        Due.is("bell 100 from bell 1 on", far.ahead(99), 1);
        Due.is("bell 100 from bell 1 on", far.ahead(100), 3);
        Due.is("bell 100 from bell 1 on", far.cost(0), 0);
        Doc.says("Promise 18", "HEARS; -2: not in 100 BELLS");
        Due.is("nobody knows", Due.in("house 2;person 0 1").hears(0), -2);
        StairNews deaf = Due.in("house 2;person 0 1;person 0 1;deaf 1");
        deaf.whisper(0, 0);
        Due.is("a deaf one", deaf.hears(1), -2);
    }

    private static void hearsRefused() {
        Doc.says("Promise 18", "NONE without that PERSON");
        for (int p : NOBODY) {
            Still.keeps("hears(" + p + ")", Still::rich, x -> x.hears(p), -1);
        }
        Due.is("a deaf one", Still.rich().hears(3), -2);
        Due.is("the last person", Still.rich().hears(4), 0);
        Due.is("without people", Due.in("house 2").hears(0), -1);
        Due.is("without a house", new StairNews().hears(0), -1);
    }

    // ---- whom

    private static void whom(String when, StairNews x, int a, int n, int b, int size, int set) {
        both(when + ": whom(" + a + ", " + n + ", " + b + ")", x.whom(a, n, b, 0), x.whom(a, n, b, 1), size, set);
    }

    private static void whomInTime() {
        Doc.says("Terms", "n BELLS (1 to 60), another FLOOR b");
        for (int bell : new int[] {0, 1, 58, 59}) {
            StairNews x = Due.in("house 3;person 0 1;person 1 1;errand 0 1 " + bell);
            whom("in time by 0", x, 1, bell + 1, 2, 1, 1);
            if (bell > 0) {
                whom("a bell short, by 1 alone", x, 1, bell, 2, 1, 2);
            }
        }
        StairNews y = Due.in("house 3;person 0 1;person 1 1;errand 0 1 60");
        whom("60 bells", y, 1, 60, 2, 1, 2);
        whom("of others not at b", y, 1, 60, 0, 1, 2);
    }

    private static void whomFewest() {
        Doc.says("Terms", "the fewest PEOPLE not deaf (who do not know) to be WHISPERED to now, so that n BELLS on somebody "
                + "whose home is a knows, and nobody whose home is b; of several sets the least as bits");
        StairNews knows = Due.in("house 3;person 0 1;person 0 1;person 1 1");
        knows.whisper(1, 0);
        whom("none need be", knows, 0, 1, 1, 0, 0);
        whom("of who does not know", knows, 1, 1, 2, 1, 4);
        StairNews several = Due.in("house 3" + Due.times(";person 1 1", 7));
        whom("the least of seven", several, 1, 1, 0, 1, 1);
        StairNews deaf = Due.in("house 3" + Due.times(";person 1 1", 7) + ";deaf 0;deaf 1;deaf 2;deaf 3;deaf 4;deaf 5");
        whom("the last of seven", deaf, 1, 1, 0, 1, 64);
        // Whoever of 0 and 1 is told alone tells the other at once; 2 and 3 tell 0 later, but only if both know.
        StairNews two = Due.in("house 4;person 0 1;person 1 1;person 2 1;person 3 1;errand 0 2 5;errand 3 2 0");
        two.send(1, 0);
        two.send(3, 2);
        Due.rule(two, "tell 1 if [teller < 2 and hearer < 2] or [hearer = 0 and known > 1]");
        two.force(0);
        whom("two", two, 0, 20, 1, 2, 12);
        StairNews least = Due.in("house 4;person 0 1;person 0 1;person 1 1;person 1 1;hates 0 1;deaf 0");
        whom("the less of 4 and 8", least, 1, 9, 0, 1, 4);
    }

    private static void whomNone() {
        Doc.says("Promise 19", "-2: there is none");
        StairNews x = Due.in("house 3;person 0 1;person 1 1;deaf 0");
        whom("nobody's home", x, 2, 60, 1, -2, -2);
        whom("all deaf whose home it is", x, 0, 60, 1, -2, -2);
        whom("without people", Due.in("house 2"), 0, 60, 1, -2, -2);
        StairNews knows = Due.in("house 3;person 0 1;person 1 1");
        knows.whisper(1, 0);
        whom("somebody of b knows", knows, 0, 60, 1, -2, -2);
        StairNews near = Due.in("house 3;person 0 1;person 1 1");
        near.send(1, 0);
        whom("they hear it of each other", near, 0, 1, 1, -2, -2);
    }

    private static void whomRefused() {
        Doc.says("Promise 19", "NONE without these (unlike)");
        for (int f : NOWHERE) {
            Still.keeps("whom(" + f + ", 9, 1, 0)", Still::rich, x -> x.whom(f, 9, 1, 0), -1);
            Still.keeps("whom(1, 9, " + f + ", 0)", Still::rich, x -> x.whom(1, 9, f, 0), -1);
        }
        for (int f = 0; f < 5; f++) {
            Due.is("whom(" + f + ", 9, " + f + ", 0)", Still.rich().whom(f, 9, f, 0), -1);
        }
        for (int n : NOT_PLANNED) {
            Still.keeps("whom(1, " + n + ", 2, 0)", Still::rich, x -> x.whom(1, n, 2, 0), -1);
        }
        for (int what : NEITHER) {
            Still.keeps("whom(1, 9, 2, " + what + ")", Still::rich, x -> x.whom(1, 9, 2, what), -1);
        }
        Due.is("the outermost floors", Still.rich().whom(4, 1, 0, 0), -2);
        Due.is("the outermost floors", Still.rich().whom(0, 1, 4, 0), 0);
        Due.is("without a house", new StairNews().whom(0, 1, 1, 0), -1);
    }

    // ---- news

    private static void newsFull() {
        Doc.says("Terms", "NEWS 0 to 9, told");
        StairNews x = Due.in("house 2;person 0 1;person 1 1");
        for (int i = 1; i <= 10; i++) {
            Due.is("piece " + i, x.news(i % 2, 0), i);
            Due.is("how many", x.count(8), i);
        }
        Doc.says("Promise 20", "-2, and nothing happens, without these, or if there are 10");
        Due.is("an 11th", x.news(0, 0), -2);
        Due.is("ten", x.count(8), 10);
        Supplier<StairNews> ten = () -> {
            StairNews y = Still.rich();
            for (int i = 2; i < 10; i++) {
                y.news(0, 0);
            }
            return y;
        };
        Still.keeps("an 11th that fits", ten, y -> y.news(0, 0), -2);
        Still.keeps("an 11th that does not", ten, y -> y.news(0, 6), -2);
        Due.is("a tenth", nine().news(2, -1000), 10);
        StairNews last = nine();
        last.news(0, 1);
        Due.is("the tenth counts", last.starts(0), 0);
        Doc.says("Promise 20", "person NONE: there is none then, 0");
        Due.is("ten gone", x.news(-1, 0), 0);
        Due.is("none", x.count(8), 0);
        Due.is("none of none", x.news(-1, 0), 0);
        Due.is("a first again", x.news(1, 0), 1);
        for (int chairs : new int[] {-1001, -1000, 999, 1000, MIN, MAX}) {
            StairNews y = Still.rich();
            Due.is("news(NONE, " + chairs + ")", y.news(-1, chairs), 0);
            Due.is("none", y.count(8), 0);
        }
    }

    /** Nine pieces of news that are so, whoever started it. */
    private static StairNews nine() {
        StairNews x = Due.in("house 2;person 0 1;person 0 1;person 1 1");
        x.bell();
        for (int i = 0; i < 9; i++) {
            x.news(2, -1000);
        }
        return x;
    }

    private static void newsChairs() {
        Doc.says("Promise 20", "CHAIRS -999 to 999, -1000: they do not know it");
        int[] chairs = {-1000, -999, -998, -1, 0, 1, 998, 999};
        for (int c : chairs) {
            Due.is("news(1, " + c + ")", Still.rich().news(1, c), 3);
        }
        int[] others = {-1001, -1002, 1000, 1001, MIN, MAX};
        for (int c : others) {
            Still.keeps("news(1, " + c + ")", Still::rich, x -> x.news(1, c), -2);
        }
        Doc.says("Terms", "now a PERSON knows it with so many CHAIRS, or does not know it");
        int[] due = {1, 0, 0, 0, 1, 0, 0, 0};
        for (int i = 0; i < chairs.length; i++) {
            StairNews x = Due.in("house 2;person 0 1;person 1 1");
            x.news(1, chairs[i]);
            Due.is("starts with news(1, " + chairs[i] + ")", x.starts(0), due[i]);
        }
    }

    private static void newsRefused() {
        Doc.says("Promise 20", "-2, and nothing happens, without these");
        for (int p : new int[] {-2, -3, 5, 6, 7, 32, MIN, MAX}) {
            Still.keeps("news(" + p + ", 0)", Still::rich, x -> x.news(p, 0), -2);
        }
        Due.is("the last person", Still.rich().news(4, 0), 3);
        Still.keeps("without people", () -> Due.in("house 2"), x -> x.news(0, 0), -2);
        Still.keeps("without a house", StairNews::new, x -> x.news(0, 0), -2);
        StairNews x = Still.rich();
        x.news(0, 5);
        Due.is("news are no acts", x.count(9), 7);
    }

    // ---- starts and look

    private static void starts(String when, StairNews x, int many, int person, int bell) {
        Due.is(when + ": starts(0)", x.starts(0), many);
        Due.is(when + ": starts(1)", x.starts(1), person);
        Due.is(when + ": starts(2)", x.starts(2), bell);
    }

    private static void startsBells() {
        Doc.says("Terms", "a PERSON not deaf, a BELL from 0 to 40 (not above BELL now), 0 CHAIRS");
        int[] bells = {0, 1, 39, 40, 41, 42, 100, 101, 400};
        int[] due = {2, 4, 80, 82, 82, 82, 82, 82, 82};
        for (int i = 0; i < bells.length; i++) {
            StairNews x = Due.in("house 2;person 0 1;person 0 1;person 1 1;deaf 1");
            Due.ring(x, bells[i]);
            starts("at bell " + bells[i], x, due[i], 0, 0);
        }
        // 0 meets 1 at bell 40 alone, so that of 0 only a start up to bell 40 reaches 1.
        String once = "house 3;person 0 1;person 1 1;errand 1 0 40;errand 1 1 41";
        StairNews y = Due.in(once);
        Due.ring(y, 40);
        y.news(1, -1000);
        starts("at bell 40", y, 41, 0, 0);
        y.bell();
        starts("at bell 41", y, 0, -2, -2);
        y.news(-1, 0);
        y.news(1, 0);
        y.news(0, 0);
        starts("at bell 41", y, 82, 0, 0);
        Doc.says("Terms", "that one was WHISPERED to ahead of that BELL");
        StairNews now = Due.in("house 2;person 0 1;person 0 1");
        starts("ahead of bell 0, none has gone by", now, 2, 0, 0);
        now.news(1, -1000);
        starts("ahead of bell 0, none has gone by", now, 1, 0, 0);
        now.bell();
        starts("ahead of bell 1, which is now", now, 1, 0, 1);
        // At bell 40 they part: a start of 0 at bell 40 comes too late for 1, one at bell 39 does not.
        StairNews z = Due.in("house 3;person 0 1;person 0 1;errand 1 1 40");
        Due.ring(z, 60);
        z.news(1, -1000);
        starts("too late", z, 1, 0, 40);
        z.news(-1, 0);
        z.news(0, 0);
        z.news(1, 0);
        starts("in time", z, 80, 0, 0);
        z.news(-1, 0);
        z.news(0, -1000);
        starts("of 1 too late", z, 1, 1, 40);
    }

    private static void startsFirst() {
        Doc.says("Terms", "how many; the first (by PEOPLE, then BELLS)");
        StairNews x = Due.in("house 3;person 0 1;person 1 1;person 2 1;errand 1 2 3;errand 1 1 4;deaf 0");
        Due.ring(x, 6);
        starts("a deaf one does not start", x, 14, 1, 0);
        x.news(2, -1000);
        starts("behind the only meeting", x, 3, 1, 4);
        x.news(1, -1000);
        starts("none", x, 0, -2, -2);
        x.news(-1, 0);
        x.news(1, -1000);
        starts("of 2", x, 3, 2, 4);
    }

    private static void startsAsTold() {
        Doc.says("Terms", "all as the text told it from BELL 0 on (nothing else was done), and all NEWS are so now");
        StairNews x = Due.in("house 3;person 0 1;person 0 1;person 2 2;plant 1;errand 2 0 4");
        Due.ring(x, 4);
        x.news(1, 0);
        x.news(2, -1000);
        starts("as told", x, 9, 0, 0);
        x.plant(0);
        x.plant(1);
        x.heel(2);
        x.send(0, 2);
        x.send(2, 0);
        x.whisper(2, 44);
        starts("whatever was done", x, 9, 0, 0);
        x.undo();
        starts("or undone", x, 9, 0, 0);
        Due.rule(x, "tell 0");
        x.force(0);
        starts("by the rule in force", x, 5, 1, 0);
        x.force(-1);
        x.image(0);
        x.back(0);
        starts("in an image", x, 9, 0, 0);
        StairNews later = Due.in("house 2;person 0 1;person 1 1;errand 0 1 99");
        later.news(1, -1000);
        Due.ring(later, 99);
        starts("at bell 99", later, 41, 0, 0);
        later.bell();
        starts("at bell 100", later, 0, -2, -2);
    }

    private static void startsUpToNow() {
        Doc.says("Terms", "that one was WHISPERED to ahead of that BELL, all as the text told it from BELL 0 on "
                + "(nothing else was done), and all NEWS are so now");
        // Nobody tells but at one bell: 1 knows it of a start from the bell behind that one on, however late that is.
        for (int told : new int[] {41, 98, 99, 100, 101, 150, 299, 399}) {
            StairNews x = Due.in("house 2;person 0 1;person 0 1;adds 0 3");
            Due.rule(x, "tell 1 if bell = " + told);
            x.force(0);
            x.news(1, 3);
            for (int bell : new int[] {41, 42, 98, 99, 100, 101, 102, 150, 151, 299, 300, 301, 399, 400}) {
                Due.ring(x, bell - x.count(5));
                boolean reached = told < bell;
                String when = "told at bell " + told + ", asked at bell " + bell;
                starts(when, x, reached ? 41 : 0, reached ? 0 : -2, reached ? 0 : -2);
                look(when, x, reached ? 0 : -2, reached ? 41 : -2);
            }
        }
        startsOfLateWalkers();
        startsOfLateRules();
    }

    private static void startsOfLateWalkers() {
        // 0 comes to 1 at bell 99, or a bell later.
        for (int errand = 82; errand <= 83; errand++) {
            StairNews y = Due.in("house 3;person 0 9;person 2 9;errand 0 2 " + errand);
            Due.ring(y, errand + 17);
            Due.is("0 is nearly on floor 2", y.person(0, 0), 1);
            y.news(1, -1000);
            starts("0 is nearly on floor 2", y, 41, 0, 0);
            y.bell();
            Due.is("0 is on floor 2", y.person(0, 0), 2);
            starts("0 is on floor 2", y, 0, -2, -2);
            Due.ring(y, 20);
            starts("0 stays on floor 2", y, 0, -2, -2);
        }
        // The latest that anybody walks by what was told: from the ground to the top at the last bell of errands.
        StairNews top = Due.in("house 9;person 0 9;person 8 1;adds 0 5;errand 0 8 99");
        top.news(1, 5);
        Due.ring(top, 170);
        starts("on the last flight", top, 0, -2, -2);
        look("on the last flight", top, -2, -2);
        top.bell();
        starts("at the top", top, 41, 0, 0);
        look("at the top", top, 0, 41);
        Due.ring(top, 200);
        starts("long at the top", top, 41, 0, 0);
        top.send(0, 0);
        top.plant(8);
        top.heel(0);
        Due.ring(top, 30);
        starts("whatever was done late", top, 41, 0, 0);
        top.image(3);
        Due.house(top, "house 2;person 0 1");
        starts("in a house told anew", top, 1, 0, 0);
        top.back(3);
        starts("gone back to late", top, 41, 0, 0);
    }

    private static void startsOfLateRules() {
        // 1 hears it 200 bells behind the start, so that of 0 a start up to bell 20 is in time for bell 221.
        StairNews x = Due.in("house 2;person 0 1;person 0 1;takes 0 4");
        Due.rule(x, "tell 1 if since = 200");
        x.force(0);
        Due.ring(x, 200);
        x.news(1, -4);
        starts("at bell 200", x, 0, -2, -2);
        x.bell();
        starts("at bell 201", x, 1, 0, 0);
        Due.ring(x, 20);
        starts("at bell 221", x, 21, 0, 0);
        x.news(-1, 0);
        x.news(1, -1000);
        starts("not yet at bell 221", x, 20, 0, 21);
        look("not yet at bell 221", x, 0, 20);
        x.news(-1, 0);
        // By 0 are alike: the 41 of 0, with 21 of 1 that they heard, 62 in all. By 1: their own 41, 21 heard, 20 not.
        look("without news at bell 221", x, 1, 41);
        Due.ring(x, 20);
        x.news(1, -4);
        starts("at bell 241", x, 41, 0, 0);
        look("at bell 241", x, 0, 41);
    }

    private static void startsNone() {
        Doc.says("Promise 21", "(-2: there is none)");
        starts("all deaf", Due.in("house 2;person 0 1;deaf 0"), 0, -2, -2);
        starts("without people", Due.in("house 2"), 0, -2, -2);
        StairNews x = Due.in("house 2;person 0 1;person 1 1");
        x.news(0, 0);
        starts("one", x, 1, 0, 0);
        x.news(1, 0);
        starts("none", x, 0, -2, -2);
        StairNews y = Due.in("house 2;person 0 1");
        y.news(0, 0);
        y.news(0, 0);
        starts("told twice", y, 1, 0, 0);
        y.news(0, 1);
        starts("told otherwise", y, 0, -2, -2);
    }

    private static void startsRefused() {
        Doc.says("Promise 21", "NONE for others, or without a HOUSE");
        for (int what : new int[] {-1, -2, 3, 4, 32, MIN, MAX}) {
            Still.keeps("starts(" + what + ")", Still::rich, x -> x.starts(what), -1);
        }
        for (int what = -1; what <= 3; what++) {
            Due.is("starts(" + what + ") without a house", new StairNews().starts(what), -1);
        }
    }

    private static void look(String when, StairNews x, int person, int alike) {
        both(when + ": look", x.look(0), x.look(1), person, alike);
    }

    private static void lookBest() {
        Doc.says("Terms", "LOOK: the PERSON by what they know now (CHAIRS, or nothing) these part best: the most alike are "
                + "fewest; of several the least");
        look("one start", Due.in("house 2;person 0 1"), 0, 1);
        look("two starts", Due.in("house 2;person 0 1;person 1 1"), 0, 1);
        look("three starts", Due.in("house 2;person 0 1;person 1 1;person 1 1"), 0, 2);
        StairNews x = Due.in("house 2;person 0 1;person 0 1;person 0 1;adds 1 1;adds 2 2");
        x.bell();
        look("by chairs: of six starts two by two", x, 0, 2);
        StairNews deaf = Due.in("house 2;person 0 1;person 1 1;deaf 0");
        Due.ring(deaf, 3);
        look("all alike", deaf, 0, 4);
        StairNews last = Due.in("house 2;person 0 1;person 0 1;person 0 1;deaf 0;adds 1 9");
        last.bell();
        look("the deaf one parts none, 1 three and one, 2 two and two singly", last, 2, 2);
        StairNews full = Due.in("house 2" + Due.times(";person 0 1", 7));
        Due.ring(full, 60);
        look("the most starts, all alike", full, 0, 287);
        // It goes from each to the next, and 0 started it: 6 knows it with the most chairs there can be, or the fewest.
        for (String word : new String[] {"adds", "takes"}) {
            for (int bells = 6; bells <= 12; bells += 6) {
                StringBuilder text = new StringBuilder("house 2" + Due.times(";person 0 1", 7));
                for (int p = 0; p < 7; p++) {
                    text.append(';').append(word).append(' ').append(p).append(" 9");
                }
                StairNews chain = Due.in(text.toString());
                Due.rule(chain, "tell 1 if hearer = teller + 1");
                chain.force(0);
                Due.ring(chain, bells);
                chain.news(0, 0);
                look(word + " at bell " + bells, chain, bells == 6 ? 3 : 6, bells == 6 ? 4 : 7);
                chain.news(6, word.equals("adds") ? 54 : -54);
                int many = bells - 5;
                starts(word + " at bell " + bells, chain, many, 0, 0);
                look(word + " at bell " + bells, chain, 0, many);
            }
        }
        Doc.says("Terms", "BELLS go on by the RULE IN FORCE");
        StairNews ruled = Due.in("house 2;person 0 1;person 0 1");
        Due.rule(ruled, "tell 0");
        Due.ring(ruled, 1);
        look("without a rule", ruled, 0, 3);
        ruled.force(0);
        look("by a rule", ruled, 0, 2);
        ruled.force(-1);
        look("without a rule again", ruled, 0, 3);
    }

    private static void lookNone() {
        Doc.says("Promise 22", "-2: there is none, or nobody");
        look("nobody", Due.in("house 2"), -2, -2);
        look("all deaf", Due.in("house 2;person 0 1;person 1 1;deaf 0;deaf 1"), -2, -2);
        StairNews x = Due.in("house 2;person 0 1;person 1 1");
        x.news(0, 0);
        look("one", x, 0, 1);
        x.news(0, 1);
        look("none", x, -2, -2);
        x.news(-1, 0);
        look("two", x, 0, 1);
    }

    private static void lookRefused() {
        Doc.says("Promise 22", "NONE for others, or without a HOUSE");
        for (int what : NEITHER) {
            Still.keeps("look(" + what + ")", Still::rich, x -> x.look(what), -1);
        }
        for (int what = -1; what <= 2; what++) {
            Due.is("look(" + what + ") without a house", new StairNews().look(what), -1);
        }
    }

    // ---- block

    private static void block(String when, StairNews x, int n, int floor, int know) {
        both(when + ": block(" + n + ")", x.block(n, 0), x.block(n, 1), floor, know);
    }

    private static void blockInTime() {
        Doc.says("Terms", "BLOCK for n BELLS (1 to 60): the FLOOR where a plant (one more; where there is none) keeps most "
                + "from knowing n BELLS on: fewest know then; of several the least FLOOR; how many");
        for (int bell : new int[] {0, 1, 58, 59}) {
            StairNews x = meetingAt(bell);
            block("the meeting counts", x, bell + 1, 1, 1);
            if (bell > 0) {
                block("not yet", x, bell, 0, 1);
            }
        }
        block("60 bells", meetingAt(60), 60, 0, 1);
        block("nobody knows", Due.in("house 2;person 0 1;person 0 1"), 60, 0, 0);
        block("without people", Due.in("house 2"), 60, 0, 0);
        StairNews top = Due.in("house 9;person 8 1;person 8 1;person 0 1;person 0 1;person 0 1;person 1 1;person 1 1");
        top.whisper(0, 0);
        block("the top", top, 1, 8, 1);
        StairNews two = Due.in("house 9;person 8 1;person 8 1;person 3 1;person 3 1;person 2 1");
        two.whisper(0, 0);
        two.whisper(2, 0);
        block("of several the least", two, 1, 3, 3);
    }

    private static void blockFull() {
        Doc.says("Promise 23", "-2: there are plants on all");
        StairNews x = Due.in("house 9;person 8 1;person 8 1");
        x.whisper(0, 0);
        for (int f = 0; f < 9; f++) {
            block("with " + f + " plants", x, 60, 8, 1);
            x.plant(f);
        }
        block("on all", x, 60, -2, -2);
        block("on all", x, 1, -2, -2);
        x.plant(4);
        block("but one", x, 60, 4, 1);
        block("told so", Due.in("house 2;plant 0;plant 1"), 1, -2, -2);
        block("told so but one", Due.in("house 2;plant 0"), 1, 1, 0);
    }

    private static void blockRefused() {
        Doc.says("Promise 23", "NONE without these, or a HOUSE");
        for (int n : NOT_PLANNED) {
            Still.keeps("block(" + n + ", 0)", Still::rich, x -> x.block(n, 0), -1);
            Due.is("block(" + n + ", 1)", Still.rich().block(n, 1), -1);
        }
        for (int what : NEITHER) {
            Still.keeps("block(1, " + what + ")", Still::rich, x -> x.block(1, what), -1);
        }
        Due.is("with plants on all", Due.in("house 2;plant 0;plant 1").block(61, 0), -1);
        Due.is("with plants on all", Due.in("house 2;plant 0;plant 1").block(60, 2), -1);
        Due.is("without a house", new StairNews().block(1, 0), -1);
    }

    // ---- silence

    private static void silence(String when, StairNews x, int person, int n, int size, int set) {
        both(when + ": silence(" + person + ", " + n + ")", x.silence(person, n, 0), x.silence(person, n, 1), size, set);
    }

    /** Of 0, who knows, 2 hears it at once, and brings it to 1 at that bell. */
    private static StairNews carried(int bell) {
        StairNews x = Due.in("house 3;person 0 1;person 1 1;person 0 1;errand 2 1 " + bell);
        x.whisper(0, 0);
        return x;
    }

    private static void silenceInTime() {
        Doc.says("Terms", "SILENCE of a PERSON for n BELLS: the fewest others who do not know, that are made deaf now, so that "
                + "the PERSON does not know n BELLS on");
        for (int bell : new int[] {1, 2, 58, 59}) {
            StairNews x = carried(bell);
            silence("in time", x, 1, bell + 1, 1, 4);
            silence("not yet", x, 1, bell, 0, 0);
        }
        silence("60 bells", carried(60), 1, 60, 0, 0);
        StairNews first = Due.in("house 3;person 0 1;person 1 1;person 0 1;errand 0 1 1");
        first.whisper(2, 0);
        silence("by 0", first, 1, 2, 1, 1);
        silence("not yet", first, 1, 1, 0, 0);
        silence("one bell", carried(9), 1, 1, 0, 0);
        silence("one bell", carried(9), 2, 1, -2, -2);
    }

    private static void silenceSets() {
        Doc.says("Terms", "of several sets the least as bits");
        StairNews chain = Due.in("house 3;person 0 1;person 0 1;person 1 1;person 2 1;errand 1 1 1;errand 2 2 3");
        chain.whisper(0, 0);
        silence("one of two", chain, 3, 60, 1, 2);
        StringBuilder text = new StringBuilder("house 3;person 0 1");
        for (int p = 1; p <= 5; p++) {
            text.append(";person 0 1;errand ").append(p).append(" 2 ").append(p);
        }
        StairNews five = Due.in(text + ";person 2 1");
        five.whisper(0, 0);
        int[] set = {0, 0, 2, 6, 14, 30, 62, 62};
        for (int bells = 1; bells <= 8; bells++) {
            int due = bells < 3 ? 0 : set[Math.min(7, bells - 1)];
            silence("of five", five, 6, bells, Integer.bitCount(due), due);
        }
        StairNews deaf = Due.in(text + ";person 2 1;deaf 1;deaf 5");
        deaf.whisper(0, 0);
        silence("two are deaf", deaf, 6, 60, 3, 28);
        StairNews nobody = Due.in("house 2;person 0 1;person 0 1");
        silence("nobody knows", nobody, 0, 60, 0, 0);
    }

    private static void silenceNone() {
        Doc.says("Promise 24", "-2: there is none");
        StairNews x = Due.in("house 2;person 0 1;person 0 1;person 0 1;deaf 2");
        x.whisper(0, 0);
        silence("who knows", x, 0, 1, -2, -2);
        silence("who hears it of one who knows", x, 1, 1, -2, -2);
        silence("a deaf one", x, 2, 60, 0, 0);
        StairNews bucket = Due.in("house 2;person 0 1;person 1 1;bucket 0 1");
        bucket.whisper(0, 0);
        silence("by the bucket", bucket, 1, 1, -2, -2);
    }

    private static void silenceRefused() {
        Doc.says("Promise 24", "NONE without these");
        for (int p : NOBODY) {
            Still.keeps("silence(" + p + ", 1, 0)", Still::rich, x -> x.silence(p, 1, 0), -1);
        }
        for (int n : NOT_PLANNED) {
            Still.keeps("silence(0, " + n + ", 0)", Still::rich, x -> x.silence(0, n, 0), -1);
        }
        for (int what : NEITHER) {
            Still.keeps("silence(0, 1, " + what + ")", Still::rich, x -> x.silence(0, 1, what), -1);
        }
        Due.is("a deaf one", Still.rich().silence(3, 60, 0), 0);
        Due.is("the last person", Still.rich().silence(4, 60, 0), -2);
        Due.is("without people", Due.in("house 2").silence(0, 1, 0), -1);
        Due.is("without a house", new StairNews().silence(0, 1, 0), -1);
    }

    // ---- meeting

    private static void meeting(String text, int floor, int flights) {
        StairNews x = Due.in(text);
        both(text, x.meeting(0), x.meeting(1), floor, flights);
    }

    private static void meeting() {
        Doc.says("Terms", "MEETING: the FLOOR to which it is fewest flights for all together (by the landings they were on "
                + "last), of several the least; how many");
        meeting("house 2", 0, 0);
        meeting("house 9;person 0 1", 0, 0);
        meeting("house 9;person 8 1", 8, 0);
        meeting("house 9;person 8 1;person 0 1", 0, 8);
        meeting("house 9;person 8 1;person 7 1", 7, 1);
        meeting("house 9;person 1 1", 1, 0);
        meeting("house 2;person 1 1", 1, 0);
        meeting("house 2;person 1 1;person 0 1", 0, 1);
        meeting("house 9;person 8 1;person 0 1;person 8 1", 8, 8);
        meeting("house 9;person 8 1;person 0 1;person 5 1", 5, 8);
        meeting("house 9" + Due.times(";person 8 1", 7), 8, 0);
        meeting("house 9" + Due.times(";person 8 1", 4) + Due.times(";person 0 1", 3), 8, 24);
        meeting("house 9" + Due.times(";person 8 1", 3) + Due.times(";person 0 1", 3), 0, 24);
        StairNews x = Due.in("house 9;person 0 2;person 8 1;person 8 1;deaf 2");
        x.send(1, 0);
        x.send(2, 0);
        both("sent", x.meeting(0), x.meeting(1), 8, 8);
        x.bell();
        both("a landing on", x.meeting(0), x.meeting(1), 7, 7);
        x.send(0, 8);
        x.bell();
        both("on the stairs by the landing they were on last", x.meeting(0), x.meeting(1), 6, 6);
    }

    private static void meetingRefused() {
        Doc.says("Promise 25", "NONE for others, or without a HOUSE");
        for (int what : NEITHER) {
            Still.keeps("meeting(" + what + ")", Still::rich, x -> x.meeting(what), -1);
        }
        for (int what = -1; what <= 2; what++) {
            Due.is("meeting(" + what + ") without a house", new StairNews().meeting(what), -1);
        }
    }

    // ---- cost

    private static void costInTime() {
        Doc.says("Terms", "COST of a HEEL: by how many BELLS later the last one of all who hear it in 100 BELLS would hear it, "
                + "if that PERSON had a HEEL now (less than 0: earlier)");
        for (int bell : new int[] {0, 1, 50, 97, 98}) {
            Due.is("one later, at bell " + bell, meetingAt(bell).cost(0), 1);
            Due.is("the other's heel, at bell " + bell, meetingAt(bell).cost(1), 0);
        }
        StairNews other = Due.in("house 3;person 0 1;person 1 1;errand 1 0 7");
        other.whisper(1, 0);
        Due.is("0 hears it", other.cost(1), 1);
        StairNews later = meetingAt(99);
        Due.is("with a heel it is behind 100 bells", later.cost(0), -1000);
        later.bell();
        Due.is("from bell 1 on it is not", later.cost(0), 1);
        StairNews three = Due.in("house 4;person 0 1;person 3 1;errand 0 3 5");
        three.whisper(0, 0);
        Due.is("three flights", three.cost(0), 3);
        StairNews passing = Due.in("house 4;person 0 1;person 3 1");
        passing.whisper(0, 0);
        passing.send(0, 3);
        Due.is("two flights more, since one has begun", passing.cost(0), 2);
        StairNews none = Due.in("house 3;person 0 1;person 0 1;person 2 1;errand 2 0 8");
        none.whisper(0, 0);
        Due.is("whose flights bring it nowhere", none.cost(1), 0);
        StairNews earlier = Due.in("house 3;person 0 1;person 1 1;person 0 1;errand 0 1 4;errand 1 2 5");
        earlier.whisper(0, 0);
        Due.is("1 hears it at bell 4, or never: then 2's bell 0 is the last", earlier.cost(0), -4);
    }

    private static void costAtNine() {
        Doc.says("Promise 26", "-1000 without that PERSON, at 9");
        for (int pace = 1; pace <= 9; pace++) {
            StairNews x = Due.in("house 2;person 0 " + pace + ";person 1 1;errand 0 1 3");
            x.whisper(0, 0);
            Due.is("at " + pace, x.cost(0), pace < 9 ? 1 : -1000);
        }
        StairNews y = Due.in("house 2;person 0 8;person 1 1;errand 0 1 3");
        y.whisper(0, 0);
        Due.is("heel", y.heel(0), 9);
        Due.is("at 9 by a heel", y.cost(0), -1000);
        y.undo();
        Due.is("undone", y.cost(0), 1);
    }

    private static void costNobody() {
        Doc.says("Promise 26", "or if nobody hears it in one of both");
        Due.is("nobody knows", Due.in("house 2;person 0 1;person 0 1").cost(0), -1000);
        StairNews alone = Due.in("house 2;person 0 1");
        alone.whisper(0, 0);
        Due.is("nobody else is there", alone.cost(0), -1000);
        StairNews only = Due.in("house 3;person 0 1;person 1 1;errand 0 1 4;errand 1 2 5");
        only.whisper(0, 0);
        Due.is("nobody with a heel", only.cost(0), -1000);
        Due.is("of the other it costs nothing", only.cost(1), 0);
        StairNews without = Due.in("house 3;person 0 1;person 1 1;errand 0 1 4;errand 1 2 4;errand 1 1 5;errand 0 0 5");
        without.whisper(0, 0);
        Due.is("nobody without a heel", without.cost(0), -1000);
        Due.ring(only, 6);
        Due.is("all have heard it", only.cost(0), -1000);
    }

    private static void costRefused() {
        Doc.says("Promise 26", "-1000 without that PERSON");
        for (int p : NOBODY) {
            Still.keeps("cost(" + p + ")", Still::rich, x -> x.cost(p), -1000);
        }
        Still.keeps("at 9", Still::rich, x -> x.cost(3), -1000);
        Due.is("without people", Due.in("house 2").cost(0), -1000);
        Due.is("without a house", new StairNews().cost(0), -1000);
    }

    // ---- draws and evenings

    private static void draws() {
        Doc.says("Terms", "DRAWS: x (0 to 2147483647; 0 at first) becomes x * 1103515245 + 12345, of 2147483648 the rest; a "
                + "DRAW is x / 65536");
        Due.is("0 at first", new StairNews().count(10), 0);
        // Person p lives on floor p, and 0 knows: who is sent where shows in who knows, if it is 0, or if it is to 0.
        String text = "house 9;person 0 1;person 1 1;person 2 1;person 3 1;person 4 1;person 5 1;person 6 1";
        int seen = 0;
        for (int x : new int[] {0, 1, 2, 65535, 65536, 1 << 30, MAX - 1, MAX, 1103515245, 12345, 777, 31337, 271828, 314159}) {
            StairNews y = Due.in(text);
            y.whisper(0, 0);
            y.seed(x);
            Draws draws = new Draws(x);
            int person = draws.next() % 7;
            int floor = draws.next() % 9;
            int due = person == 0 ? (1 << Math.min(6, floor) + 1) - 1 : floor == 0 ? 1 | 1 << person : 1;
            seen += due == 1 ? 0 : 1;
            Due.is("x " + x + ": " + person + " to " + floor, y.evenings(1, 60, 0), due);
            Due.is("x as it was", y.count(10), x);
        }
        Due.is("some of these show", seen > 0, true);
    }

    private static void byHand(String when, Supplier<StairNews> made, int x, int m, int n) {
        StairNews asked = made.get();
        asked.seed(x);
        StairNews done = made.get();
        Draws draws = new Draws(x);
        int people = done.count(1);
        int floors = done.count(0);
        int left = 100;
        for (int i = 0; i < m; i++) {
            int person = draws.next() % people;
            done.send(person, draws.next() % floors);
            Due.ring(done, Math.min(n, left));
            left -= Math.min(n, left);
        }
        int chairs = 0;
        for (int p = 0; p < people; p++) {
            chairs += done.knows(p, 1);
        }
        both(when + ", x " + x + ": evenings(" + m + ", " + n + ")", asked.evenings(m, n, 0), asked.evenings(m, n, 1),
                done.count(6), chairs);
        Due.is("x as it was", asked.count(10), x);
        Due.is("nothing stays", asked.count(5), made.get().count(5));
    }

    private static void eveningsByHand() {
        Doc.says("Terms", "EVENINGS m times (1 to 10) n BELLS (1 to 60) from now on: ahead of each a DRAW mod PEOPLE, a DRAW "
                + "mod FLOORS: that one is SENT there, if they stand, and are not there: who knows at the end; CHAIRS of "
                + "these, all together");
        Supplier<StairNews> seven = () -> {
            StairNews x = Due.in("house 6;person 0 1;person 1 2;person 2 3;person 3 1;person 4 2;person 5 9;person 5 1;"
                    + "takes 0 1;adds 1 2;takes 3 7;errand 6 1 30;deaf 5;night 80;lit 3");
            x.whisper(0, 3);
            return x;
        };
        int[][] sizes = {{1, 1}, {1, 2}, {2, 1}, {9, 1}, {10, 1}, {10, 2}, {10, 40}, {1, 59}, {1, 60}, {6, 60}, {7, 5}};
        for (int[] size : sizes) {
            for (int x : new int[] {0, 1, 4711, 1 << 30, MAX - 1, MAX}) {
                byHand("seven", seven, x, size[0], size[1]);
                byHand("rich", Still::rich, x, Math.min(size[0], 5), size[1]);
            }
        }
        StairNews all = seven.get();
        Due.is("the most evenings", all.evenings(10, 60, 0) >= 1, true);
    }

    private static void eveningsLooked() {
        Doc.says("Terms", "100 are looked at most");
        int[][] sizes = {{1, 60}, {9, 11}, {3, 33}, {10, 10}, {5, 20}, {4, 25}, {2, 50}, {10, 11}, {3, 34}, {2, 51}, {2, 60},
            {5, 40}, {10, 60}};
        for (int[] size : sizes) {
            for (int from : new int[] {0, 1, 7}) {
                for (int bell = 97; bell <= 102; bell++) {
                    eveningsToldAt(size[0], size[1], from, bell);
                }
            }
        }
        eveningsToldAt(10, 60, 0, 150);
        eveningsToldAt(10, 60, 0, 599);
        eveningsToldAt(2, 60, 400, 98);
        eveningsToldAt(2, 60, 400, 99);
        eveningsToldAt(2, 60, 400, 100);
    }

    /** Two who are on one landing, of whom 1 hears it of 0 but at one bell, so many behind the one it is. */
    private static void eveningsToldAt(int m, int n, int from, int bell) {
        Supplier<StairNews> two = () -> {
            StairNews x = Due.in("house 2;person 0 1;person 0 1;adds 0 5");
            Due.rule(x, "tell 1 if bell = " + (from + bell));
            x.force(0);
            Due.ring(x, from);
            x.whisper(0, 1);
            return x;
        };
        StairNews asked = two.get();
        int x = xThatUnites(bell / n);
        asked.seed(x);
        boolean heard = bell < Math.min(100, m * n);
        String when = "told " + bell + " bells on, from bell " + from + ": evenings(" + m + ", " + n + ")";
        both(when, asked.evenings(m, n, 0), asked.evenings(m, n, 1), heard ? 3 : 1, heard ? 7 : 1);
        byHand(when, two, x, m, n);
        byHand(when, two, x + 1, m, n);
    }

    /** An x whose draws leave two people of a house of two floors on one landing in that evening. */
    private static int xThatUnites(int evening) {
        for (int x = 0; x < 1000; x++) {
            Draws draws = new Draws(x);
            int[] at = {0, 0};
            for (int i = 0; i <= evening; i++) {
                int person = draws.next() % 2;
                at[person] = draws.next() % 2;
            }
            if (at[0] == at[1]) {
                return x;
            }
        }
        return 0;
    }

    private static void eveningsWithoutPeople() {
        Doc.says("Terms", "without PEOPLE nothing is drawn; nothing stays; x as it was");
        StairNews x = Due.in("house 2");
        x.seed(99);
        both("without people", x.evenings(10, 60, 0), x.evenings(10, 60, 1), 0, 0);
        both("without people", x.evenings(1, 1, 0), x.evenings(1, 1, 1), 0, 0);
        Due.is("x as it was", x.count(10), 99);
        Due.is("nothing stays", x.count(5), 0);
        StairNews one = Due.in("house 2;person 0 1;takes 0 9");
        both("nobody knows", one.evenings(10, 60, 0), one.evenings(10, 60, 1), 0, 0);
        one.whisper(0, 99);
        both("one knows", one.evenings(10, 60, 0), one.evenings(10, 60, 1), 1, 99);
        Still.leaves("evenings without people", () -> Due.in("house 2"), y -> y.evenings(1, 1, 0));
    }

    private static void eveningsRefused() {
        Doc.says("Promise 28", "-1000000 without these, or a HOUSE");
        for (int m : new int[] {-1, 0, 11, 12, 60, MIN, MAX}) {
            Still.keeps("evenings(" + m + ", 1, 0)", Still::rich, x -> x.evenings(m, 1, 0), -1000000);
        }
        for (int n : NOT_PLANNED) {
            Still.keeps("evenings(1, " + n + ", 0)", Still::rich, x -> x.evenings(1, n, 0), -1000000);
        }
        for (int what : NEITHER) {
            Still.keeps("evenings(1, 1, " + what + ")", Still::rich, x -> x.evenings(1, 1, what), -1000000);
        }
        Due.is("refused without people, too", Due.in("house 2").evenings(11, 1, 0), -1000000);
        Due.is("refused without people, too", Due.in("house 2").evenings(1, 61, 0), -1000000);
        Due.is("refused without people, too", Due.in("house 2").evenings(1, 1, 2), -1000000);
        for (int what = -1; what <= 2; what++) {
            Due.is("evenings(1, 1, " + what + ") without a house", new StairNews().evenings(1, 1, what), -1000000);
        }
    }
}

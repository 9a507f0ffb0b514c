/**
 * Promises 2 to 6, and the terms of both languages: each sentence that names a boundary has a test of its own, just
 * below it, at it and just above it.
 */
public final class EdgeTextTest {
    private static final int MIN = Integer.MIN_VALUE;
    private static final int MAX = Integer.MAX_VALUE;
    private static final String TWO = "house 3;person 0 1;person 1 1";

    public static void main(String[] args) {
        feedOrder();
        feedFull();
        endAlone();
        endRefused();
        houseEmptiesTape();
        houseInPlace();
        houseLeavesNothingOver();
        houseFaultStays();
        textLength();
        houseClauses();
        houseFloors();
        houseFirstAndOnce();
        personNumbers();
        errandNumbers();
        hatesNumbers();
        deafNumbers();
        addsAndTakes();
        plantNumbers();
        nightNumbers();
        litNumbers();
        bucketNumbers();
        amounts();
        ruleNumber();
        ruleFaultTakesNoNumber();
        ruleSeventh();
        ruleClauses();
        ruleDigits();
        ruleLetters();
        ruleGrammar();
        blanks();
        everyByte();
        depth();
        values();
        valuesOfEachRule();
        facts();
        faultOfSign();
        faultOfNumber();
        faultOfClause();
        faultFirst();
        faultLeast();
        force();
        Doc.coversPromises(2, 3, 4, 5, 6);
        Due.finish();
    }

    // ---- the tape

    private static StairNews taped(int bytes) {
        StairNews x = new StairNews();
        Due.tape(x, "house 2;person 1 9" + Due.times(" ", Math.max(0, bytes - 18)));
        x.end(bytes);
        return x;
    }

    private static int feedBlanks(StairNews x) {
        return x.feed(0x20202020, 0x20202020, 0x20202020, 0x20202020, 0x20202020);
    }

    private static int feedNoise(StairNews x) {
        return x.feed(-1, 0, MIN, MAX, 1);
    }

    private static void feedOrder() {
        Doc.says("Promise 2", "Twenty bytes come behind the TAPE, of each number the highest first: how many it has");
        StairNews x = new StairNews();
        Due.is("the first twenty", x.feed(0x686F7573, 0x6520323B, 0x70657273, 0x6F6E2031, 0x20392020), 20);
        Due.is("read in that order", x.house(), 1);
        Due.is("home", x.person(0, 4), 1);
        Due.is("bells a flight", x.person(0, 3), 9);
        Due.is("behind an empty tape", feedBlanks(x), 20);
        Due.is("behind twenty", feedBlanks(x), 40);
        x.end(33);
        Due.is("behind 33", feedBlanks(x), 53);
        for (int high : new int[] {0x80, 0xE1, 0xFF}) {
            StairNews y = new StairNews();
            y.feed(0x686F7573, 0x65203200 | high, 0, 0, 0);
            y.end(8);
            Due.is("a byte " + high, y.house(), Due.fault(7, 0));
        }
        StairNews z = new StairNews();
        z.feed(0xE86F7573, 0x65203220, 0, 0, 0);
        z.end(8);
        Due.is("a highest bit is of its byte alone", z.house(), Due.fault(0, 0));
    }

    private static void feedFull() {
        Doc.says("Promise 2", "NONE, and none comes, if it would have more than 400");
        Due.is("at 379", feedNoise(taped(379)), 399);
        Due.is("at 380", feedNoise(taped(380)), 400);
        for (int bytes : new int[] {381, 382, 399, 400}) {
            Still.keeps("at " + bytes, () -> taped(bytes), EdgeTextTest::feedNoise, -1);
            StairNews x = taped(bytes);
            feedNoise(x);
            Due.is("how many at " + bytes, x.count(11), bytes);
            Due.is("none more at " + bytes, x.end(bytes + 1), -1);
            Due.is("none is another at " + bytes, x.house(), 1);
        }
        StairNews y = new StairNews();
        for (int i = 1; i <= 20; i++) {
            Due.is("feed", feedBlanks(y), 20 * i);
        }
        Due.is("a 21st", feedBlanks(y), -1);
        Due.is("cut to 381", y.end(381), 381);
        Due.is("a 21st", feedBlanks(y), -1);
        Due.is("cut to 380", y.end(380), 380);
        Due.is("now it comes", feedBlanks(y), 400);
    }

    private static void endAlone() {
        Doc.says("Promise 3", "The TAPE has its first n bytes alone: n");
        Due.is("all", taped(40).end(40), 40);
        Due.is("but one", taped(40).end(39), 39);
        Due.is("none", taped(40).end(0), 0);
        Due.is("none of none", new StairNews().end(0), 0);
        Due.is("400", taped(400).end(400), 400);
        StairNews x = taped(40);
        x.end(17);
        Due.is("the number is gone", x.house(), Due.fault(17, 0));
        StairNews y = taped(40);
        y.end(7);
        Due.is("the first seven", y.house(), 0);
        StairNews z = taped(40);
        z.end(7);
        z.feed(0x3B70656F, 0, 0, 0, 0);
        Due.is("behind them others come", z.house(), Due.fault(8, 0));
    }

    private static void endRefused() {
        Doc.says("Promise 3", "NONE, and nothing happens, if it has not so many, or n is below 0");
        for (int n : new int[] {-1, -2, MIN, 41, 42, 400, 401, MAX}) {
            Still.keeps("end(" + n + ") of 40", () -> taped(40), x -> x.end(n), -1);
        }
        for (int n : new int[] {-1, 1, 20, MIN, MAX}) {
            Still.keeps("end(" + n + ") of none", StairNews::new, x -> x.end(n), -1);
        }
        Still.keeps("end(401) of 400", () -> taped(400), x -> x.end(401), -1);
        StairNews x = taped(40);
        x.end(39);
        Due.is("what was cut does not come back", x.end(40), -1);
        Due.is("it has", x.count(11), 39);
    }

    // ---- a house in place of another

    private static void houseEmptiesTape() {
        Doc.says("Promise 4", "The TAPE, which is empty then, is the HOUSE");
        StairNews x = taped(400);
        Due.is("house", x.house(), 1);
        Due.is("empty", x.count(11), 0);
        Due.is("no byte", x.end(1), -1);
        Due.is("of the empty tape", x.house(), Due.fault(0, 0));
        Due.is("room for 400", feedBlanks(x), 20);
        Due.tape(x, "house 10");
        Due.is("with a fault", x.house(), Due.fault(6, 1));
        Due.is("empty too", x.count(11), 0);
        Due.is("no byte", x.end(1), -1);
        Due.is("twenty", feedBlanks(x), 20);
    }

    private static void houseInPlace() {
        Doc.says("Promise 4", "in place of the one there was (BELL 0, no NEWS, nothing to be UNDONE; the RULE IN FORCE "
                + "and x stay): how many PEOPLE");
        StairNews x = Still.rich();
        Due.is("people of the tape's", x.house(), 2);
        int[] due = {2, 2, 0, 2, 1, 0, 0, 0, 0, 0, 12345, 0, -1};
        for (int what = 0; what < due.length; what++) {
            Due.is("count(" + what + ")", x.count(what), due[what]);
        }
        Due.is("undo", x.undo(), -1);
        for (int p = 0; p < 2; p++) {
            Due.is("nobody knows", x.knows(p, 0), -1);
            Due.is("no chairs", x.knows(p, 1), 0);
            Due.is("of nobody", x.knows(p, 2), -1);
            Due.is("at home", x.person(p, 0), p);
            Due.is("stands", x.person(p, 1), p);
            Due.is("no flight", x.person(p, 2), 0);
            Due.is("no hatred", x.person(p, 5), 0);
            Due.is("not deaf", x.person(p, 6), 0);
            Due.is("adds nothing", x.person(p, 7), 0);
            Due.is("no plant", x.floor(p, 1), 0);
            Due.is("not lit", x.floor(p, 2), 0);
        }
        Due.is("no third", x.person(2, 0), -1000);
        Due.is("images stay", x.back(2), 2);
        Due.is("the house of the image", x.count(0), 5);
        Due.is("without people", Due.house(x, "house 2"), 0);
        Due.is("no first", x.person(0, 0), -1000);
        Due.is("seven people", Due.house(x, "house 2" + Due.times(";person 0 1", 7)), 7);
    }

    private static void houseLeavesNothingOver() {
        Doc.says("Promise 4", "is the HOUSE in place of the one there was");
        String full = "house 3" + Due.times(";person 1 2", 7) + Due.times(";errand 0 2 0", 10) + Due.times(";hates 5 6", 6)
                + ";deaf 0;adds 1 9;takes 2 9;plant 1;night 1;lit 1;bucket 1 0";
        String bare = "house 3" + Due.times(";person 1 2", 7);
        StairNews x = Due.in(full);
        Due.is("as full once more", Due.house(x, full), 7);
        Due.is("a fault of one as full", Due.house(x, full + ";bucket 0 1"), Due.fault(full.length() + 1, 4));
        Due.is("as full behind a fault", Due.house(x, full), 7);
        x.whisper(1, 3);
        x.send(2, 2);
        Due.ring(x, 1);
        Due.is("one walks", x.person(0, 2), 1);
        Due.is("another walks", x.person(2, 2), 1);
        x.plant(2);
        x.heel(3);
        Due.is("a bare one", Due.house(x, bare), 7);
        Still.alike("as in a new object", x, Due.in(bare));
        StairNews told = Due.in("house 3;person 0 1;person 0 1");
        told.whisper(0, 7);
        told.bell();
        Due.is("heard of 0", told.knows(1, 2), 0);
        Due.house(told, "house 3;person 0 1;person 0 1");
        Due.is("of nobody", told.knows(1, 2), -1);
        Due.is("not at all", told.knows(1, 0), -1);
        Due.is("no chairs", told.knows(0, 1), 0);
    }

    private static void houseFaultStays() {
        Doc.says("Promise 4", "-2 - its FAULT, and all stays");
        String[] texts = {"", "house 1", "house 3;person 0 1;person", "house 3;person 2 2;errand 0 1 100",
            "house 3;person 0 1;deaf 0;plant 1;night 3;lit 2;adds 0 1;bucket 0 1;bucket 1 0"};
        int[] faults = {Due.fault(0, 0), Due.fault(6, 1), Due.fault(25, 0), Due.fault(30, 1), Due.fault(68, 4)};
        for (int i = 0; i < texts.length; i++) {
            String text = texts[i];
            StairNews x = Still.rich();
            Due.is("house '" + text + "'", Due.house(x, text), faults[i]);
            StairNews y = Still.rich();
            y.end(0);
            Still.alike("behind '" + text + "' all but the tape", x, y);
        }
        StairNews x = new StairNews();
        Due.is("without one", Due.house(x, "house 3;person 0 1;person 0"), Due.fault(27, 0));
        Due.is("none still", x.bell(), -1);
        Due.is("no floors", x.count(0), 0);
        Due.is("no people", x.count(1), 0);
    }

    // ---- the language of houses

    private static void fine(String text, int people) {
        StairNews x = new StairNews();
        Due.is("house '" + text + "'", Due.house(x, text), people);
        Due.is("a house stands", x.bell(), 0);
    }

    private static void fault(String text, int place, int kind) {
        StairNews x = new StairNews();
        Due.is("house '" + text + "'", Due.house(x, text), Due.fault(place, kind));
        Due.is("no house stands", x.bell(), -1);
    }

    private static String padded(String text, int length) {
        return text + Due.times(" ", length - text.length());
    }

    private static void textLength() {
        Doc.says("Terms", "A HOUSE is a text of at most 400 bytes");
        fine(padded("house 2", 399), 0);
        fine(padded("house 2", 400), 0);
        fine(Due.times(" ", 393) + "house 2", 0);
        fine(Due.times(" ", 382) + "house 2;person 1 1", 1);
        fault(Due.times(" ", 400), 400, 0);
        fault(Due.times(" ", 399), 399, 0);
        fault(Due.times(" ", 395) + "house", 400, 0);
        fault(Due.times(" ", 399) + "x", 399, 0);
        fault(Due.times("a", 400), 0, 0);
        fault("house " + Due.times("2", 394), 6, 1);
        Due.is("a rule of 400", Due.rule(new StairNews(), padded("tell 1", 400)), 0);
        Due.is("a rule of 400", Due.rule(new StairNews(), Due.times(" ", 394) + "tell 1"), 0);
        Due.is("at the end", Due.rule(new StairNews(), Due.times(" ", 396) + "tell"), Due.fault(400, 0));
        Due.is("at the end", Due.rule(new StairNews(), Due.times(" ", 399) + "%"), Due.fault(399, 0));
    }

    private static void houseClauses() {
        Doc.says("Terms", "CLAUSE { ; CLAUSE }, 40 at most");
        fault("", 0, 0);
        fine("house 2", 0);
        fine("house 2;lit 0", 0);
        fault("house 2;", 8, 0);
        fault("house 2;;lit 0", 8, 0);
        fault(";house 2", 0, 0);
        String fewer = "house 2" + Due.times(";lit 0", 38);
        fine(fewer, 0);
        fine(fewer + ";lit 1", 0);
        Due.is("the 40th counts", Due.in(fewer + ";lit 1").floor(1, 2), 1);
        fault(fewer + ";lit 1;lit 0", fewer.length() + 7, 4);
        fault(fewer + ";lit 1;  lit 0", fewer.length() + 9, 4);
        fault(fewer + ";lit 1;", fewer.length() + 7, 0);
        fault(fewer + ";lit 2;lit 0", fewer.length() + 5, 1);
    }

    private static void houseFloors() {
        Doc.says("Terms", "house NUMBER (FLOORS, 2 to 9");
        fault("house 0", 6, 1);
        fault("house 1", 6, 1);
        for (int floors = 2; floors <= 9; floors++) {
            fine("house " + floors, 0);
            StairNews x = Due.in("house " + floors);
            Due.is("floors", x.count(0), floors);
            Due.is("the top", x.floor(floors - 1, 0), 0);
            Due.is("above it", x.floor(floors, 0), -1);
        }
        fault("house 10", 6, 1);
        fault("house 11", 6, 1);
        fault("house 99999", 6, 1);
        fault("house 65538", 6, 1);
        fine("house 00009", 0);
        fault("house 00010", 6, 1);
    }

    private static void houseFirstAndOnce() {
        Doc.says("Terms", "once, the first CLAUSE");
        fault("house 2;house 2", 8, 4);
        fault("house 2; house", 9, 4);
        fault("house 2;lit 0;house 3;lit 9", 14, 4);
        String[] others = {"person 0 1", "errand 0 0 0", "hates 0 1", "deaf 0", "adds 0 1", "takes 0 1", "plant 0",
            "night 0", "lit 0", "bucket 0 1"};
        for (String other : others) {
            fault(other + ";house 2", 0, 4);
            fault("  " + other.substring(0, other.indexOf(' ')), 2, 4);
        }
    }

    private static void personNumbers() {
        Doc.says("Terms", "person NUMBER NUMBER (a FLOOR, their home; BELLS a flight, 1 to 9)");
        fine("house 2;person 0 1", 1);
        fine("house 2;person 1 1", 1);
        fault("house 2;person 2 1", 15, 1);
        fault("house 2;person 9 1", 15, 1);
        fine("house 9;person 8 1", 1);
        fault("house 9;person 9 1", 15, 1);
        fault("house 9;person 10 1", 15, 1);
        fault("house 9;person 0 0", 17, 1);
        for (int bells = 1; bells <= 9; bells++) {
            StairNews x = Due.in("house 9;person 8 " + bells);
            Due.is("bells a flight", x.person(0, 3), bells);
            Due.is("home", x.person(0, 4), 8);
        }
        fault("house 9;person 0 10", 17, 1);
        fault("house 9;person 0 99999", 17, 1);
        fault("house 9;person 0 000001", 17, 1);
        fault("house 9;person 0", 16, 0);
        fault("house 9;person", 14, 0);
        fault("house 9;person 0 1 1", 19, 0);
        fault("house 9;person 10", 15, 1);
    }

    private static void errandNumbers() {
        Doc.says("Terms", "errand NUMBER NUMBER NUMBER (a PERSON that was told, a FLOOR, a BELL 0 to 99)");
        fault("house 3;errand 0 0 0;person 0 1", 15, 1);
        fine(TWO + ";errand 0 0 0", 2);
        fine(TWO + ";errand 1 2 99", 2);
        fault(TWO + ";errand 2 0 0", TWO.length() + 8, 1);
        fault(TWO + ";errand 2 0 0;person 0 1", TWO.length() + 8, 1);
        fault(TWO + ";errand 7 0 0", TWO.length() + 8, 1);
        fault(TWO + ";errand 1 3 0", TWO.length() + 10, 1);
        fault(TWO + ";errand 1 2 100", TWO.length() + 12, 1);
        fault(TWO + ";errand 1 2 99999", TWO.length() + 12, 1);
        fault(TWO + ";errand 1 2", TWO.length() + 11, 0);
        fault(TWO + ";errand 1 2 1 1", TWO.length() + 14, 0);
        StairNews x = Due.in(TWO + ";errand 0 2 0;errand 1 2 1");
        Due.is("errands", x.count(2), 2);
        Due.is("not ahead of the first bell", x.count(7), 0);
        x.bell();
        Due.is("at bell 0", x.person(0, 0), 1);
        Due.is("not yet", x.person(1, 0), 1);
        x.bell();
        Due.is("at bell 1", x.person(1, 0), 2);
        StairNews y = Due.in(TWO + ";errand 1 2 99");
        Due.ring(y, 99);
        Due.is("behind bell 98", y.person(1, 0), 1);
        y.bell();
        Due.is("behind bell 99", y.person(1, 0), 2);
    }

    private static void hatesNumbers() {
        Doc.says("Terms", "hates NUMBER NUMBER (two PEOPLE that were told)");
        fine(TWO + ";hates 0 1", 2);
        fine(TWO + ";hates 1 0", 2);
        fault(TWO + ";hates 0 2", TWO.length() + 9, 1);
        fault(TWO + ";hates 2 0", TWO.length() + 7, 1);
        fault(TWO + ";hates 0 2;person 0 1", TWO.length() + 9, 1);
        fault("house 2;hates 0 1", 14, 1);
        fault("house 2;person 0 1;hates 0 1", 27, 1);
        fault(TWO + ";hates 0", TWO.length() + 8, 0);
        Doc.says("Terms", "of hates and of bucket the second one, if it is the first");
        fault(TWO + ";hates 0 0", TWO.length() + 9, 1);
        fault(TWO + ";hates 1 1", TWO.length() + 9, 1);
        fault(TWO + ";hates 1 00001", TWO.length() + 9, 1);
        fault(TWO + ";hates 2 2", TWO.length() + 7, 1);
        fault(TWO + ";bucket 0 0", TWO.length() + 10, 1);
        fault(TWO + ";bucket 2 2", TWO.length() + 10, 1);
        fault(TWO + ";bucket 3 3", TWO.length() + 8, 1);
    }

    private static void deafNumbers() {
        Doc.says("Terms", "deaf NUMBER (a PERSON that was told)");
        fault("house 2;deaf 0", 13, 1);
        fine("house 2;person 0 1;deaf 0", 1);
        fault("house 2;person 0 1;deaf 1", 24, 1);
        fine(TWO + ";deaf 1;deaf 1", 2);
        fault(TWO + ";deaf 2;person 0 1", TWO.length() + 6, 1);
        StairNews x = Due.in(TWO + ";deaf 1;deaf 1");
        Due.is("told twice", x.person(1, 6), 1);
        Due.is("not told", x.person(0, 6), 0);
    }

    private static void addsAndTakes() {
        Doc.says("Terms", "adds NUMBER NUMBER (a PERSON that was told; CHAIRS 1 to 9, that they add to what they tell");
        Doc.says("Terms", "takes NUMBER NUMBER (likewise, CHAIRS that they take from it)");
        for (String word : new String[] {"adds", "takes"}) {
            int at = TWO.length() + word.length() + 2;
            fault("house 2;" + word + " 0 1", 9 + word.length(), 1);
            fault(TWO + ";" + word + " 2 1", at, 1);
            fault(TWO + ";" + word + " 1 0", at + 2, 1);
            for (int chairs = 1; chairs <= 9; chairs++) {
                StairNews x = Due.in(TWO + ";" + word + " 1 " + chairs);
                Due.is(word, x.person(1, 7), word.equals("adds") ? chairs : -chairs);
                Due.is("not of the other", x.person(0, 7), 0);
            }
            fault(TWO + ";" + word + " 1 10", at + 2, 1);
            fault(TWO + ";" + word + " 1", at + 1, 0);
        }
        Doc.says("Terms", "of one the last of adds and takes, 0 without");
        Due.is("without", Due.in(TWO).person(0, 7), 0);
        Due.is("adds, adds", Due.in(TWO + ";adds 0 9;adds 0 1").person(0, 7), 1);
        Due.is("takes, takes", Due.in(TWO + ";takes 0 1;takes 0 9").person(0, 7), -9);
        Due.is("adds, takes", Due.in(TWO + ";adds 0 4;takes 0 3").person(0, 7), -3);
        Due.is("takes, adds", Due.in(TWO + ";takes 0 3;adds 0 4").person(0, 7), 4);
        Due.is("another's", Due.in(TWO + ";takes 0 3;adds 1 4").person(0, 7), -3);
    }

    private static void plantNumbers() {
        Doc.says("Terms", "plant NUMBER (a FLOOR)");
        StairNews x = Due.in("house 3;plant 0;plant 2");
        int[] due = {1, 0, 1, -1};
        for (int floor = 0; floor < due.length; floor++) {
            Due.is("floor " + floor, x.floor(floor, 1), due[floor]);
        }
        fault("house 3;plant 3", 14, 1);
        fault("house 3;plant 9", 14, 1);
        Due.is("told twice", Due.in("house 3;plant 1;plant 1").floor(1, 1), 1);
        Due.is("taken away at once", Due.in("house 3;plant 1;plant 1").plant(1), 0);
    }

    private static void nightNumbers() {
        Doc.says("Terms", "night NUMBER (from that BELL on, 0 to 99, it is night; once at most, it never is without)");
        Due.is("0", Due.in("house 2;night 0").count(12), 0);
        Due.is("1", Due.in("house 2;night 1").count(12), 1);
        Due.is("99", Due.in("house 2;night 99").count(12), 99);
        Due.is("without", Due.in("house 2").count(12), -1);
        fault("house 2;night 100", 14, 1);
        fault("house 2;night 99999", 14, 1);
        fault("house 2;night 0;night 0", 16, 4);
        fault("house 2;night 99;lit 0;night 98", 23, 4);
        fault("house 2;night 0;night", 16, 4);
        int[] nights = {0, 1, 2, 3};
        for (int night : nights) {
            StairNews x = Due.in("house 2;person 0 1;person 0 1;night " + night);
            x.bell();
            x.bell();
            x.whisper(0, 0);
            Due.is("night " + night + " at bell 2", x.bell(), night <= 2 ? 0 : 1);
        }
        StairNews late = Due.in("house 2;person 0 1;person 0 1;night 99");
        Due.ring(late, 98);
        late.whisper(0, 0);
        Due.is("night 99 at bell 98", late.ahead(1), 3);
        StairNews last = Due.in("house 2;person 0 1;person 0 1;night 99");
        Due.ring(last, 99);
        last.whisper(0, 0);
        Due.is("night 99 at bell 99", last.ahead(1), 1);
        Due.is("for good", last.ahead(100), 1);
        StairNews never = Due.in("house 2;person 0 1;person 0 1");
        Due.ring(never, 300);
        never.whisper(0, 0);
        Due.is("never without", never.bell(), 1);
    }

    private static void litNumbers() {
        Doc.says("Terms", "lit NUMBER (a FLOOR that is lit by night)");
        StairNews x = Due.in("house 3;lit 2;lit 0;lit 2");
        int[] due = {1, 0, 1, -1};
        for (int floor = 0; floor < due.length; floor++) {
            Due.is("floor " + floor, x.floor(floor, 2), due[floor]);
        }
        fault("house 3;lit 3", 12, 1);
        fault("house 3;lit", 11, 0);
    }

    private static void bucketNumbers() {
        Doc.says("Terms", "bucket NUMBER NUMBER (from a FLOOR to another one; once at most)");
        fine("house 3;bucket 0 2", 0);
        fine("house 3;bucket 2 0", 0);
        fault("house 3;bucket 3 0", 15, 1);
        fault("house 3;bucket 0 3", 17, 1);
        fault("house 3;bucket 1 1", 17, 1);
        fault("house 3;bucket 0 1;bucket 0 1", 19, 4);
        fault("house 3;bucket 0 1;lit 0;bucket", 25, 4);
        fault("house 3;bucket 1", 16, 0);
    }

    private static void amounts() {
        Doc.says("Terms", "PEOPLE 0 to 6, ERRANDS 0 to 9, HATES 0 to 5, in the order told");
        String people = "house 9" + Due.times(";person 0 1", 5) + ";person 5 2";
        Due.is("six people", Due.in(people).count(1), 6);
        String seven = people + ";person 6 3";
        Due.is("seven people", Due.in(seven).count(1), 7);
        Due.is("the sixth", Due.in(seven).person(5, 4), 5);
        Due.is("the seventh", Due.in(seven).person(6, 4), 6);
        fault(seven + ";person 6 3", seven.length() + 1, 4);
        fault(seven + ";person", seven.length() + 1, 4);
        fine(seven + ";deaf 6;adds 6 1;errand 6 0 0;hates 5 6", 7);
        fault(seven + ";deaf 7", seven.length() + 6, 1);
        String errands = "house 3;person 0 1" + Due.times(";errand 0 1 9", 8) + ";errand 0 1 8";
        Due.is("nine errands", Due.in(errands).count(2), 9);
        String ten = errands + ";errand 0 2 8";
        Due.is("ten errands", Due.in(ten).count(2), 10);
        Due.is("the tenth counts, the last told", Due.in(ten).where(0, 10), 2);
        fault(ten + ";errand 0 2 8", ten.length() + 1, 4);
        fault(ten + ";errand", ten.length() + 1, 4);
        String hates = TWO + ";person 1 1" + Due.times(";hates 0 1", 5);
        Due.is("five hates", Due.in(hates).person(2, 5), 0);
        String six = hates + ";hates 2 1";
        Due.is("the sixth counts", Due.in(six).person(2, 5), 2);
        fault(six + ";hates 0 1", six.length() + 1, 4);
        fault(six + ";hates", six.length() + 1, 4);
        Due.is("none", Due.in("house 2").count(1), 0);
        Due.is("no errands", Due.in(TWO).count(2), 0);
    }

    // ---- rules

    private static StairNews withRules(int rules) {
        StairNews x = Still.rich();
        for (int i = 2; i < rules; i++) {
            Due.rule(x, "tell 1 if bell < " + i);
        }
        return x;
    }

    private static void ruleNumber() {
        Doc.says("Promise 5", "The TAPE, which is empty then, is a RULE: its number");
        StairNews x = new StairNews();
        for (int i = 0; i < 6; i++) {
            Due.is("rule", Due.rule(x, "tell " + i), i);
            Due.is("empty then", x.count(11), 0);
            Due.is("rules", x.count(3), i + 1);
        }
        Due.is("none is in force by that", x.count(4), -1);
    }

    private static void ruleFaultTakesNoNumber() {
        Doc.says("Promise 5", "-2 - its FAULT");
        StairNews x = Still.rich();
        Due.is("of the tape", x.rule(), Due.fault(0, 0));
        Due.is("empty then", x.count(11), 0);
        Due.is("rules", x.count(3), 2);
        Due.is("of the empty tape", x.rule(), Due.fault(0, 0));
        Due.is("no third", x.force(2), -2);
        Due.is("the third", Due.rule(x, "tell 0"), 2);
        Due.is("now", x.force(2), 1);
        StairNews y = withRules(5);
        Due.is("a fault of the sixth", Due.rule(y, "tell 1;tell"), Due.fault(11, 0));
        Due.is("five", y.count(3), 5);
        Due.is("the sixth", Due.rule(y, "tell 1"), 5);
        for (String text : new String[] {"tell 0", "tell 0 if 1=1", "tell 1 if 1=2", "tell 1 if 1=2;tell 0;tell 1"}) {
            StairNews w = Due.in("house 2;person 0 1;person 0 1");
            Due.is("a fault behind clauses that would tell", Due.rule(w, "tell 1;tell 1;tell 1;tell x"), Due.fault(26, 0));
            Due.is("in its place '" + text + "'", Due.rule(w, text), 0);
            w.force(0);
            w.whisper(0, 0);
            Due.is("nothing is left of it by '" + text + "'", w.ahead(100), 1);
        }
        Still.sameBehind("a fault changes but the tape", Still::rich, z -> Due.rule(z, "tell 5 if bell"), z -> z.end(0));
    }

    private static void ruleSeventh() {
        Doc.says("Promise 5", "NONE, and nothing happens: there are 6");
        StairNews five = withRules(5);
        Due.is("with five", Due.rule(five, "tell 9"), 5);
        for (String text : new String[] {"tell 1", "tell", "", "house 2;person 1 1"}) {
            Still.keeps("with six", () -> {
                StairNews x = withRules(6);
                Due.tape(x, text);
                return x;
            }, StairNews::rule, -1);
        }
        StairNews x = withRules(6);
        Due.tape(x, "house 4;person 3 1");
        Due.is("a seventh", x.rule(), -1);
        Due.is("the tape stays", x.count(11), 18);
        Due.is("six", x.count(3), 6);
        Due.is("no seventh", x.force(6), -2);
        Due.is("the tape's house", x.house(), 1);
        Due.is("again", Due.rule(x, "tell 1"), -1);
    }

    private static void rule(String text) {
        Due.is("rule '" + text + "'", Due.rule(new StairNews(), text), 0);
    }

    private static void ruleFault(String text, int place, int kind) {
        StairNews x = new StairNews();
        Due.is("rule '" + text + "'", Due.rule(x, text), Due.fault(place, kind));
        Due.is("no rule of '" + text + "'", x.count(3), 0);
    }

    private static void ruleClauses() {
        Doc.says("Terms", "RULES 0 to 5: texts likewise, 12 CLAUSES at most");
        String eleven = "tell 1" + Due.times(";tell 1", 10);
        rule(eleven);
        rule(eleven + ";tell 1");
        ruleFault(eleven + ";tell 1;tell 1", eleven.length() + 8, 4);
        ruleFault(eleven + ";tell 1; tell", eleven.length() + 9, 4);
        ruleFault(eleven + ";tell 1;", eleven.length() + 8, 0);
        ruleFault("", 0, 0);
        ruleFault("tell 1;;tell 1", 7, 0);
        ruleFault(";tell 1", 0, 0);
        StairNews x = Due.in("house 2;person 0 1;person 0 1");
        Due.rule(x, "tell 0 if 1=2" + Due.times(";tell 0 if 1=2", 10) + ";tell 1");
        x.force(0);
        x.whisper(0, 0);
        Due.is("the twelfth counts", x.bell(), 1);
    }

    private static void ruleDigits() {
        Doc.says("Terms", "NUMBER (1 to 5 digits, as far as digits go on)");
        for (int digits = 1; digits <= 5; digits++) {
            rule("tell " + Due.times("9", digits));
            rule("tell " + Due.times("0", digits));
        }
        ruleFault("tell 999999", 5, 1);
        ruleFault("tell 000000", 5, 1);
        ruleFault("tell 1 if 1=100000", 12, 1);
        ruleFault("tell " + Due.times("9", 395), 5, 1);
        ruleFault("tell 1 2", 7, 0);
        ruleFault("tell 12345 6", 11, 0);
        fine("house 2;person 00001 00009", 1);
        fault("house 2;person 1 000009", 17, 1);
        fault("house 2;person 1 000000", 17, 1);
        StairNews x = Due.in("house 2;person 0 1;person 0 1");
        Due.rule(x, "tell 1 if 99999 - 99998 = 1 and 00010 = 10 and 99999 / 10 = 9999 and 90000 > 9999");
        x.force(0);
        x.whisper(0, 0);
        Due.is("five digits are read whole", x.ahead(1), 3);
    }

    private static void ruleLetters() {
        Doc.says("Terms", "WORDS (small letters, as far as these go on)");
        String[] words = {"teller", "hearer", "floor", "bell", "chairs", "since", "home", "there", "known", "night",
            "twist"};
        for (String word : words) {
            rule("tell " + word);
            rule("tell 1 if " + word + "=" + word);
            ruleFault("tell " + word.substring(0, word.length() - 1), 5, 0);
            ruleFault("tell " + word + "s", 5, 0);
            ruleFault("tell " + word + word, 5, 0);
            ruleFault("tell " + word.toUpperCase(), 5, 0);
            ruleFault("tell " + word + "_", 5 + word.length(), 0);
            rule("tell 3*" + word + "%7");
        }
        for (String letter : new String[] {"a", "z"}) {
            ruleFault("tell" + letter + " 1", 0, 0);
            ruleFault("tell bell" + letter, 5, 0);
            ruleFault(letter + "tell 1", 0, 0);
            fault("house" + letter + " 2", 0, 0);
            fault("house 2;lit" + letter + " 0", 8, 0);
            fault(letter + "house 2", 0, 0);
        }
        for (char sign : new char[] {'`', '{', '@', '['}) {
            ruleFault("tell" + sign + "1", 4, 0);
            ruleFault("tell bell" + sign, 9, 0);
            fault("house" + sign + "2", 5, 0);
        }
        ruleFault("tellbell", 0, 0);
        ruleFault("tel bell", 0, 0);
        ruleFault("tell bellif 1=1", 5, 0);
        ruleFault("tell bell if 1=1and1=1andbell=1", 22, 0);
        rule("tell bell if 1=1and 1=1or 1=1and not bell=1");
        ruleFault("tell bell ifbell=1", 10, 0);
        ruleFault("tell bell if notbell=1", 13, 0);
        fault("hous 2", 0, 0);
        fault("houses 2", 0, 0);
        fault("house 2;plan 1", 8, 0);
        fault("house 2;plants 1", 8, 0);
        fault("house 2;Plant 1", 8, 0);
        fault("house 2;pLant 1", 8, 0);
    }

    private static void ruleGrammar() {
        Doc.says("Terms", "tell SUM [ if TEST ]. TEST: PART { or PART }. PART: FACT { and FACT }");
        rule("tell 1");
        rule("tell 1 if 1<1");
        ruleFault("tell", 4, 0);
        ruleFault("tell if 1<1", 5, 0);
        ruleFault("tell 1 if", 9, 0);
        ruleFault("tell 1 if 1<1 or", 16, 0);
        ruleFault("tell 1 if 1<1 and", 17, 0);
        ruleFault("tell 1 if or 1<1", 10, 0);
        ruleFault("tell 1 if and 1<1", 10, 0);
        ruleFault("tell 1 if 1<1 if 1<1", 14, 0);
        ruleFault("tell 1 if 1<1 1<1", 14, 0);
        Doc.says("Terms", "FACT: not FACT | [ TEST ] (these brackets are signs) | SUM SIGN SUM, SIGN one of < <= = >= >");
        for (String sign : new String[] {"<", "<=", "=", ">=", ">"}) {
            rule("tell 1 if 1" + sign + "1");
            rule("tell 1 if 1 " + sign + " 1");
            ruleFault("tell 1 if 1" + sign, 11 + sign.length(), 0);
            ruleFault("tell 1 if " + sign + "1", 10, 0);
        }
        ruleFault("tell 1 if 1=>1", 12, 0);
        ruleFault("tell 1 if 1<>1", 12, 0);
        ruleFault("tell 1 if 1<==1", 13, 0);
        ruleFault("tell 1 if 1< =1", 13, 0);
        ruleFault("tell 1 if 1!1", 11, 0);
        ruleFault("tell 1 if 1", 11, 0);
        ruleFault("tell 1 if []", 11, 0);
        ruleFault("tell 1 if [1=1", 14, 0);
        ruleFault("tell 1 if 1=1]", 13, 0);
        ruleFault("tell 1 if [1=1]]", 15, 0);
        ruleFault("tell 1 if not", 13, 0);
        ruleFault("tell [1]", 5, 0);
        ruleFault("tell 1 if [1]=1", 12, 0);
        ruleFault("tell 1 if (1=1)", 10, 0);
        Doc.says("Terms", "SUM: TERM { (+ or -) TERM }. TERM: VALUE { (* or / or %) VALUE }");
        for (String sign : new String[] {"+", "-", "*", "/", "%"}) {
            rule("tell 1" + sign + "1");
            ruleFault("tell 1" + sign, 7, 0);
            ruleFault("tell " + sign + "1", 5, 0);
            ruleFault("tell 1" + sign + sign + "1", 7, 0);
        }
        ruleFault("tell 1&1", 6, 0);
    }

    private static void blanks() {
        Doc.says("Terms", "Blanks (32) stand between as one likes");
        rule("tell1if[not 1<=1]and bell>0;tell0");
        rule("   tell   1   if   [   not   1   <=   1   ]   and   bell   >   0   ;   tell   0   ");
        fine("house2;person0 1;person1 1;hates0 1", 2);
        fine("   house   2   ;   person   0   1   ;   lit   0   ", 1);
        for (int other : new int[] {0, 9, 10, 13, 31, 33, 160, 255}) {
            fault("house" + (char) other + "2", 5, 0);
            fault("house 2" + (char) other, 7, 0);
            ruleFault("tell" + (char) other + "1", 4, 0);
            ruleFault("tell 1" + (char) other, 6, 0);
        }
        ruleFault("tell 1 if 1 > =1", 14, 0);
        ruleFault("te ll 1", 0, 0);
        fault("ho use 2", 0, 0);
        fault("house 2;person 0 1;adds 0 1 0", 28, 0);
    }

    private static void everyByte() {
        Doc.says("Terms", "0 a byte or WORD that can't stand there, or the end (behind the last byte)");
        for (int b = 0; b < 256; b++) {
            char sign = (char) b;
            boolean digit = b >= '0' && b <= '9';
            boolean joins = "+-*/%".indexOf(sign) >= 0;
            Due.is("house, then byte " + b, Due.house(new StairNews(), "house 2" + sign),
                    b == ' ' ? 0 : b == ';' ? Due.fault(8, 0) : digit ? Due.fault(6, 1) : Due.fault(7, 0));
            Due.is("byte " + b + ", then house", Due.house(new StairNews(), sign + "house 2"),
                    b == ' ' ? 0 : Due.fault(0, 0));
            Due.is("house, byte " + b + ", number", Due.house(new StairNews(), "house" + sign + "2"),
                    b == ' ' || b == '0' ? 0 : digit ? Due.fault(5, 1) : b >= 'a' && b <= 'z' ? Due.fault(0, 0)
                    : Due.fault(5, 0));
            Due.is("tell, then byte " + b, Due.rule(new StairNews(), "tell 1" + sign),
                    b == ' ' || digit ? 0 : b == ';' || joins ? Due.fault(7, 0) : Due.fault(6, 0));
            Due.is("a fact with byte " + b, Due.rule(new StairNews(), "tell 1 if 1" + sign + "1"),
                    b == '<' || b == '=' || b == '>' ? 0 : joins || digit ? Due.fault(13, 0)
                    : b == ' ' ? Due.fault(12, 0) : Due.fault(11, 0));
            Due.is("a FACT of byte " + b, Due.rule(new StairNews(), "tell 1 if " + sign + "1=1"),
                    b == ' ' || digit ? 0 : b == '[' ? Due.fault(14, 0) : Due.fault(10, 0));
        }
    }

    private static void depth() {
        Doc.says("Terms", "[ and not lie within one another 10 deep at most");
        Doc.says("Terms", "2 too deep (at the sign that opens, or the word not)");
        for (int deep = 0; deep <= 10; deep++) {
            rule("tell 1 if " + Due.times("[", deep) + "1=1" + Due.times("]", deep));
            rule("tell 1 if " + Due.times("not ", deep) + "1=1");
        }
        for (int deep = 11; deep <= 14; deep++) {
            ruleFault("tell 1 if " + Due.times("[", deep) + "1=1" + Due.times("]", deep), 20, 2);
            ruleFault("tell 1 if " + Due.times("not ", deep) + "1=1", 50, 2);
        }
        rule("tell 1 if " + Due.times("not[", 5) + "1=1" + Due.times("]", 5));
        ruleFault("tell 1 if " + Due.times("not[", 5) + "not 1=1" + Due.times("]", 5), 30, 2);
        ruleFault("tell 1 if " + Due.times("not[", 5) + "[1=1]" + Due.times("]", 5), 30, 2);
        ruleFault("tell 1 if " + Due.times("[", 10) + "not 1=1", 20, 2);
        ruleFault("tell 1 if " + Due.times("[", 10) + "1=1 and [1=1]", 28, 2);
        ruleFault("tell 1 if " + Due.times("[", 10) + "1=1 or not 1=1", 27, 2);
        String nine = Due.times("[", 9);
        String close = Due.times("]", 9);
        rule("tell 1 if " + nine + "[1=1]and[1=1]or not 1=1" + close + "and " + Due.times("not ", 10) + "1=1");
        rule("tell 1 if " + nine + "[1=1]" + close + ";tell 1 if " + nine + "[1=1]" + close);
        ruleFault("tell 1 if 1=1 and " + nine + "[[1=1]]" + close, 28, 2);
    }

    private static void values() {
        Doc.says("Terms", "at most 60 VALUES (of SUMS) and FACTS made of a SIGN, together");
        Doc.says("Terms", "3 one VALUE or FACT too many (at its first byte; of a FACT at its SIGN)");
        String sum = "tell 1" + Due.times("+1", 58);
        rule(sum);
        rule(sum + "+1");
        rule(sum + "*bell");
        ruleFault(sum + "+1+1", sum.length() + 3, 3);
        ruleFault(sum + "+1+ bell", sum.length() + 4, 3);
        ruleFault(sum + "+1+12345", sum.length() + 3, 3);
        ruleFault(sum + "+1 if 1=1", sum.length() + 6, 3);
        ruleFault(sum + "+1 if [not bell=1]", sum.length() + 11, 3);
        ruleFault(sum + "+1;tell 1", sum.length() + 8, 3);
        ruleFault(sum + "+1;tell 1+1", sum.length() + 8, 3);
        String half = "tell 1" + Due.times("+1", 29);
        rule(half + ";" + half);
        ruleFault(half + ";" + half + "+1", 2 * half.length() + 2, 3);
        String words = "tell bell" + Due.times("*bell", 59);
        rule(words);
        ruleFault(words + "*bell", words.length() + 1, 3);
    }

    private static void valuesOfEachRule() {
        Doc.says("Terms", "at most 60 VALUES (of SUMS) and FACTS made of a SIGN, together");
        String sixty = "tell 1" + Due.times("+1", 59);
        StairNews x = new StairNews();
        Due.is("60", Due.rule(x, sixty), 0);
        Due.is("60 again", Due.rule(x, sixty), 1);
        Due.is("61", Due.rule(x, sixty + "+1"), Due.fault(sixty.length() + 1, 3));
        Due.is("60 behind that", Due.rule(x, sixty), 2);
    }

    private static void facts() {
        Doc.says("Terms", "3 one VALUE or FACT too many (at its first byte; of a FACT at its SIGN)");
        String test = "tell 1+1+1 if 1=1" + Due.times(" and 1=1", 18);
        rule(test);
        ruleFault(test + " and 1=1", test.length() + 5, 3);
        String one = "tell 1+1 if 1=1" + Due.times(" or 1=1", 18);
        rule(one);
        ruleFault(one + " or 1=1", one.length() + 5, 3);
        String two = "tell 1 if 1=1" + Due.times(" or 1=1", 18);
        ruleFault(two + " or 1=1", two.length() + 6, 3);
        ruleFault(two + " or 1  >= 1", two.length() + 10, 3);
        ruleFault(two + " or 1+1  >= 1", two.length() + 9, 3);
        ruleFault(two + " or 1  1", two.length() + 7, 0);
        String last = "tell 1" + Due.times("+1", 56);
        rule(last + " if 1=1");
        ruleFault(last + " if 1=1+1", last.length() + 8, 3);
        ruleFault(last + "+1 if 1=1", last.length() + 8, 3);
        ruleFault(last + "+1+1 if 1<=1", last.length() + 9, 3);
        ruleFault(last + "+1+1 if bell <= 1", last.length() + 13, 3);
        rule(last + " if not[not[1=1]]");
    }

    // ---- faults

    private static void faultOfSign() {
        Doc.says("Terms", "0 a byte or WORD that can't stand there, or the end (behind the last byte)");
        fault("", 0, 0);
        fault(" ", 1, 0);
        fault("house", 5, 0);
        fault("house  ", 7, 0);
        fault("house ;", 6, 0);
        fault("house -2", 6, 0);
        fault("house two", 6, 0);
        fault("house 2.", 7, 0);
        fault("house 2 ,lit 0", 8, 0);
        fault("house 2 lit 0", 8, 0);
        fault("house 2 3", 8, 0);
        fault("house 2;", 8, 0);
        fault("house 2;  ", 10, 0);
        fault("house 2;7", 8, 0);
        fault("house 2;tell 1", 8, 0);
        fault("2", 0, 0);
        ruleFault("", 0, 0);
        ruleFault("    ", 4, 0);
        ruleFault("house 2", 0, 0);
        ruleFault("tell 1 else 2", 7, 0);
        ruleFault("tell 1;  ", 9, 0);
        ruleFault("1", 0, 0);
    }

    private static void faultOfNumber() {
        Doc.says("Terms", "1 a NUMBER of more digits, or not as told");
        fault("house 000002", 6, 1);
        fault("house   1", 8, 1);
        fault("house 222222222222222222222", 6, 1);
        fault("house 4294967298", 6, 1);
        fault("house 2;lit 65536", 12, 1);
        fault("house 2;lit 4294967296", 12, 1);
        fault("house 2;night 18446744073709551616", 14, 1);
        ruleFault("tell 1+ 123456", 8, 1);
        ruleFault("tell 1 if 4294967297 = 1", 10, 1);
    }

    private static void faultOfClause() {
        Doc.says("Terms", "4 one CLAUSE too many, a second house, night or bucket, another CLAUSE ahead of house, an eighth "
                + "PERSON, an 11th ERRAND, a seventh HATES (at its first byte)");
        String two = "house 3;person 0 1;person 1 1";
        String[] firsts = {"house 3" + Due.times(";lit 1", 39), "house 3", "house 3;night 0", "house 3;bucket 0 1", "",
            "house 3" + Due.times(";person 1 1", 7), two + Due.times(";errand 1 2 99", 10), two + Due.times(";hates 0 1", 6)};
        String[] overs = {"lit 1", "house 3", "night 0", "bucket 0 1", "night 0", "person 1 1", "errand 1 2 99", "hates 0 1"};
        for (int i = 0; i < firsts.length; i++) {
            String first = firsts[i].isEmpty() ? "" : firsts[i] + ";";
            if (!first.isEmpty()) {
                Due.is("'" + firsts[i] + "' is none too many", Due.house(new StairNews(), firsts[i]) >= 0, true);
            }
            fault(first + overs[i], first.length(), 4);
            fault(first + "   " + overs[i], first.length() + 3, 4);
            fault(first + overs[i].substring(0, overs[i].indexOf(' ')), first.length(), 4);
            fault(first + overs[i].replace(' ', '?'), first.length(), 4);
        }
    }

    private static void faultFirst() {
        Doc.says("Terms", "FAULTS, the first along the text, 1 + 8 * its place and");
        Due.is("place 0, 0", Due.house(new StairNews(), "?"), -3);
        Due.is("place 0, 4", Due.house(new StairNews(), "lit 0"), -7);
        Due.is("place 6, 1", Due.house(new StairNews(), "house 1"), -52);
        Due.is("place 1, 0", Due.rule(new StairNews(), " ?"), -11);
        Due.is("place 20, 2", Due.rule(new StairNews(), "tell 1 if [[[[[[[[[[["), -165);
        Due.is("place 400, 0", Due.rule(new StairNews(), Due.times(" ", 400)), -3203);
        fault("house 1;person 9 9", 6, 1);
        fault("house 2;person 2 0", 15, 1);
        fault("house 2;person 0 0;house", 17, 1);
        fault("house 2;house 1", 8, 4);
        ruleFault("tell 1 if [[[[[[[[[[[ 999999", 20, 2);
        ruleFault("tell 999999 if [[[[[[[[[[[", 5, 1);
    }

    private static void faultLeast() {
        Doc.says("Terms", "Of one place the least");
        String full = "house 2" + Due.times(";lit 0", 39);
        fault(full + ";lits 0", full.length() + 1, 0);
        fault(full + ";2", full.length() + 1, 0);
        fault(full + ";house 2", full.length() + 1, 4);
        String twelve = "tell 1" + Due.times(";tell 1", 11);
        ruleFault(twelve + ";tells 1", twelve.length() + 1, 0);
        ruleFault(twelve + ";1", twelve.length() + 1, 0);
        String sixty = "tell 1" + Due.times("+1", 59);
        ruleFault(sixty + "+123456", sixty.length() + 1, 1);
        ruleFault(sixty + "+bells", sixty.length() + 1, 0);
        ruleFault(sixty + "+", sixty.length() + 1, 0);
        ruleFault(sixty + "+[", sixty.length() + 1, 0);
        String fact = "tell 1" + Due.times("+1", 58) + " if 1";
        ruleFault(fact + "=1", fact.length(), 3);
        ruleFault(fact + "!1", fact.length(), 0);
        ruleFault(fact, fact.length(), 0);
        ruleFault("tell 1 if " + Due.times("[", 10) + "nots 1=1", 20, 0);
        ruleFault("tell 1 if " + Due.times("[", 10) + "1=[", 22, 0);
        ruleFault("lit 0", 0, 0);
        fault("tell 1", 0, 0);
        fault("lits 0", 0, 0);
    }

    private static void force() {
        Doc.says("Promise 6", "A RULE is IN FORCE (NONE: none): which was");
        StairNews x = new StairNews();
        Due.is("none in place of none", x.force(-1), -1);
        for (int i = 0; i < 6; i++) {
            Due.rule(x, "tell " + i);
        }
        Due.is("the first", x.force(0), -1);
        Due.is("the last", x.force(5), 0);
        Due.is("once more", x.force(5), 5);
        Due.is("in force", x.count(4), 5);
        Due.is("none", x.force(-1), 5);
        Due.is("none", x.count(4), -1);
        Doc.says("Promise 6", "-2, and nothing happens, if there is none such");
        for (int rule : new int[] {-2, -3, 2, 3, 5, 6, MIN, MAX}) {
            Still.keeps("force(" + rule + ") of two", Still::rich, y -> y.force(rule), -2);
        }
        Still.keeps("force(0) of none", StairNews::new, y -> y.force(0), -2);
        Still.keeps("force(6) of six", () -> withRules(6), y -> y.force(6), -2);
        Due.is("the last of two", Still.rich().force(1), 1);
        Due.is("the sixth", withRules(6).force(5), 1);
    }
}

import java.util.Arrays;

/**
 * A house whose people pass news on, on its landings alone; the document tells what each call answers.
 * Sets of people and of floors are held as bits throughout.
 */
public final class StairNews {
    public static final int NONE = -1;

    private static final int MISSING = -2;
    private static final int WITHOUT = -1000;
    private static final int WITHOUT_EVENINGS = -1000000;
    private static final int TAPE_MAX = 400;
    private static final int DIGITS_MAX = 5;
    private static final int FLOORS_MAX = 9;
    private static final int PEOPLE_MAX = 7;
    private static final int ALL_PEOPLE = (1 << PEOPLE_MAX) - 1;
    private static final int ERRANDS_MAX = 10;
    private static final int HATES_MAX = 6;
    private static final int HOUSE_CLAUSES_MAX = 40;
    private static final int PACE_MAX = 9;
    private static final int EARLY_BELL_MAX = 99;
    private static final int BELL_MAX = 999;
    private static final int CHAIRS_MAX = 999;
    private static final int WHISPERED_CHAIRS_MAX = 99;
    private static final int RULES_MAX = 6;
    private static final int RULE_CLAUSES_MAX = 12;
    private static final int RULE_AMOUNT_MAX = 60;
    private static final int DEPTH_MAX = 10;
    /** 60 values and comparisons, fewer signs between them, 19 words between comparisons, 100 times not. */
    private static final int RULE_CODE_MAX = 240;
    /** Two that wait for and and or at each depth, four of a comparison. */
    private static final int STACK_MAX = 2 * (DEPTH_MAX + 1) + 4;
    private static final int ACTS_MAX = 20;
    /** Of bells that go on from now, those of all evenings together; starts ask what has been, up to now. */
    private static final int LOOKED_MAX = 100;
    private static final int PLANNED_MAX = 60;
    private static final int EVENINGS_MAX = 10;
    private static final int NEWS_MAX = 10;
    private static final int START_BELL_MAX = 40;
    /** From 0 chairs each of the others on the way adds or takes nine at most. */
    private static final int START_CHAIRS_MAX = 9 * (PEOPLE_MAX - 1);
    private static final int STARTS_MAX = PEOPLE_MAX * (START_BELL_MAX + 1);
    private static final int IMAGES_MAX = 4;

    private static final int FAULT_SIGN = 0;
    private static final int FAULT_NUMBER = 1;
    private static final int FAULT_DEPTH = 2;
    private static final int FAULT_AMOUNT = 3;
    private static final int FAULT_CLAUSE = 4;

    private final Tape tape = new Tape();
    private final Scene now = new Scene();
    private final House spare = new House();
    private final Rule[] rules = new Rule[RULES_MAX];
    private final RuleReader ruleReader = new RuleReader(tape);
    private final History history = new History();
    private final Scene[] images = new Scene[IMAGES_MAX];
    private final Outlook outlook = new Outlook(now);
    private int ruleCount;

    public StairNews() {
        for (int i = 0; i < rules.length; i++) {
            rules[i] = new Rule();
        }
        for (int i = 0; i < images.length; i++) {
            images[i] = new Scene();
        }
    }

    public int feed(int a, int b, int c, int d, int e) {
        if (tape.length + 20 > TAPE_MAX) {
            return NONE;
        }
        tape.append(a);
        tape.append(b);
        tape.append(c);
        tape.append(d);
        tape.append(e);
        return tape.length;
    }

    public int end(int n) {
        if (n < 0 || n > tape.length) {
            return NONE;
        }
        tape.length = n;
        return n;
    }

    public int house() {
        int fault = HouseReader.read(tape, spare);
        tape.length = 0;
        if (fault != 0) {
            return -2 - fault;
        }
        now.moveInto(spare);
        history.forget();
        return now.told.people;
    }

    public int rule() {
        if (ruleCount >= RULES_MAX) {
            return NONE;
        }
        int fault = ruleReader.read(rules[ruleCount]);
        tape.length = 0;
        if (fault != 0) {
            return -2 - fault;
        }
        ruleCount++;
        return ruleCount - 1;
    }

    public int force(int rule) {
        if (rule != NONE && (rule < 0 || rule >= ruleCount)) {
            return MISSING;
        }
        int was = now.inForce;
        now.inForce = rule;
        return was;
    }

    public int person(int person, int what) {
        if (!now.told.hasPerson(person)) {
            return WITHOUT;
        }
        switch (what) {
            case 0: return now.folk.at[person];
            case 1: return now.folk.goal[person];
            case 2: return now.folk.left[person];
            case 3: return now.folk.pace[person];
            case 4: return now.told.home[person];
            case 5: return now.told.hated[person];
            case 6: return bit(now.told.deaf, person);
            case 7: return now.told.twist[person];
            default: return WITHOUT;
        }
    }

    public int knows(int person, int what) {
        if (!now.told.hasPerson(person)) {
            return WITHOUT;
        }
        switch (what) {
            case 0: return now.lore.heardAt[person];
            case 1: return now.lore.chairs[person];
            case 2: return now.lore.teller[person];
            default: return WITHOUT;
        }
    }

    public int floor(int floor, int what) {
        if (!now.told.hasFloor(floor)) {
            return NONE;
        }
        switch (what) {
            case 0: return now.folk.seenOn(floor, now.told.people);
            case 1: return bit(now.folk.plants, floor);
            case 2: return bit(now.told.lit, floor);
            default: return NONE;
        }
    }

    public int bell() {
        if (!now.told.stands() || now.folk.bell >= BELL_MAX) {
            return NONE;
        }
        history.keep(now);
        outlook.prepare(ruleInForce());
        return Integer.bitCount(outlook.ringNow());
    }

    public boolean whisper(int person, int chairs) {
        if (!now.told.hasPerson(person) || chairs < 0 || chairs > WHISPERED_CHAIRS_MAX) {
            return false;
        }
        if (bit(now.told.deaf | now.lore.known, person) == 1) {
            return false;
        }
        history.keep(now);
        now.lore.learn(person, chairs, NONE, now.folk.bell);
        return true;
    }

    public int send(int person, int floor) {
        if (!now.told.hasPerson(person) || !now.told.hasFloor(floor)) {
            return NONE;
        }
        if (!now.folk.isStanding(person) || now.folk.at[person] == floor) {
            return NONE;
        }
        history.keep(now);
        now.folk.setOut(person, floor);
        return Math.abs(floor - now.folk.at[person]);
    }

    public int plant(int floor) {
        if (!now.told.hasFloor(floor)) {
            return NONE;
        }
        history.keep(now);
        now.folk.plants ^= 1 << floor;
        return bit(now.folk.plants, floor);
    }

    public int heel(int person) {
        if (!now.told.hasPerson(person) || now.folk.pace[person] >= PACE_MAX) {
            return NONE;
        }
        history.keep(now);
        now.folk.pace[person]++;
        return now.folk.pace[person];
    }

    public int undo() {
        if (history.size == 0) {
            return NONE;
        }
        history.takeBack(now);
        return history.size;
    }

    public int ahead(int n) {
        if (!now.told.stands() || n < 0 || n > LOOKED_MAX) {
            return NONE;
        }
        outlook.prepare(ruleInForce());
        outlook.walk(n);
        outlook.talk(0, n);
        return outlook.lore.known;
    }

    public int where(int person, int n) {
        if (!now.told.hasPerson(person) || n < 0 || n > LOOKED_MAX) {
            return NONE;
        }
        outlook.prepare(ruleInForce());
        outlook.walk(n);
        return outlook.folk.at[person];
    }

    public int hears(int person) {
        if (!now.told.hasPerson(person)) {
            return NONE;
        }
        outlook.prepare(ruleInForce());
        outlook.walk(LOOKED_MAX);
        outlook.talk(0, LOOKED_MAX);
        return bit(outlook.lore.known, person) == 1 ? outlook.lore.heardAt[person] : MISSING;
    }

    public int whom(int a, int n, int b, int what) {
        if (!now.told.hasFloor(a) || !now.told.hasFloor(b) || a == b || !isPlanned(n) || !isEither(what)) {
            return NONE;
        }
        outlook.prepare(ruleInForce());
        return sizeOrSet(outlook.leastWhispered(a, n, b), what);
    }

    public int news(int person, int chairs) {
        if (person == NONE) {
            now.newsCount = 0;
            return 0;
        }
        if (!now.told.hasPerson(person) || chairs < WITHOUT || chairs > CHAIRS_MAX) {
            return MISSING;
        }
        if (now.newsCount >= NEWS_MAX) {
            return MISSING;
        }
        now.newsPerson[now.newsCount] = person;
        now.newsChairs[now.newsCount] = chairs;
        now.newsCount++;
        return now.newsCount;
    }

    public int starts(int what) {
        if (!now.told.stands() || what < 0 || what > 2) {
            return NONE;
        }
        outlook.prepare(ruleInForce());
        outlook.findStarts();
        if (what == 0) {
            return outlook.startCount;
        }
        if (outlook.startCount == 0) {
            return MISSING;
        }
        return what == 1 ? outlook.startPerson : outlook.startBell;
    }

    public int look(int what) {
        if (!now.told.stands() || !isEither(what)) {
            return NONE;
        }
        outlook.prepare(ruleInForce());
        outlook.findStarts();
        if (outlook.startCount == 0) {
            return MISSING;
        }
        int best = outlook.bestAsked();
        return what == 0 ? best : outlook.fewestAlike;
    }

    public int block(int n, int what) {
        if (!now.told.stands() || !isPlanned(n) || !isEither(what)) {
            return NONE;
        }
        outlook.prepare(ruleInForce());
        int best = outlook.bestBlocked(n);
        return best == MISSING || what == 0 ? best : outlook.fewestKnowers;
    }

    public int silence(int person, int n, int what) {
        if (!now.told.hasPerson(person) || !isPlanned(n) || !isEither(what)) {
            return NONE;
        }
        outlook.prepare(ruleInForce());
        return sizeOrSet(outlook.leastDeafened(person, n), what);
    }

    public int meeting(int what) {
        if (!now.told.stands() || !isEither(what)) {
            return NONE;
        }
        int best = 0;
        for (int floor = 1; floor < now.told.floors; floor++) {
            if (flightsTo(floor) < flightsTo(best)) {
                best = floor;
            }
        }
        return what == 0 ? best : flightsTo(best);
    }

    public int cost(int person) {
        if (!now.told.hasPerson(person) || now.folk.pace[person] >= PACE_MAX) {
            return WITHOUT;
        }
        outlook.prepare(ruleInForce());
        int whole = outlook.lastHearing();
        outlook.prepare(ruleInForce());
        outlook.folk.pace[person]++;
        int broken = outlook.lastHearing();
        return whole == NONE || broken == NONE ? WITHOUT : broken - whole;
    }

    public int seed(int x) {
        if (x < 0) {
            return NONE;
        }
        int was = now.seed;
        now.seed = x;
        return was;
    }

    public int evenings(int m, int n, int what) {
        if (!now.told.stands() || m < 1 || m > EVENINGS_MAX || !isPlanned(n) || !isEither(what)) {
            return WITHOUT_EVENINGS;
        }
        outlook.prepare(ruleInForce());
        outlook.spendEvenings(m, n);
        return what == 0 ? outlook.lore.known : outlook.lore.allChairs();
    }

    public int count(int what) {
        switch (what) {
            case 0: return now.told.floors;
            case 1: return now.told.people;
            case 2: return now.told.errands;
            case 3: return ruleCount;
            case 4: return now.inForce;
            case 5: return now.folk.bell;
            case 6: return now.lore.known;
            case 7: return now.folk.walkers(now.told.people);
            case 8: return now.newsCount;
            case 9: return history.size;
            case 10: return now.seed;
            case 11: return tape.length;
            case 12: return now.told.night;
            default: return NONE;
        }
    }

    public int image(int k) {
        if (k < 0 || k >= IMAGES_MAX) {
            return NONE;
        }
        images[k].copy(now);
        images[k].made = true;
        return now.folk.bell;
    }

    public int back(int k) {
        if (k < 0 || k >= IMAGES_MAX || !images[k].made) {
            return NONE;
        }
        now.copy(images[k]);
        history.forget();
        return now.folk.bell;
    }

    private Rule ruleInForce() {
        int number = now.inForce;
        return number >= 0 && number < ruleCount ? rules[number] : null;
    }

    private int flightsTo(int floor) {
        int flights = 0;
        for (int p = 0; p < now.told.people; p++) {
            flights += Math.abs(now.folk.at[p] - floor);
        }
        return flights;
    }

    private static int bit(int set, int number) {
        return (set >> number) & 1;
    }

    private static boolean isPlanned(int n) {
        return n >= 1 && n <= PLANNED_MAX;
    }

    private static boolean isEither(int what) {
        return what == 0 || what == 1;
    }

    private static int sizeOrSet(int set, int what) {
        if (set == MISSING) {
            return MISSING;
        }
        return what == 0 ? Integer.bitCount(set) : set;
    }

    /** The bytes that came, and for the readers the token of them that comes next. */
    private static final class Tape {
        static final int WORD = 'a';
        static final int NUMBER = '0';
        static final int LESS_OR_SAME = 256;
        static final int MORE_OR_SAME = 257;
        private static final int END = -1;
        private static final int STOPPED = -2;

        final byte[] bytes = new byte[TAPE_MAX];
        int length;
        /** WORD, NUMBER, a sign of two bytes, or else the byte itself; END behind the last; STOPPED by a fault. */
        int kind;
        int place;
        int size;
        int fault;

        void append(int four) {
            for (int shift = 24; shift >= 0 && length < TAPE_MAX; shift -= 8) {
                bytes[length] = (byte) (four >> shift);
                length++;
            }
        }

        void rewind() {
            fault = 0;
            place = 0;
            size = 0;
            next();
        }

        /** The first fault stays, and behind it no token is as any reader wants it. */
        void fail(int number) {
            if (fault == 0) {
                fault = 1 + 8 * place + number;
            }
            kind = STOPPED;
            size = 0;
        }

        /** Goes on to the next token; not behind a fault. */
        void next() {
            if (fault != 0) {
                return;
            }
            place += size;
            while (place < length && bytes[place] == ' ') {
                place++;
            }
            size = place < length ? 1 : 0;
            int first = size == 1 ? bytes[place] & 255 : END;
            int second = place + 1 < length ? bytes[place + 1] : END;
            if (first >= 'a' && first <= 'z') {
                kind = WORD;
                while (place + size < length && bytes[place + size] >= 'a' && bytes[place + size] <= 'z') {
                    size++;
                }
            } else if (first >= '0' && first <= '9') {
                kind = NUMBER;
                while (place + size < length && bytes[place + size] >= '0' && bytes[place + size] <= '9') {
                    size++;
                }
            } else if (second == '=' && (first == '<' || first == '>')) {
                kind = first == '<' ? LESS_OR_SAME : MORE_OR_SAME;
                size = 2;
            } else {
                kind = first;
            }
        }

        /** Which of these words (a blank between) the token is; NONE: none of them. */
        int word(String words) {
            int number = 0;
            int alike = 0;
            for (int i = 0; kind == WORD && i <= words.length(); i++) {
                if (i == words.length() || words.charAt(i) == ' ') {
                    if (alike == size) {
                        return number;
                    }
                    number++;
                    alike = 0;
                } else if (alike >= 0 && alike < size && words.charAt(i) == bytes[place + alike]) {
                    alike++;
                } else {
                    alike = NONE;
                }
            }
            return NONE;
        }

        /** What the token's digits tell; those beyond the most that a number has are not looked at. */
        int value() {
            int value = 0;
            for (int i = 0; kind == NUMBER && i < size && i < DIGITS_MAX; i++) {
                value = value * 10 + bytes[place + i] - '0';
            }
            return value;
        }

        /** Passes a number from low to high that is not the unlike one; 0 with a fault. */
        int number(int low, int high, int unlike) {
            int value = value();
            if (kind != NUMBER) {
                fail(FAULT_SIGN);
                return 0;
            }
            if (size > DIGITS_MAX || value < low || value > high || value == unlike) {
                fail(FAULT_NUMBER);
                return 0;
            }
            next();
            return value;
        }

        /** Whether another clause comes behind this one. */
        boolean goesOn() {
            if (kind == ';') {
                next();
                return true;
            }
            if (kind != END) {
                fail(FAULT_SIGN);
            }
            return false;
        }
    }

    /** What the text told of a house; without floors there is none. */
    private static final class House {
        int floors;
        int people;
        int errands;
        int hates;
        int deaf;
        int plants;
        int lit;
        int night = NONE;
        int bucketFrom = NONE;
        int bucketTo = NONE;
        final int[] home = new int[PEOPLE_MAX];
        final int[] pace = new int[PEOPLE_MAX];
        final int[] hated = new int[PEOPLE_MAX];
        final int[] twist = new int[PEOPLE_MAX];
        final int[] errandPerson = new int[ERRANDS_MAX];
        final int[] errandFloor = new int[ERRANDS_MAX];
        final int[] errandBell = new int[ERRANDS_MAX];

        boolean stands() {
            return floors > 0;
        }

        boolean hasFloor(int floor) {
            return floor >= 0 && floor < floors;
        }

        boolean hasPerson(int person) {
            return person >= 0 && person < people;
        }

        void clear() {
            floors = 0;
            people = 0;
            errands = 0;
            hates = 0;
            deaf = 0;
            plants = 0;
            lit = 0;
            night = NONE;
            bucketFrom = NONE;
            bucketTo = NONE;
            Arrays.fill(hated, 0);
            Arrays.fill(twist, 0);
        }

        void copy(House other) {
            floors = other.floors;
            people = other.people;
            errands = other.errands;
            hates = other.hates;
            deaf = other.deaf;
            plants = other.plants;
            lit = other.lit;
            night = other.night;
            bucketFrom = other.bucketFrom;
            bucketTo = other.bucketTo;
            System.arraycopy(other.home, 0, home, 0, PEOPLE_MAX);
            System.arraycopy(other.pace, 0, pace, 0, PEOPLE_MAX);
            System.arraycopy(other.hated, 0, hated, 0, PEOPLE_MAX);
            System.arraycopy(other.twist, 0, twist, 0, PEOPLE_MAX);
            System.arraycopy(other.errandPerson, 0, errandPerson, 0, ERRANDS_MAX);
            System.arraycopy(other.errandFloor, 0, errandFloor, 0, ERRANDS_MAX);
            System.arraycopy(other.errandBell, 0, errandBell, 0, ERRANDS_MAX);
        }

        void addPerson(int floor, int bells) {
            if (people < PEOPLE_MAX) {
                home[people] = floor;
                pace[people] = bells;
                people++;
            }
        }

        void addErrand(int person, int floor, int bell) {
            if (errands < ERRANDS_MAX) {
                errandPerson[errands] = person;
                errandFloor[errands] = floor;
                errandBell[errands] = bell;
                errands++;
            }
        }

        void addHate(int one, int other) {
            hated[one] |= 1 << other;
            hated[other] |= 1 << one;
            hates++;
        }
    }

    /** Reads a house off the tape. */
    private static final class HouseReader {
        private static final String WORDS = "house person errand hates deaf adds takes plant night lit bucket";
        private static final int HOUSE = 0;
        private static final int PERSON = 1;
        private static final int ERRAND = 2;
        private static final int HATES = 3;
        private static final int DEAF = 4;
        private static final int ADDS = 5;
        private static final int TAKES = 6;
        private static final int PLANT = 7;
        private static final int NIGHT = 8;
        private static final int LIT = 9;
        private static final int BUCKET = 10;

        /** The fault, 0 without; with a fault what is in the house is of no use. */
        static int read(Tape tape, House house) {
            tape.rewind();
            house.clear();
            boolean more = true;
            for (int clauses = 0; more && clauses <= HOUSE_CLAUSES_MAX; clauses++) {
                readClause(tape, house, clauses);
                more = tape.goesOn();
            }
            return tape.fault;
        }

        private static void readClause(Tape tape, House house, int clauses) {
            int kind = tape.word(WORDS);
            if (kind == NONE) {
                tape.fail(FAULT_SIGN);
            } else if (clauses >= HOUSE_CLAUSES_MAX || (kind == HOUSE) != (clauses == 0) || isOver(kind, house)) {
                tape.fail(FAULT_CLAUSE);
            } else {
                tape.next();
                readNumbers(kind, tape, house);
            }
        }

        private static boolean isOver(int kind, House house) {
            switch (kind) {
                case PERSON: return house.people >= PEOPLE_MAX;
                case ERRAND: return house.errands >= ERRANDS_MAX;
                case HATES: return house.hates >= HATES_MAX;
                case NIGHT: return house.night != NONE;
                case BUCKET: return house.bucketTo != NONE;
                default: return false;
            }
        }

        private static void readNumbers(int kind, Tape tape, House house) {
            switch (kind) {
                case ERRAND:
                case HATES:
                case DEAF:
                case ADDS:
                case TAKES:
                    readOfPerson(kind, tape, house);
                    break;
                default:
                    readOfFloors(kind, tape, house);
                    break;
            }
        }

        private static void readOfPerson(int kind, Tape tape, House house) {
            int person = tape.number(0, house.people - 1, NONE);
            int second = 0;
            int third = 0;
            if (kind == ERRAND) {
                second = tape.number(0, house.floors - 1, NONE);
                third = tape.number(0, EARLY_BELL_MAX, NONE);
            } else if (kind == HATES) {
                second = tape.number(0, house.people - 1, person);
            } else if (kind == ADDS || kind == TAKES) {
                second = tape.number(1, 9, NONE);
            }
            if (tape.fault != 0) {
                return;
            }
            switch (kind) {
                case ERRAND: house.addErrand(person, second, third); break;
                case HATES: house.addHate(person, second); break;
                case DEAF: house.deaf |= 1 << person; break;
                case ADDS: house.twist[person] = second; break;
                default: house.twist[person] = -second; break;
            }
        }

        private static void readOfFloors(int kind, Tape tape, House house) {
            if (kind == HOUSE) {
                house.floors = tape.number(2, FLOORS_MAX, NONE);
                return;
            }
            if (kind == NIGHT) {
                house.night = tape.number(0, EARLY_BELL_MAX, NONE);
                return;
            }
            int floor = tape.number(0, house.floors - 1, NONE);
            int second = 0;
            if (kind == PERSON) {
                second = tape.number(1, PACE_MAX, NONE);
            } else if (kind == BUCKET) {
                second = tape.number(0, house.floors - 1, floor);
            }
            if (tape.fault != 0) {
                return;
            }
            switch (kind) {
                case PERSON: house.addPerson(floor, second); break;
                case PLANT: house.plants |= 1 << floor; break;
                case LIT: house.lit |= 1 << floor; break;
                default:
                    house.bucketFrom = floor;
                    house.bucketTo = second;
                    break;
            }
        }
    }

    /** A rule as code for a stack: of each clause its sum, and its test behind that. */
    private static final class Rule {
        static final int NUMBER = 0;
        static final int WORD = 1;
        static final int PLUS = 2;
        static final int MINUS = 3;
        static final int TIMES = 4;
        static final int BY = 5;
        static final int REST = 6;
        static final int LESS = 7;
        static final int LESS_OR_SAME = 8;
        static final int SAME = 9;
        static final int MORE_OR_SAME = 10;
        static final int MORE = 11;
        static final int AND = 12;
        static final int OR = 13;
        static final int NOT = 14;

        final int[] code = new int[RULE_CODE_MAX];
        final int[] sumAt = new int[RULE_CLAUSES_MAX + 1];
        final int[] testAt = new int[RULE_CLAUSES_MAX];
        int size;
        int clauses;

        void clear() {
            size = 0;
            clauses = 0;
        }

        void emit(int operation, int argument) {
            if (size < code.length) {
                code[size] = argument * 16 + operation;
                size++;
            }
        }

        void closeSum() {
            if (clauses < RULE_CLAUSES_MAX) {
                testAt[clauses] = size;
            }
        }

        void closeClause() {
            if (clauses < RULE_CLAUSES_MAX) {
                clauses++;
                sumAt[clauses] = size;
            }
        }

        /** The sum of the first clause without a test, or whose test holds; 0 without one. */
        long sum(long[] words, long[] stack) {
            for (int i = 0; i < clauses && i < RULE_CLAUSES_MAX; i++) {
                if (testAt[i] == sumAt[i + 1] || compute(testAt[i], sumAt[i + 1], words, stack) != 0) {
                    return compute(sumAt[i], testAt[i], words, stack);
                }
            }
            return 0;
        }

        private long compute(int from, int to, long[] words, long[] stack) {
            int top = 0;
            for (int i = from; i < to && i < code.length; i++) {
                int operation = code[i] & 15;
                int argument = code[i] >> 4;
                if (operation == NUMBER || operation == WORD) {
                    if (top < stack.length && (operation == NUMBER || argument < words.length)) {
                        stack[top] = operation == NUMBER ? argument : words[argument];
                        top++;
                    }
                } else if (operation == NOT) {
                    if (top >= 1) {
                        stack[top - 1] = 1 - stack[top - 1];
                    }
                } else if (top >= 2) {
                    top--;
                    long left = stack[top - 1];
                    long right = stack[top];
                    switch (operation) {
                        case PLUS: stack[top - 1] = left + right; break;
                        case MINUS: stack[top - 1] = left - right; break;
                        case TIMES: stack[top - 1] = left * right; break;
                        case BY: stack[top - 1] = right == 0 ? 0 : left / right; break;
                        case REST: stack[top - 1] = right == 0 ? 0 : left % right; break;
                        case LESS: stack[top - 1] = left < right ? 1 : 0; break;
                        case LESS_OR_SAME: stack[top - 1] = left <= right ? 1 : 0; break;
                        case SAME: stack[top - 1] = left == right ? 1 : 0; break;
                        case MORE_OR_SAME: stack[top - 1] = left >= right ? 1 : 0; break;
                        case MORE: stack[top - 1] = left > right ? 1 : 0; break;
                        case AND: stack[top - 1] = left & right; break;
                        default: stack[top - 1] = left | right; break;
                    }
                }
            }
            return top > 0 ? stack[0] : 0;
        }
    }

    /** Reads a rule off the tape into code. */
    private static final class RuleReader {
        private static final String WORDS = "teller hearer floor bell chairs since home there known night twist";

        final Tape tape;
        Rule rule;
        int amount;

        RuleReader(Tape tape) {
            this.tape = tape;
        }

        /** The fault, 0 without; with a fault what is in the rule is of no use. */
        int read(Rule into) {
            tape.rewind();
            into.clear();
            rule = into;
            amount = 0;
            boolean more = true;
            for (int clauses = 0; more && clauses <= RULE_CLAUSES_MAX; clauses++) {
                if (tape.word("tell") == NONE) {
                    tape.fail(FAULT_SIGN);
                } else if (clauses >= RULE_CLAUSES_MAX) {
                    tape.fail(FAULT_CLAUSE);
                }
                tape.next();
                readSum();
                rule.closeSum();
                if (tape.word("if") != NONE) {
                    tape.next();
                    readTest(0);
                }
                rule.closeClause();
                more = tape.goesOn();
            }
            return tape.fault;
        }

        private void readTest(int depth) {
            readFact(depth);
            // An or waits until the part behind it is whole: and binds more closely.
            boolean orWaits = false;
            int joint = tape.word("and or");
            for (int i = 0; i < TAPE_MAX && joint != NONE; i++) {
                tape.next();
                if (joint == 1 && orWaits) {
                    rule.emit(Rule.OR, 0);
                }
                readFact(depth);
                if (joint == 0) {
                    rule.emit(Rule.AND, 0);
                }
                orWaits |= joint == 1;
                joint = tape.word("and or");
            }
            if (orWaits) {
                rule.emit(Rule.OR, 0);
            }
        }

        private void readFact(int depth) {
            boolean denies = tape.word("not") != NONE;
            if (!denies && tape.kind != '[') {
                readComparison();
            } else if (depth >= DEPTH_MAX) {
                tape.fail(FAULT_DEPTH);
            } else if (denies) {
                tape.next();
                readFact(depth + 1);
                rule.emit(Rule.NOT, 0);
            } else {
                tape.next();
                readTest(depth + 1);
                if (tape.kind != ']') {
                    tape.fail(FAULT_SIGN);
                }
                tape.next();
            }
        }

        private void readComparison() {
            readSum();
            int operation = comparisonOf(tape.kind);
            if (operation == NONE) {
                tape.fail(FAULT_SIGN);
            } else if (amount >= RULE_AMOUNT_MAX) {
                tape.fail(FAULT_AMOUNT);
            }
            amount++;
            tape.next();
            readSum();
            rule.emit(operation, 0);
        }

        private static int comparisonOf(int kind) {
            switch (kind) {
                case '<': return Rule.LESS;
                case Tape.LESS_OR_SAME: return Rule.LESS_OR_SAME;
                case '=': return Rule.SAME;
                case Tape.MORE_OR_SAME: return Rule.MORE_OR_SAME;
                case '>': return Rule.MORE;
                default: return NONE;
            }
        }

        private void readSum() {
            readValue();
            // A plus or minus waits until the term behind it is whole.
            int waiting = NONE;
            int operation = arithmeticOf(tape.kind);
            for (int i = 0; i < TAPE_MAX && operation != NONE; i++) {
                boolean waits = operation == Rule.PLUS || operation == Rule.MINUS;
                tape.next();
                if (waits && waiting != NONE) {
                    rule.emit(waiting, 0);
                }
                readValue();
                if (waits) {
                    waiting = operation;
                } else {
                    rule.emit(operation, 0);
                }
                operation = arithmeticOf(tape.kind);
            }
            if (waiting != NONE) {
                rule.emit(waiting, 0);
            }
        }

        private static int arithmeticOf(int kind) {
            switch (kind) {
                case '+': return Rule.PLUS;
                case '-': return Rule.MINUS;
                case '*': return Rule.TIMES;
                case '/': return Rule.BY;
                case '%': return Rule.REST;
                default: return NONE;
            }
        }

        private void readValue() {
            int word = tape.word(WORDS);
            if (word == NONE && tape.kind != Tape.NUMBER) {
                tape.fail(FAULT_SIGN);
            } else if (tape.kind == Tape.NUMBER && tape.size > DIGITS_MAX) {
                tape.fail(FAULT_NUMBER);
            } else if (amount >= RULE_AMOUNT_MAX) {
                tape.fail(FAULT_AMOUNT);
            } else if (word != NONE) {
                rule.emit(Rule.WORD, word);
            } else {
                rule.emit(Rule.NUMBER, tape.value());
            }
            amount++;
            tape.next();
        }
    }

    /** Where all are and go, which plants there are, and the bell: what goes on by itself or by hand. */
    private static final class Folk {
        int bell;
        int plants;
        final int[] at = new int[PEOPLE_MAX];
        final int[] goal = new int[PEOPLE_MAX];
        final int[] left = new int[PEOPLE_MAX];
        final int[] pace = new int[PEOPLE_MAX];

        void copy(Folk other) {
            bell = other.bell;
            plants = other.plants;
            System.arraycopy(other.at, 0, at, 0, PEOPLE_MAX);
            System.arraycopy(other.goal, 0, goal, 0, PEOPLE_MAX);
            System.arraycopy(other.left, 0, left, 0, PEOPLE_MAX);
            System.arraycopy(other.pace, 0, pace, 0, PEOPLE_MAX);
        }

        void goHome(House house) {
            bell = 0;
            plants = house.plants;
            System.arraycopy(house.home, 0, at, 0, PEOPLE_MAX);
            System.arraycopy(house.home, 0, goal, 0, PEOPLE_MAX);
            System.arraycopy(house.pace, 0, pace, 0, PEOPLE_MAX);
            Arrays.fill(left, 0);
        }

        boolean isStanding(int person) {
            return at[person] == goal[person];
        }

        void setOut(int person, int floor) {
            goal[person] = floor;
            left[person] = pace[person];
        }

        int walkers(int people) {
            int set = 0;
            for (int p = 0; p < people; p++) {
                set |= isStanding(p) ? 0 : 1 << p;
            }
            return set;
        }

        int seenOn(int floor, int people) {
            int set = 0;
            for (int p = 0; p < people; p++) {
                set |= at[p] == floor ? 1 << p : 0;
            }
            return set;
        }

        /** A bell's errands and flights: who is then on which landing, seven bits a floor. */
        long step(House house) {
            startErrands(house);
            long landings = 0;
            for (int p = 0; p < house.people; p++) {
                if (isStanding(p) || endsFlight(p)) {
                    landings |= 1L << (at[p] * PEOPLE_MAX + p);
                }
            }
            bell = Math.min(bell + 1, BELL_MAX);
            return landings;
        }

        private void startErrands(House house) {
            int looked = 0;
            // Backwards, since of several errands of one person at a bell the last told counts.
            for (int i = house.errands - 1; i >= 0; i--) {
                int person = house.errandPerson[i];
                if (house.errandBell[i] != bell || bit(looked, person) == 1) {
                    continue;
                }
                looked |= 1 << person;
                if (isStanding(person) && at[person] != house.errandFloor[i]) {
                    setOut(person, house.errandFloor[i]);
                }
            }
        }

        private boolean endsFlight(int person) {
            left[person]--;
            if (left[person] > 0) {
                return false;
            }
            at[person] += goal[person] > at[person] ? 1 : -1;
            left[person] = isStanding(person) ? 0 : pace[person];
            return true;
        }
    }

    /** Who knows it, since which bell, with how many chairs, and of whom. */
    private static final class Lore {
        int known;
        final int[] heardAt = new int[PEOPLE_MAX];
        final int[] chairs = new int[PEOPLE_MAX];
        final int[] teller = new int[PEOPLE_MAX];

        Lore() {
            Arrays.fill(heardAt, NONE);
            Arrays.fill(teller, NONE);
        }

        void clear() {
            known = 0;
            Arrays.fill(heardAt, NONE);
            Arrays.fill(chairs, 0);
            Arrays.fill(teller, NONE);
        }

        void copy(Lore other) {
            known = other.known;
            System.arraycopy(other.heardAt, 0, heardAt, 0, PEOPLE_MAX);
            System.arraycopy(other.chairs, 0, chairs, 0, PEOPLE_MAX);
            System.arraycopy(other.teller, 0, teller, 0, PEOPLE_MAX);
        }

        void learn(int person, int amount, int of, int bell) {
            known |= 1 << person;
            heardAt[person] = bell;
            chairs[person] = Math.max(-CHAIRS_MAX, Math.min(CHAIRS_MAX, amount));
            teller[person] = of;
        }

        int allChairs() {
            int all = 0;
            for (int p = 0; p < PEOPLE_MAX; p++) {
                all += bit(known, p) == 1 ? chairs[p] : 0;
            }
            return all;
        }

        /** The chairs a person knows it with, WITHOUT if they do not know it. */
        int answerOf(int person) {
            return bit(known, person) == 1 ? chairs[person] : WITHOUT;
        }
    }

    /** The tellings of a bell, by a house and a rule. */
    private static final class Gossip {
        private static final int TELLER = 0;
        private static final int HEARER = 1;
        private static final int FLOOR = 2;
        private static final int BELL = 3;
        private static final int CHAIRS = 4;
        private static final int SINCE = 5;
        private static final int HOME = 6;
        private static final int THERE = 7;
        private static final int KNOWN = 8;
        private static final int NIGHT = 9;
        private static final int TWIST = 10;

        final House house;
        Rule rule;
        int plants;
        int deaf;
        final long[] words = new long[TWIST + 1];
        final long[] stack = new long[STACK_MAX];

        Gossip(House house) {
            this.house = house;
        }

        /** Whether a telling could change anything still. */
        boolean canSpread(Lore lore) {
            int all = (1 << house.people) - 1;
            return lore.known != 0 && ((lore.known | deaf) & all) != all;
        }

        /** The tellings at a bell to those on the landings, all by who knows ahead of them: who heard it. */
        int ring(Lore lore, long landings, int bell) {
            int knowers = lore.known;
            boolean isNight = house.night != NONE && bell >= house.night;
            int quiet = isNight ? plants | ~house.lit : plants;
            words[BELL] = bell;
            words[KNOWN] = Integer.bitCount(knowers);
            words[NIGHT] = isNight ? 1 : 0;
            for (int floor = 0; floor < house.floors; floor++) {
                int there = peopleOn(landings, floor);
                int hearers = there & ~knowers & ~deaf;
                if (hearers == 0) {
                    continue;
                }
                int tellers = bit(quiet, floor) == 1 ? 0 : there & knowers;
                int callers = floor == house.bucketTo ? peopleOn(landings, house.bucketFrom) & knowers : 0;
                if ((tellers | callers) == 0) {
                    continue;
                }
                words[FLOOR] = floor;
                words[THERE] = Integer.bitCount(there) - 2;
                for (int p = 0; p < house.people; p++) {
                    if (bit(hearers, p) == 0) {
                        continue;
                    }
                    int of = tellers == 0 ? NONE : tellerOf(lore, p, tellers);
                    if (of == NONE && callers != 0) {
                        of = Integer.numberOfTrailingZeros(callers);
                    }
                    if (of != NONE) {
                        lore.learn(p, lore.chairs[of] + house.twist[of], of, bell);
                    }
                }
            }
            return lore.known & ~knowers;
        }

        private static int peopleOn(long landings, int floor) {
            return (int) (landings >> (floor * PEOPLE_MAX)) & ALL_PEOPLE;
        }

        private int tellerOf(Lore lore, int hearer, int tellers) {
            words[HEARER] = hearer;
            words[HOME] = house.home[hearer] == words[FLOOR] ? 1 : 0;
            for (int t = 0; t < house.people; t++) {
                if (bit(tellers, t) == 0 || (bit(house.hated[hearer], t) == 1 && words[THERE] <= 0)) {
                    continue;
                }
                if (rule == null) {
                    return t;
                }
                words[TELLER] = t;
                words[CHAIRS] = lore.chairs[t];
                words[SINCE] = words[BELL] - lore.heardAt[t];
                words[TWIST] = house.twist[t];
                if (rule.sum(words, stack) > 0) {
                    return t;
                }
            }
            return NONE;
        }
    }

    /** All that an image keeps. */
    private static final class Scene {
        final House told = new House();
        final Folk folk = new Folk();
        final Lore lore = new Lore();
        final int[] newsPerson = new int[NEWS_MAX];
        final int[] newsChairs = new int[NEWS_MAX];
        int newsCount;
        int inForce = NONE;
        int seed;
        boolean made;

        void moveInto(House house) {
            told.copy(house);
            folk.goHome(told);
            lore.clear();
            newsCount = 0;
        }

        void copy(Scene other) {
            told.copy(other.told);
            folk.copy(other.folk);
            lore.copy(other.lore);
            System.arraycopy(other.newsPerson, 0, newsPerson, 0, NEWS_MAX);
            System.arraycopy(other.newsChairs, 0, newsChairs, 0, NEWS_MAX);
            newsCount = other.newsCount;
            inForce = other.inForce;
            seed = other.seed;
        }

        boolean isNews(Lore guessed) {
            for (int i = 0; i < newsCount; i++) {
                if (guessed.answerOf(newsPerson[i]) != newsChairs[i]) {
                    return false;
                }
            }
            return true;
        }
    }

    /** How it was ahead of each of the last acts, in a ring of places. */
    private static final class History {
        final Folk[] folks = new Folk[ACTS_MAX];
        final Lore[] lores = new Lore[ACTS_MAX];
        int next;
        int size;

        History() {
            for (int i = 0; i < ACTS_MAX; i++) {
                folks[i] = new Folk();
                lores[i] = new Lore();
            }
        }

        void keep(Scene scene) {
            folks[next].copy(scene.folk);
            lores[next].copy(scene.lore);
            next = (next + 1) % ACTS_MAX;
            size = Math.min(size + 1, ACTS_MAX);
        }

        void takeBack(Scene scene) {
            next = (next + ACTS_MAX - 1) % ACTS_MAX;
            size = Math.max(size - 1, 0);
            scene.folk.copy(folks[next]);
            scene.lore.copy(lores[next]);
        }

        void forget() {
            size = 0;
        }
    }

    /**
     * What would be, tried on copies. Where people walk does not hang on who knows,
     * so the landings of the bells to come are found once for all that is tried.
     */
    private static final class Outlook {
        final Scene now;
        final Gossip gossip;
        final Folk folk = new Folk();
        final Lore lore = new Lore();
        /** Starts go back to bell 0, so there may be as many as bells at all. */
        final long[] landings = new long[BELL_MAX];
        final int[] startAnswers = new int[STARTS_MAX * PEOPLE_MAX];
        final int[] tally = new int[2 * START_CHAIRS_MAX + 2];
        int firstBell;
        int startCount;
        int startPerson;
        int startBell;
        int fewestAlike;
        int fewestKnowers;

        Outlook(Scene now) {
            this.now = now;
            gossip = new Gossip(now.told);
        }

        /** Begins with all as it is now. */
        void prepare(Rule rule) {
            gossip.rule = rule;
            gossip.plants = now.folk.plants;
            gossip.deaf = now.told.deaf;
            folk.copy(now.folk);
            lore.copy(now.lore);
        }

        /** One bell for good: who heard it. */
        int ringNow() {
            int bell = now.folk.bell;
            long landed = now.folk.step(now.told);
            return gossip.ring(now.lore, landed, bell);
        }

        void walk(int bells) {
            firstBell = folk.bell;
            for (int i = 0; i < bells && i < landings.length; i++) {
                landings[i] = folk.step(now.told);
            }
        }

        /** The tellings at the bells that were walked, from one of them on. */
        void talk(int from, int bells) {
            for (int i = from; i < bells && i < landings.length && gossip.canSpread(lore); i++) {
                gossip.ring(lore, landings[i], Math.min(firstBell + i, BELL_MAX));
            }
        }

        int leastWhispered(int wanted, int bells, int unwanted) {
            int allowed = ((1 << now.told.people) - 1) & ~now.told.deaf & ~now.lore.known;
            int goodHomes = homesOn(wanted);
            int badHomes = homesOn(unwanted);
            walk(bells);
            int set = 0;
            for (int i = 0; i <= ALL_PEOPLE && set != NONE; i++) {
                lore.copy(now.lore);
                for (int p = 0; p < now.told.people; p++) {
                    if (bit(set, p) == 1) {
                        lore.learn(p, 0, NONE, now.folk.bell);
                    }
                }
                talk(0, bells);
                if ((lore.known & goodHomes) != 0 && (lore.known & badHomes) == 0) {
                    return set;
                }
                set = nextSet(set, allowed);
            }
            return MISSING;
        }

        int leastDeafened(int person, int bells) {
            int allowed = ((1 << now.told.people) - 1) & ~now.lore.known & ~(1 << person);
            walk(bells);
            int set = 0;
            for (int i = 0; i <= ALL_PEOPLE && set != NONE; i++) {
                lore.copy(now.lore);
                gossip.deaf = now.told.deaf | set;
                talk(0, bells);
                if (bit(lore.known, person) == 0) {
                    return set;
                }
                set = nextSet(set, allowed);
            }
            return MISSING;
        }

        private int homesOn(int floor) {
            int set = 0;
            for (int p = 0; p < now.told.people; p++) {
                set |= now.told.home[p] == floor ? 1 << p : 0;
            }
            return set;
        }

        /** The set behind that one, by size and then as bits; NONE behind the last. */
        private static int nextSet(int set, int allowed) {
            int size = Integer.bitCount(set);
            int from = set + 1;
            for (int s = size; s <= PEOPLE_MAX; s++) {
                for (int next = from; next <= ALL_PEOPLE; next++) {
                    if ((next & ~allowed) == 0 && Integer.bitCount(next) == s) {
                        return next;
                    }
                }
                from = 0;
            }
            return NONE;
        }

        /** Tries all who could have started it when, from the house as it was told. */
        void findStarts() {
            int bells = now.folk.bell;
            startCount = 0;
            folk.goHome(now.told);
            gossip.plants = now.told.plants;
            walk(bells);
            for (int p = 0; p < now.told.people; p++) {
                for (int b = 0; b <= START_BELL_MAX && b <= bells && bit(now.told.deaf, p) == 0; b++) {
                    lore.clear();
                    lore.learn(p, 0, NONE, b);
                    talk(b, bells);
                    if (now.isNews(lore)) {
                        noteStart(p, b);
                    }
                }
            }
        }

        private void noteStart(int person, int bell) {
            if (startCount == 0) {
                startPerson = person;
                startBell = bell;
            }
            for (int p = 0; p < PEOPLE_MAX && startCount < STARTS_MAX; p++) {
                startAnswers[startCount * PEOPLE_MAX + p] = lore.answerOf(p);
            }
            startCount++;
        }

        /** The person by whose answer the starts that were found part best. */
        int bestAsked() {
            int best = NONE;
            for (int p = 0; p < now.told.people; p++) {
                int alike = mostAlike(p);
                if (best == NONE || alike < fewestAlike) {
                    best = p;
                    fewestAlike = alike;
                }
            }
            return best;
        }

        /** How many of the starts that were found that person's answer leaves alike at most. */
        private int mostAlike(int person) {
            int most = 0;
            Arrays.fill(tally, 0);
            for (int i = 0; i < startCount && i < STARTS_MAX; i++) {
                int chairs = startAnswers[i * PEOPLE_MAX + person];
                int place = chairs == WITHOUT ? 0 : chairs + START_CHAIRS_MAX + 1;
                if (place >= 0 && place < tally.length) {
                    tally[place]++;
                    most = Math.max(most, tally[place]);
                }
            }
            return most;
        }

        /** The floor where a plant more leaves fewest who know. */
        int bestBlocked(int bells) {
            int best = MISSING;
            walk(bells);
            for (int floor = 0; floor < now.told.floors; floor++) {
                if (bit(now.folk.plants, floor) == 1) {
                    continue;
                }
                lore.copy(now.lore);
                gossip.plants = now.folk.plants | 1 << floor;
                talk(0, bells);
                int knowers = Integer.bitCount(lore.known);
                if (best == MISSING || knowers < fewestKnowers) {
                    best = floor;
                    fewestKnowers = knowers;
                }
            }
            return best;
        }

        /** The bell at which the last one hears it who does so in the bells that are looked at; NONE: nobody does. */
        int lastHearing() {
            walk(LOOKED_MAX);
            talk(0, LOOKED_MAX);
            int last = NONE;
            for (int p = 0; p < now.told.people; p++) {
                if (bit(lore.known & ~now.lore.known, p) == 1) {
                    last = Math.max(last, lore.heardAt[p]);
                }
            }
            return last;
        }

        void spendEvenings(int evenings, int bells) {
            int people = now.told.people;
            int floors = now.told.floors;
            if (people <= 0 || floors <= 0) {
                return;
            }
            long x = now.seed;
            int left = LOOKED_MAX;
            for (int i = 0; i < evenings; i++) {
                x = nextSeed(x);
                int person = (int) (x / 65536 % people);
                x = nextSeed(x);
                int floor = (int) (x / 65536 % floors);
                if (folk.isStanding(person) && folk.at[person] != floor) {
                    folk.setOut(person, floor);
                }
                int looked = Math.min(bells, left);
                walk(looked);
                talk(0, looked);
                left -= looked;
            }
        }

        private static long nextSeed(long x) {
            return (x * 1103515245L + 12345L) % 2147483648L;
        }
    }
}

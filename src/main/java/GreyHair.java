/**
 * One grey hair in a family: it is on whoever worries most. The document DOC.md has its promises.
 * All rows are made once, with the object, so that no call needs room of its own.
 */
public final class GreyHair {
    public static final int NONE = -1;

    private static final int NOT_THERE = -2;
    private static final int BRUSH = -1;
    private static final int MOST_PERSONS = 6;
    private static final int MOST_KNOWS = 12;
    private static final int MOST_NEWS = 4;
    private static final int MOST_CARE = 99;
    private static final int MOST_WORRY = 999;
    private static final int MOST_AHEAD = 60;
    private static final int MOST_SPARED = 20;
    private static final int MOST_STEPS = 6;
    private static final int LAST_DAY = 999;
    private static final int MOST_AT_ONCE = 9;
    private static final int LONGEST_WAIT = 1000;
    private static final int LAST_TIME = 100000;

    private final Reader reader;
    private final Outlook outlook;
    private final History history;
    private final Boxes boxes;
    private final Sights sights;
    private final State now;
    private final int[] lying;
    private int lyingCount;
    private Family told;
    private Family draft;
    private int time;

    public GreyHair() {
        reader = new Reader();
        outlook = new Outlook();
        history = new History();
        boxes = new Boxes();
        sights = new Sights();
        now = new State();
        lying = new int[MOST_PERSONS];
        told = new Family();
        draft = new Family();
    }

    public int feed(int a, int b, int c, int d, int e) {
        if (!reader.hasRoom()) {
            return NONE;
        }
        reader.put(a);
        reader.put(b);
        reader.put(c);
        reader.put(d);
        reader.put(e);
        return reader.length;
    }

    public int end(int n) {
        if (n < 0 || n > reader.length) {
            return NONE;
        }
        reader.length = n;
        return n;
    }

    public int family() {
        boolean fine = reader.read(draft);
        reader.length = 0;
        if (!fine) {
            return NONE;
        }
        Family old = told;
        told = draft;
        draft = old;
        told.begin(now, NONE, 0);
        history.clear();
        boxes.clear();
        sights.clear();
        lyingCount = 0;
        return told.persons;
    }

    public int fault(int what) {
        switch (what) {
            case 0:
                return reader.fault;
            case 1:
                return reader.place;
            default:
                return NONE;
        }
    }

    public int person(int person, int what) {
        if (!isPerson(person)) {
            return NONE;
        }
        switch (what) {
            case 0:
                return told.houses[person];
            case 1:
                return now.cares[person];
            case 2:
                return told.worryOf(now, person);
            case 3:
                return now.knows[person];
            case 4:
                return now.knowersOf(person);
            case 5:
                return told.chances[person];
            case 6:
                return told.amounts[person];
            default:
                return NONE;
        }
    }

    public int hair() {
        return now.hair;
    }

    public int day() {
        if (now.day >= LAST_DAY) {
            return NOT_THERE;
        }
        history.keep(now);
        told.pass(now, Family.DRAWN_NEWS);
        return now.hair;
    }

    public int ease(int person, int care) {
        if (!isPerson(person) || !isSomeCare(care)) {
            return NONE;
        }
        history.keep(now);
        return now.change(person, -care);
    }

    public int take(int person, int care) {
        if (!isPerson(person) || !isSomeCare(care)) {
            return NONE;
        }
        history.keep(now);
        return now.change(person, care);
    }

    public int tell(int person, int other) {
        if (!areTwo(person, other) || now.isKnown(person, other) || now.countKnows() >= MOST_KNOWS) {
            return NONE;
        }
        history.keep(now);
        now.knows[person] |= 1 << other;
        return told.worryOf(now, person);
    }

    public int forget(int person, int other) {
        if (!areTwo(person, other) || !now.isKnown(person, other)) {
            return NONE;
        }
        history.keep(now);
        now.knows[person] &= ~(1 << other);
        return told.worryOf(now, person);
    }

    public int pluck() {
        if (now.hair == BRUSH) {
            return NOT_THERE;
        }
        history.keep(now);
        now.hair = told.mostWorried(now, now.hair);
        now.dyed = false;
        return now.hair;
    }

    public int dye() {
        if (now.dyed || now.hair == BRUSH) {
            return NONE;
        }
        history.keep(now);
        now.dyed = true;
        return now.hair;
    }

    public boolean undo() {
        return history.stepBack(now);
    }

    public boolean redo() {
        return history.stepOn(now);
    }

    public int will(int n) {
        if (!isAhead(n)) {
            return NOT_THERE;
        }
        return outlook.after(told, now, n, Family.DRAWN_NEWS).hair;
    }

    public int cares(int person, int n) {
        if (!isPerson(person) || !isAhead(n)) {
            return NONE;
        }
        return outlook.after(told, now, n, Family.NO_NEWS).cares[person];
    }

    public int next() {
        return outlook.after(told, now, 1, Family.NO_NEWS).hair;
    }

    public int spare(int person, int n, int what) {
        if (!isPerson(person) || n < 1 || n > MOST_SPARED || !isOneOfTwo(what)) {
            return NONE;
        }
        return outlook.findSpare(told, now, person, n, what);
    }

    public int easing(int person) {
        if (!isPerson(person)) {
            return NONE;
        }
        return outlook.findEasing(told, now, person);
    }

    public int hush(int what) {
        if (!isOneOfTwo(what)) {
            return NONE;
        }
        return countOrSet(outlook.findHush(told, now), what);
    }

    public int knows(int i, int what) {
        if (i < 0 || !isOneOfTwo(what)) {
            return NONE;
        }
        int place = 0;
        for (int person = 0; person < told.persons; person++) {
            for (int other = 0; other < told.persons; other++) {
                if (!now.isKnown(person, other)) {
                    continue;
                }
                if (place == i) {
                    return what == 0 ? person : other;
                }
                place++;
            }
        }
        return NONE;
    }

    public int wed() {
        int most = outlook.findWedding(told, now, lying);
        lyingCount = most == NONE ? 0 : told.persons;
        return most;
    }

    public int nights(int person, int n) {
        if (!isPerson(person) || !isAhead(n)) {
            return NONE;
        }
        return outlook.countNights(told, now, person, n);
    }

    public int returns(int person) {
        if (!isPerson(person)) {
            return NONE;
        }
        return outlook.firstNight(told, now, person);
    }

    public int rank() {
        outlook.putInOrder(told, now, lying);
        lyingCount = told.persons;
        return lyingCount;
    }

    public int words() {
        return outlook.countWords(told, now);
    }

    public int peace() {
        return now.hair == BRUSH ? 0 : outlook.firstNight(told, now, BRUSH);
    }

    public int burden(int n) {
        if (!isAhead(n)) {
            return NONE;
        }
        return outlook.after(told, now, n, Family.NO_NEWS).sumCares();
    }

    public int calm() {
        return outlook.findCalm(told, now);
    }

    public int law(int n) {
        if (n < 0 || n > MOST_WORRY) {
            return NONE;
        }
        int count = 0;
        for (int person = 0; person < told.persons; person++) {
            if (told.worryOf(now, person) >= n) {
                count++;
            }
        }
        return count;
    }

    public int odds(int person, int part) {
        if ((person != BRUSH && !isPerson(person)) || !isOneOfTwo(part)) {
            return NONE;
        }
        return outlook.findOdds(told, now, person, part);
    }

    public int duel(int person, int other) {
        lyingCount = 0;
        if (!areTwo(person, other)) {
            return NONE;
        }
        int rests = outlook.countRests(told, now, person, other, lying);
        lyingCount = rests == 0 ? 0 : 2;
        return rests;
    }

    public int path(int n) {
        lyingCount = 0;
        if (n < 1 || n > MOST_STEPS) {
            return NONE;
        }
        lyingCount = n;
        return outlook.followPath(told, now, n, lying);
    }

    public int silence(int person, int what) {
        if (!isPerson(person) || !isOneOfTwo(what)) {
            return NONE;
        }
        return countOrSet(outlook.findSilence(told, now, person), what);
    }

    public int alone() {
        int set = 0;
        for (int person = 0; person < told.persons; person++) {
            if (now.knows[person] == 0 && now.knowersOf(person) == 0) {
                set |= 1 << person;
            }
        }
        return set;
    }

    public int heaviest() {
        int found = NONE;
        for (int person = 0; person < told.persons; person++) {
            if (found == NONE || now.cares[person] > now.cares[found]) {
                found = person;
            }
        }
        return found;
    }

    public int lies(int i) {
        if (i < 0 || i >= lyingCount || i >= lying.length) {
            return NOT_THERE;
        }
        return lying[i];
    }

    public int seen(int day, int person, boolean is) {
        if (told.persons == 0 || (person != BRUSH && !isPerson(person))) {
            return NONE;
        }
        return sights.add(day, person, is, time);
    }

    public boolean untell(int seen) {
        return sights.takeBack(seen, time);
    }

    public int later(int by) {
        if (by < 0 || by > LONGEST_WAIT || time + by > LAST_TIME) {
            return NONE;
        }
        time += by;
        return time;
    }

    public int fits(int k) {
        return sights.countFitting(told, k);
    }

    public int sure(int what, int k) {
        if (!isOneOfTwo(what)) {
            return NONE;
        }
        sights.countFitting(told, k);
        return what == 0 ? sights.leastFitting() : sights.greatestFitting();
    }

    public int ask(int what, int k) {
        if (!isOneOfTwo(what) || sights.countFitting(told, k) == 0) {
            return NONE;
        }
        int day = sights.bestDay();
        return what == 0 ? day : sights.mostLeft(day);
    }

    public int image(int box) {
        return boxes.store(now, box) ? now.day : NONE;
    }

    public int back(int box) {
        if (!boxes.load(now, box)) {
            return NONE;
        }
        history.clear();
        return now.day;
    }

    public int about(int what) {
        switch (what) {
            case 0:
                return told.persons;
            case 1:
                return now.countKnows();
            case 2:
                return told.ease;
            case 3:
                return now.dyed ? 1 : 0;
            case 4:
                return now.day;
            case 5:
                return now.seed;
            case 6:
                return history.behind;
            case 7:
                return history.countAhead();
            case 8:
                return sights.count;
            case 9:
                return time;
            case 10:
                return reader.length;
            case 11:
                return told.units;
            case 12:
                return lyingCount;
            default:
                return NONE;
        }
    }

    private boolean isPerson(int person) {
        return person >= 0 && person < told.persons;
    }

    private boolean areTwo(int person, int other) {
        return isPerson(person) && isPerson(other) && person != other;
    }

    private static boolean isSomeCare(int care) {
        return care >= 1 && care <= MOST_AT_ONCE;
    }

    private static boolean isAhead(int n) {
        return n >= 0 && n <= MOST_AHEAD;
    }

    private static boolean isOneOfTwo(int what) {
        return what == 0 || what == 1;
    }

    private static int countOrSet(int set, int what) {
        if (set == NONE || what == 1) {
            return set;
        }
        return Integer.bitCount(set);
    }

    private static int within(int value, int most) {
        return Math.max(0, Math.min(most, value));
    }

    /**
     * A formula of the text, its parts put behind what they join, so that one pass over a row
     * of numbers tells what comes of it.
     */
    private static final class Formula {
        static final int CARE = -1;
        static final int KNOWN = -2;
        static final int HAS = -3;
        static final int HOUSE = -4;
        static final int DAY = -5;
        static final int NOT = -6;
        static final int OR = -7;
        static final int AND = -8;
        static final int LESS = -9;
        static final int MORE = -10;
        static final int SAME = -11;
        static final int PLUS = -12;
        static final int MINUS = -13;
        static final int TIMES = -14;
        static final int OVER = -15;
        static final int REST = -16;

        static final int MOST_UNITS = 30;
        static final int GIVENS = 5;
        // 30 units, 29 joints and 7 nots ahead of each unit are the most that the text's limits let in
        static final int LONGEST = 280;

        final int[] code = new int[LONGEST];
        final int[] given = new int[GIVENS];
        final int[] stack = new int[MOST_UNITS];
        int length;
        int units;
        boolean isTold;

        void clear() {
            length = 0;
            units = 0;
            isTold = false;
        }

        void append(int item) {
            if (length < LONGEST) {
                code[length] = item;
                length++;
            }
        }

        int value(int care, int known, int has, int house, int day) {
            given[0] = care;
            given[1] = known;
            given[2] = has;
            given[3] = house;
            given[4] = day;
            int top = 0;
            for (int i = 0; i < length && i < LONGEST; i++) {
                int item = code[i];
                if (item >= DAY) {
                    if (top >= MOST_UNITS) {
                        return 0;
                    }
                    stack[top] = item >= 0 ? item : given[-1 - item];
                    top++;
                } else if (item == NOT) {
                    if (top < 1) {
                        return 0;
                    }
                    stack[top - 1] = stack[top - 1] == 0 ? 1 : 0;
                } else {
                    if (top < 2) {
                        return 0;
                    }
                    top--;
                    stack[top - 1] = join(item, stack[top - 1], stack[top]);
                }
            }
            return stack[0];
        }

        static int join(int item, int left, int right) {
            switch (item) {
                case OR:
                    return left != 0 || right != 0 ? 1 : 0;
                case AND:
                    return left != 0 && right != 0 ? 1 : 0;
                case LESS:
                    return left < right ? 1 : 0;
                case MORE:
                    return left > right ? 1 : 0;
                case SAME:
                    return left == right ? 1 : 0;
                case PLUS:
                    return left + right;
                case MINUS:
                    return left - right;
                case TIMES:
                    return left * right;
                case OVER:
                    return right == 0 ? 0 : left / right;
                case REST:
                    return right == 0 ? 0 : left % right;
                default:
                    return 0;
            }
        }
    }

    /** What can be taken back: cares, who knows, where the hair is, the day, the seed. */
    private static final class State {
        static final int SIZE = 2 * MOST_PERSONS + 4;

        final int[] cares = new int[MOST_PERSONS];
        final int[] knows = new int[MOST_PERSONS];
        int hair = BRUSH;
        int day;
        int seed;
        boolean dyed;

        void copy(State other) {
            for (int i = 0; i < MOST_PERSONS; i++) {
                cares[i] = other.cares[i];
                knows[i] = other.knows[i];
            }
            hair = other.hair;
            day = other.day;
            seed = other.seed;
            dyed = other.dyed;
        }

        void write(int[] rows, int slot) {
            int at = slot * SIZE;
            if (at < 0 || at > rows.length - SIZE) {
                return;
            }
            for (int i = 0; i < MOST_PERSONS; i++) {
                rows[at + i] = cares[i];
                rows[at + MOST_PERSONS + i] = knows[i];
            }
            rows[at + SIZE - 4] = hair;
            rows[at + SIZE - 3] = day;
            rows[at + SIZE - 2] = seed;
            rows[at + SIZE - 1] = dyed ? 1 : 0;
        }

        void read(int[] rows, int slot) {
            int at = slot * SIZE;
            if (at < 0 || at > rows.length - SIZE) {
                return;
            }
            for (int i = 0; i < MOST_PERSONS; i++) {
                cares[i] = rows[at + i];
                knows[i] = rows[at + MOST_PERSONS + i];
            }
            hair = rows[at + SIZE - 4];
            day = rows[at + SIZE - 3];
            seed = rows[at + SIZE - 2];
            dyed = rows[at + SIZE - 1] == 1;
        }

        int change(int person, int by) {
            cares[person] = within(cares[person] + by, MOST_CARE);
            return cares[person];
        }

        boolean isKnown(int person, int other) {
            return ((knows[person] >> other) & 1) == 1;
        }

        int countKnows() {
            int count = 0;
            for (int i = 0; i < MOST_PERSONS; i++) {
                count += Integer.bitCount(knows[i]);
            }
            return count;
        }

        int knowersOf(int other) {
            int set = 0;
            for (int i = 0; i < MOST_PERSONS; i++) {
                if (isKnown(i, other)) {
                    set |= 1 << i;
                }
            }
            return set;
        }

        int sumCares() {
            return sumOf((1 << MOST_PERSONS) - 1);
        }

        int sumOf(int set) {
            int sum = 0;
            for (int i = 0; i < MOST_PERSONS && set >> i != 0; i++) {
                if (((set >> i) & 1) == 1) {
                    sum += cares[i];
                }
            }
            return sum;
        }

        boolean holdsFast() {
            return dyed && hair != BRUSH;
        }
    }

    /** The family as it was told, and how its days pass. */
    private static final class Family {
        static final int NO_NEWS = 0;
        static final int DRAWN_NEWS = -1;

        final long[] names = new long[MOST_PERSONS];
        final int[] houses = new int[MOST_PERSONS];
        final int[] firstCares = new int[MOST_PERSONS];
        final int[] firstKnows = new int[MOST_PERSONS];
        final int[] chances = new int[MOST_PERSONS];
        final int[] amounts = new int[MOST_PERSONS];
        final int[] grown = new int[MOST_PERSONS];
        final Formula worry = new Formula();
        final Formula grows = new Formula();
        int persons;
        int knowsTold;
        int newsTold;
        int ease = 1;
        int draw;
        int units;
        boolean easeIsTold;
        boolean drawIsTold;

        void clear() {
            for (int i = 0; i < MOST_PERSONS; i++) {
                names[i] = 0;
                houses[i] = 0;
                firstCares[i] = 0;
                firstKnows[i] = 0;
                chances[i] = 0;
                amounts[i] = 0;
            }
            worry.clear();
            grows.clear();
            persons = 0;
            knowsTold = 0;
            newsTold = 0;
            ease = 1;
            draw = 0;
            units = 0;
            easeIsTold = false;
            drawIsTold = false;
        }

        boolean hearsNews(int person) {
            return amounts[person] > 0;
        }

        /** As told, but for the care of one person, if there is such a one. */
        void begin(State state, int one, int care) {
            for (int i = 0; i < MOST_PERSONS; i++) {
                state.cares[i] = i == one ? care : firstCares[i];
                state.knows[i] = firstKnows[i];
            }
            state.day = 0;
            state.seed = draw;
            state.dyed = false;
            state.hair = BRUSH;
            state.hair = mostWorried(state, NONE);
        }

        int worryOf(State state, int person) {
            int care = state.cares[person];
            int known = state.sumOf(state.knows[person]);
            if (!worry.isTold) {
                return within(care + known / 2, MOST_WORRY);
            }
            int has = state.hair == person ? 1 : 0;
            return within(worry.value(care, known, has, houses[person], state.day), MOST_WORRY);
        }

        /** Whom the hair goes to, one person left out, if there is such a one. */
        int mostWorried(State state, int leftOut) {
            int found = BRUSH;
            int most = ease - 1;
            for (int i = 0; i < persons && i < MOST_PERSONS; i++) {
                if (i == leftOut) {
                    continue;
                }
                int much = worryOf(state, i);
                if (much > most) {
                    most = much;
                    found = i;
                }
            }
            return found;
        }

        int grownCare(State state, int person, int knownSet) {
            int care = state.cares[person];
            if (!grows.isTold) {
                return care;
            }
            int has = state.hair == person ? 1 : 0;
            int more = grows.value(care, state.sumOf(knownSet), has, houses[person], state.day);
            return within(care + more, MOST_CARE);
        }

        void grow(State state) {
            if (!grows.isTold) {
                return;
            }
            for (int i = 0; i < persons && i < MOST_PERSONS; i++) {
                grown[i] = grownCare(state, i, state.knows[i]);
            }
            for (int i = 0; i < persons && i < MOST_PERSONS; i++) {
                state.cares[i] = grown[i];
            }
        }

        /** To whom news come by the seed, as bits. */
        int drawNews(State state) {
            int set = 0;
            for (int i = 0; i < persons && i < MOST_PERSONS; i++) {
                if (!hearsNews(i)) {
                    continue;
                }
                state.seed = (state.seed * 137 + 71) % 1000;
                if (state.seed % 100 < chances[i]) {
                    set |= 1 << i;
                }
            }
            return set;
        }

        /** A day; news come to a set of persons, or as drawn. */
        void pass(State state, int news) {
            grow(state);
            int comers = news == DRAWN_NEWS ? drawNews(state) : news;
            for (int i = 0; i < persons && i < MOST_PERSONS; i++) {
                if (((comers >> i) & 1) == 1) {
                    state.change(i, amounts[i]);
                }
            }
            state.day++;
            if (!state.holdsFast()) {
                state.hair = mostWorried(state, NONE);
            }
            state.dyed = false;
        }
    }

    /** The tape, and the reading of a family from it up to the first fault. */
    private static final class Reader {
        static final int MOST_BYTES = 1600;
        static final int BYTES_FED = 20;
        static final int LONGEST_WORD = 8;
        static final int LONGEST_NUMBER = 4;
        static final int DEEPEST = 7;

        static final int NO_TOKEN = 1;
        static final int MISPLACED = 2;
        static final int TOLD_ALREADY = 3;
        static final int CANNOT_BE = 4;
        static final int NOBODY = 5;

        static final int END = 0;
        static final int WORD = 1;
        static final int NUMBER = 2;
        static final int SIGN = 3;
        static final int BROKEN = 4;

        // A word is held as its bytes in one long, so that words are compared without any text.
        static final long PERSON = 0x706572736F6EL;
        static final long OF = 0x6F66L;
        static final long CARES = 0x6361726573L;
        static final long NEWS = 0x6E657773L;
        static final long KNOWS = 0x6B6E6F7773L;
        static final long WORRY = 0x776F727279L;
        static final long GROWS = 0x67726F7773L;
        static final long EASE = 0x65617365L;
        static final long DRAW = 0x64726177L;
        static final long OR = 0x6F72L;
        static final long AND = 0x616E64L;
        static final long NOT = 0x6E6F74L;
        static final long CARE = 0x63617265L;
        static final long KNOWN = 0x6B6E6F776EL;
        static final long HAS = 0x686173L;
        static final long HOUSE = 0x686F757365L;
        static final long DAY = 0x646179L;
        static final long[] NO_NAMES = {
            PERSON, OF, CARES, NEWS, KNOWS, WORRY, GROWS, EASE, DRAW,
            OR, AND, NOT, CARE, KNOWN, HAS, HOUSE, DAY
        };
        static final String SIGNS = ";()<>=+-*/%";

        static final int OR_LEVEL = 0;
        static final int AND_LEVEL = 1;
        static final int ONE_LEVEL = 2;
        static final int SUM_LEVEL = 3;
        static final int TERM_LEVEL = 4;

        final byte[] tape = new byte[MOST_BYTES];
        int length;
        int fault;
        int place = NONE;
        int at;
        int kind;
        int start;
        long word;
        int number;
        char sign;

        boolean hasRoom() {
            return length <= MOST_BYTES - BYTES_FED;
        }

        void put(int four) {
            for (int shift = 24; shift >= 0; shift -= 8) {
                if (length >= 0 && length < MOST_BYTES) {
                    tape[length] = (byte) (four >> shift);
                    length++;
                }
            }
        }

        boolean read(Family family) {
            family.clear();
            fault = 0;
            place = NONE;
            at = 0;
            advance();
            for (int lines = 0; lines <= MOST_BYTES; lines++) {
                if (kind == END) {
                    family.units = family.worry.units + family.grows.units;
                    return true;
                }
                if (!readLine(family)) {
                    return false;
                }
            }
            return refuse();
        }

        boolean readLine(Family family) {
            if (kind != WORD) {
                return refuse();
            }
            if (word == PERSON) {
                return readPerson(family);
            }
            if (word == KNOWS) {
                return readKnows(family);
            }
            if (word == WORRY) {
                return readFormula(family.worry);
            }
            if (word == GROWS) {
                return readFormula(family.grows);
            }
            if (word == EASE) {
                return readEase(family);
            }
            if (word == DRAW) {
                return readDraw(family);
            }
            return refuse();
        }

        boolean readPerson(Family family) {
            int who = family.persons;
            if (who >= MOST_PERSONS) {
                return refuse();
            }
            advance();
            if (!isName()) {
                return refuse();
            }
            if (findPerson(family) != NONE) {
                return fail(TOLD_ALREADY);
            }
            family.names[who] = word;
            family.persons = who + 1;
            advance();
            family.houses[who] = readNumber(OF, 0, 1);
            if (fault != 0) {
                return false;
            }
            family.firstCares[who] = readNumber(CARES, 0, MOST_CARE);
            if (fault != 0) {
                return false;
            }
            if (!isWord(NEWS)) {
                return readSign(';');
            }
            if (family.newsTold >= MOST_NEWS) {
                return refuse();
            }
            family.newsTold++;
            family.chances[who] = readNumber(NEWS, 0, 100);
            if (fault != 0) {
                return false;
            }
            family.amounts[who] = readNumber(OF, 1, 20);
            return fault == 0 && readSign(';');
        }

        boolean readKnows(Family family) {
            if (family.knowsTold >= MOST_KNOWS) {
                return refuse();
            }
            advance();
            int who = readKnownName(family);
            if (who == NONE) {
                return false;
            }
            advance();
            int whom = readKnownName(family);
            if (whom == NONE) {
                return false;
            }
            if (who == whom || ((family.firstKnows[who] >> whom) & 1) == 1) {
                return fail(TOLD_ALREADY);
            }
            family.firstKnows[who] |= 1 << whom;
            family.knowsTold++;
            advance();
            return readSign(';');
        }

        boolean readFormula(Formula formula) {
            if (formula.isTold) {
                return refuse();
            }
            formula.isTold = true;
            advance();
            return chain(formula, 0, OR_LEVEL) && readSign(';');
        }

        boolean readEase(Family family) {
            if (family.easeIsTold) {
                return refuse();
            }
            family.easeIsTold = true;
            family.ease = readNumber(EASE, 0, 999);
            return fault == 0 && readSign(';');
        }

        boolean readDraw(Family family) {
            if (family.drawIsTold) {
                return refuse();
            }
            family.drawIsTold = true;
            family.draw = readNumber(DRAW, 0, 999);
            return fault == 0 && readSign(';');
        }

        private boolean chain(Formula formula, int depth, int level) {
            if (!part(formula, depth, level + 1)) {
                return false;
            }
            for (int i = 0; i < MOST_BYTES; i++) {
                int joint = jointAt(level);
                if (joint == 0) {
                    return true;
                }
                advance();
                if (!part(formula, depth, level + 1)) {
                    return false;
                }
                formula.append(joint);
            }
            return refuse();
        }

        private boolean part(Formula formula, int depth, int level) {
            if (level == ONE_LEVEL) {
                return one(formula, depth);
            }
            if (level > TERM_LEVEL) {
                return unit(formula, depth);
            }
            return chain(formula, depth, level);
        }

        private boolean one(Formula formula, int depth) {
            if (isWord(NOT)) {
                if (depth >= DEEPEST) {
                    return refuse();
                }
                advance();
                if (!one(formula, depth + 1)) {
                    return false;
                }
                formula.append(Formula.NOT);
                return true;
            }
            if (!chain(formula, depth, SUM_LEVEL)) {
                return false;
            }
            int joint = jointAt(ONE_LEVEL);
            if (joint == 0) {
                return true;
            }
            advance();
            if (!chain(formula, depth, SUM_LEVEL)) {
                return false;
            }
            formula.append(joint);
            return true;
        }

        private boolean unit(Formula formula, int depth) {
            if (formula.units >= Formula.MOST_UNITS) {
                return refuse();
            }
            formula.units++;
            if (isSign('(')) {
                if (depth >= DEEPEST) {
                    return refuse();
                }
                advance();
                return chain(formula, depth + 1, OR_LEVEL) && readSign(')');
            }
            if (kind == NUMBER) {
                formula.append(number);
            } else if (kind == WORD && givenAt() != 0) {
                formula.append(givenAt());
            } else {
                return refuse();
            }
            advance();
            return true;
        }

        /** What joins the parts of a level here; 0 if nothing does. */
        int jointAt(int level) {
            if (kind == WORD) {
                if (level == OR_LEVEL && word == OR) {
                    return Formula.OR;
                }
                return level == AND_LEVEL && word == AND ? Formula.AND : 0;
            }
            if (kind != SIGN) {
                return 0;
            }
            switch (sign) {
                case '<':
                    return level == ONE_LEVEL ? Formula.LESS : 0;
                case '>':
                    return level == ONE_LEVEL ? Formula.MORE : 0;
                case '=':
                    return level == ONE_LEVEL ? Formula.SAME : 0;
                case '+':
                    return level == SUM_LEVEL ? Formula.PLUS : 0;
                case '-':
                    return level == SUM_LEVEL ? Formula.MINUS : 0;
                case '*':
                    return level == TERM_LEVEL ? Formula.TIMES : 0;
                case '/':
                    return level == TERM_LEVEL ? Formula.OVER : 0;
                case '%':
                    return level == TERM_LEVEL ? Formula.REST : 0;
                default:
                    return 0;
            }
        }

        int givenAt() {
            if (word == CARE) {
                return Formula.CARE;
            }
            if (word == KNOWN) {
                return Formula.KNOWN;
            }
            if (word == HAS) {
                return Formula.HAS;
            }
            if (word == HOUSE) {
                return Formula.HOUSE;
            }
            return word == DAY ? Formula.DAY : 0;
        }

        boolean isName() {
            if (kind != WORD) {
                return false;
            }
            for (int i = 0; i < NO_NAMES.length; i++) {
                if (NO_NAMES[i] == word) {
                    return false;
                }
            }
            return true;
        }

        int findPerson(Family family) {
            for (int i = 0; i < family.persons && i < MOST_PERSONS; i++) {
                if (family.names[i] == word) {
                    return i;
                }
            }
            return NONE;
        }

        /** The token stays, so that a fault of two names together is told at it. */
        int readKnownName(Family family) {
            if (!isName()) {
                refuse();
                return NONE;
            }
            int who = findPerson(family);
            if (who == NONE) {
                fail(NOBODY);
            }
            return who;
        }

        /** The number behind a word; if it is not as it must be, there is a fault then. */
        int readNumber(long ahead, int least, int most) {
            if (!isWord(ahead)) {
                refuse();
                return 0;
            }
            advance();
            if (kind != NUMBER) {
                refuse();
                return 0;
            }
            if (number < least || number > most) {
                fail(CANNOT_BE);
                return 0;
            }
            int value = number;
            advance();
            return value;
        }

        boolean readSign(char which) {
            if (!isSign(which)) {
                return refuse();
            }
            advance();
            return true;
        }

        boolean isWord(long which) {
            return kind == WORD && word == which;
        }

        boolean isSign(char which) {
            return kind == SIGN && sign == which;
        }

        boolean refuse() {
            return fail(kind == BROKEN ? NO_TOKEN : MISPLACED);
        }

        boolean fail(int which) {
            fault = which;
            place = start;
            return false;
        }

        void advance() {
            int i = at;
            while (i < length && (tape[i] == ' ' || tape[i] == '\n')) {
                i++;
            }
            start = i;
            at = i;
            if (i >= length) {
                kind = END;
            } else if (isLetter(i)) {
                scanWord();
            } else if (isDigit(i)) {
                scanNumber();
            } else {
                sign = (char) (tape[i] & 255);
                kind = SIGNS.indexOf(sign) >= 0 ? SIGN : BROKEN;
                at = i + 1;
            }
        }

        void scanWord() {
            word = 0;
            for (; at < length && isLetter(at); at++) {
                word = (word << 8) | tape[at];
            }
            kind = at - start <= LONGEST_WORD ? WORD : BROKEN;
        }

        void scanNumber() {
            number = 0;
            for (; at < length && isDigit(at); at++) {
                number = number * 10 + tape[at] - '0';
            }
            kind = at - start <= LONGEST_NUMBER && !isLetter(at) ? NUMBER : BROKEN;
        }

        boolean isLetter(int i) {
            return i >= 0 && i < length && i < MOST_BYTES && tape[i] >= 'a' && tape[i] <= 'z';
        }

        boolean isDigit(int i) {
            return i >= 0 && i < length && i < MOST_BYTES && tape[i] >= '0' && tape[i] <= '9';
        }
    }

    /** The acts that are kept: the states ahead of them and behind them, in a ring. */
    private static final class History {
        static final int MOST_ACTS = 40;
        static final int SLOTS = MOST_ACTS + 1;

        final int[] rows = new int[SLOTS * State.SIZE];
        int first;
        int behind;
        int last;

        void clear() {
            behind = 0;
            last = 0;
        }

        int countAhead() {
            return last - behind;
        }

        int slot() {
            return (first + behind) % SLOTS;
        }

        /** To be called ahead of an act. */
        void keep(State state) {
            state.write(rows, slot());
            if (behind < MOST_ACTS) {
                behind++;
            } else {
                first = (first + 1) % SLOTS;
            }
            last = behind;
        }

        boolean stepBack(State state) {
            if (behind == 0) {
                return false;
            }
            state.write(rows, slot());
            behind--;
            state.read(rows, slot());
            return true;
        }

        boolean stepOn(State state) {
            if (behind == last) {
                return false;
            }
            behind++;
            state.read(rows, slot());
            return true;
        }
    }

    /** The boxes that images are kept in. */
    private static final class Boxes {
        static final int COUNT = 3;

        final int[] rows = new int[COUNT * State.SIZE];
        final boolean[] isFull = new boolean[COUNT];

        void clear() {
            for (int i = 0; i < COUNT; i++) {
                isFull[i] = false;
            }
        }

        boolean store(State state, int box) {
            if (box < 0 || box >= COUNT) {
                return false;
            }
            state.write(rows, box);
            isFull[box] = true;
            return true;
        }

        boolean load(State state, int box) {
            if (box < 0 || box >= COUNT || !isFull[box]) {
                return false;
            }
            state.read(rows, box);
            return true;
        }
    }

    /** What would come of what is now; the state that is asked of stays as it is. */
    private static final class Outlook {
        static final int SETS = 1 << MOST_PERSONS;
        static final int MOST_SETS = 1 << MOST_KNOWS;
        static final int STAKES = 10;

        final State trial = new State();
        final int[] who = new int[MOST_KNOWS];
        final int[] whom = new int[MOST_KNOWS];
        final int[] knownThen = new int[MOST_PERSONS];
        // by person and by the set of those of whose cares he knows: his care behind a day
        final int[] careThen = new int[MOST_PERSONS * SETS];
        final int[] winners = new int[STAKES * STAKES];
        final int[] grooms = new int[MOST_PERSONS];
        final int[] brides = new int[MOST_PERSONS];
        int knowsCount;
        int suspect;

        State after(Family family, State now, int days, int news) {
            trial.copy(now);
            for (int i = 0; i < days; i++) {
                family.pass(trial, news);
            }
            return trial;
        }

        int findSpare(Family family, State now, int person, int days, int what) {
            if (family.persons < 2) {
                return NONE;
            }
            int firstOther = person == 0 ? 1 : 0;
            if (isSpared(family, now, person, days, firstOther, 0)) {
                return what == 0 ? 0 : firstOther;
            }
            for (int more = 1; more <= MOST_CARE; more++) {
                for (int other = 0; other < family.persons; other++) {
                    // more than up to the most care changes nothing, and less was tried already
                    if (other == person || more > MOST_CARE - now.cares[other]) {
                        continue;
                    }
                    if (isSpared(family, now, person, days, other, more)) {
                        return what == 0 ? more : other;
                    }
                }
            }
            return NONE;
        }

        boolean isSpared(Family family, State now, int person, int days, int other, int more) {
            trial.copy(now);
            trial.change(other, more);
            for (int i = 0; i < days; i++) {
                family.pass(trial, Family.NO_NEWS);
                if (trial.hair == person) {
                    return false;
                }
            }
            return true;
        }

        int findEasing(Family family, State now, int person) {
            for (int less = 0; less <= now.cares[person]; less++) {
                if (isSpared(family, now, person, 1, person, -less)) {
                    return less;
                }
            }
            return NONE;
        }

        /** The knows to be forgotten, as bits. */
        int findHush(Family family, State now) {
            if (now.holdsFast()) {
                return NONE;
            }
            listKnows(now);
            foreseeCares(family, now);
            suspect = 0;
            if (isHushed(family, now, 0)) {
                return 0;
            }
            int sets = 1 << knowsCount;
            for (int size = 1; size <= knowsCount; size++) {
                int set = (1 << size) - 1;
                for (int tries = 0; tries < MOST_SETS && set < sets; tries++) {
                    if (isHushed(family, now, set)) {
                        return set;
                    }
                    set = nextOfSameSize(set);
                }
            }
            return NONE;
        }

        static int nextOfSameSize(int set) {
            int lowest = set & -set;
            if (lowest == 0) {
                return MOST_SETS;
            }
            int carried = set + lowest;
            return carried | (((carried ^ set) / lowest) >> 2);
        }

        void listKnows(State now) {
            knowsCount = 0;
            for (int person = 0; person < MOST_PERSONS; person++) {
                for (int other = 0; other < MOST_PERSONS; other++) {
                    if (now.isKnown(person, other) && knowsCount < MOST_KNOWS) {
                        who[knowsCount] = person;
                        whom[knowsCount] = other;
                        knowsCount++;
                    }
                }
            }
        }

        void foreseeCares(Family family, State now) {
            for (int person = 0; person < family.persons; person++) {
                for (int set = 0; set < SETS; set++) {
                    if ((set & ~now.knows[person]) == 0) {
                        careThen[person * SETS + set] = family.grownCare(now, person, set);
                    }
                }
            }
        }

        boolean isHushed(Family family, State now, int forgotten) {
            for (int i = 0; i < MOST_PERSONS; i++) {
                knownThen[i] = 0;
            }
            for (int i = 0; i < knowsCount && i < MOST_KNOWS; i++) {
                if (((forgotten >> i) & 1) == 0) {
                    knownThen[who[i]] |= 1 << whom[i];
                }
            }
            trial.hair = now.hair;
            trial.day = now.day + 1;
            for (int i = 0; i < family.persons; i++) {
                trial.cares[i] = careThen[i * SETS + knownThen[i]];
                trial.knows[i] = knownThen[i];
            }
            // who kept the last set from being enough most likely keeps this one, too
            if (suspect < family.persons && family.worryOf(trial, suspect) >= family.ease) {
                return false;
            }
            for (int i = 0; i < family.persons; i++) {
                if (i != suspect && family.worryOf(trial, i) >= family.ease) {
                    suspect = i;
                    return false;
                }
            }
            return true;
        }

        /** Whom each is wed to comes into the row. */
        int findWedding(Family family, State now, int[] row) {
            int groomCount = listHouse(family, 0, grooms);
            int brideCount = listHouse(family, 1, brides);
            int pairs = Math.min(groomCount, brideCount);
            if (pairs == 0) {
                return NONE;
            }
            int ways = 1;
            for (int i = 0; i < groomCount; i++) {
                ways *= brideCount + 1;
            }
            int best = NONE;
            int bestWay = 0;
            for (int way = 0; way < ways; way++) {
                int most = mostOfWay(now, way, groomCount, brideCount, pairs);
                if (most != NONE && (best == NONE || most < best)) {
                    best = most;
                    bestWay = way;
                }
            }
            putWedding(family, bestWay, groomCount, brideCount, row);
            return best;
        }

        static int listHouse(Family family, int house, int[] row) {
            int count = 0;
            for (int i = 0; i < family.persons && i < row.length; i++) {
                if (family.houses[i] == house) {
                    row[count] = i;
                    count++;
                }
            }
            return count;
        }

        /**
         * A way is a number whose digits are whom each of house 0 is wed to, the first one's the
         * highest and nobody behind all, so that lesser ways are those that come first.
         */
        int mostOfWay(State now, int way, int groomCount, int brideCount, int pairs) {
            int rest = way;
            int used = 0;
            int wed = 0;
            int most = 0;
            for (int i = groomCount - 1; i >= 0; i--) {
                int choice = rest % (brideCount + 1);
                rest = rest / (brideCount + 1);
                if (choice >= brideCount) {
                    continue;
                }
                if (((used >> choice) & 1) == 1) {
                    return NONE;
                }
                used |= 1 << choice;
                wed++;
                most = Math.max(most, now.cares[grooms[i]] + now.cares[brides[choice]]);
            }
            return wed == pairs ? most : NONE;
        }

        void putWedding(Family family, int way, int groomCount, int brideCount, int[] row) {
            for (int i = 0; i < family.persons && i < row.length; i++) {
                row[i] = NONE;
            }
            int rest = way;
            for (int i = groomCount - 1; i >= 0; i--) {
                int choice = rest % (brideCount + 1);
                rest = rest / (brideCount + 1);
                if (choice < brideCount) {
                    row[grooms[i]] = brides[choice];
                    row[brides[choice]] = grooms[i];
                }
            }
        }

        int countNights(Family family, State now, int person, int days) {
            trial.copy(now);
            int count = 0;
            for (int i = 0; i < days; i++) {
                family.pass(trial, Family.NO_NEWS);
                if (trial.hair == person) {
                    count++;
                }
            }
            return count;
        }

        int firstNight(Family family, State now, int person) {
            trial.copy(now);
            for (int i = 1; i <= MOST_AHEAD; i++) {
                family.pass(trial, Family.NO_NEWS);
                if (trial.hair == person) {
                    return i;
                }
            }
            return NONE;
        }

        void putInOrder(Family family, State now, int[] row) {
            for (int i = 0; i < family.persons && i < row.length; i++) {
                int much = family.worryOf(now, i);
                int at = i;
                while (at > 0 && family.worryOf(now, row[at - 1]) < much) {
                    row[at] = row[at - 1];
                    at--;
                }
                row[at] = i;
            }
        }

        int countWords(Family family, State now) {
            int asItIs = after(family, now, 1, Family.NO_NEWS).hair;
            int count = 0;
            for (int person = 0; person < family.persons; person++) {
                if (person == asItIs) {
                    continue;
                }
                for (int other = 0; other < family.persons; other++) {
                    if (other == person || now.isKnown(person, other)) {
                        continue;
                    }
                    trial.copy(now);
                    trial.knows[person] |= 1 << other;
                    family.pass(trial, Family.NO_NEWS);
                    if (trial.hair == person) {
                        count++;
                    }
                }
            }
            return count;
        }

        int findCalm(Family family, State now) {
            if (family.persons == 0) {
                return 0;
            }
            if (now.holdsFast()) {
                return NONE;
            }
            trial.copy(now);
            family.grow(trial);
            trial.day++;
            int most = 0;
            for (int i = 0; i < family.persons; i++) {
                most = Math.max(most, family.worryOf(trial, i));
            }
            return most < MOST_WORRY ? most + 1 : NONE;
        }

        int findOdds(Family family, State now, int person, int part) {
            int upper = 0;
            int lower = 1;
            for (int i = 0; i < family.persons; i++) {
                lower *= family.hearsNews(i) ? 100 : 1;
            }
            for (int set = 0; set < SETS; set++) {
                int weight = weightOf(family, set);
                if (weight == 0) {
                    continue;
                }
                trial.copy(now);
                family.pass(trial, set);
                if (trial.hair == person) {
                    upper += weight;
                }
            }
            int common = commonDivisor(lower, upper);
            if (common == 0) {
                return NONE;
            }
            return part == 0 ? upper / common : lower / common;
        }

        /** How often in all cases news come to just these; 0 if they can't. */
        static int weightOf(Family family, int set) {
            int weight = 1;
            for (int i = 0; i < MOST_PERSONS; i++) {
                boolean comes = ((set >> i) & 1) == 1;
                if (i < family.persons && family.hearsNews(i)) {
                    weight *= comes ? family.chances[i] : 100 - family.chances[i];
                } else if (comes) {
                    return 0;
                }
            }
            return weight;
        }

        static int commonDivisor(int a, int b) {
            int greater = a;
            int lesser = b;
            for (int i = 0; i < 64 && lesser != 0; i++) {
                int rest = greater % lesser;
                greater = lesser;
                lesser = rest;
            }
            return greater;
        }

        /** What both take on in the first rest comes into the row. */
        int countRests(Family family, State now, int person, int other, int[] row) {
            for (int i = 0; i < STAKES * STAKES; i++) {
                trial.copy(now);
                trial.change(person, i / STAKES);
                trial.change(other, i % STAKES);
                family.pass(trial, Family.NO_NEWS);
                winners[i] = trial.hair;
            }
            int count = 0;
            for (int i = 0; i < STAKES * STAKES; i++) {
                int mine = i / STAKES;
                int his = i % STAKES;
                if (bestStake(his, STAKES, person) != mine || bestStake(mine * STAKES, 1, other) != his) {
                    continue;
                }
                if (count == 0 && row.length > 1) {
                    row[0] = mine;
                    row[1] = his;
                }
                count++;
            }
            return count;
        }

        /** The least stake that brings him the hair; none at all is best if no stake does. */
        int bestStake(int from, int step, int person) {
            for (int i = 0; i < STAKES; i++) {
                int at = from + i * step;
                if (at >= 0 && at < winners.length && winners[at] == person) {
                    return i;
                }
            }
            return 0;
        }

        int followPath(Family family, State now, int days, int[] row) {
            trial.copy(now);
            int count = 0;
            for (int i = 0; i < days && i < row.length; i++) {
                family.pass(trial, Family.NO_NEWS);
                row[i] = trial.hair;
                if (trial.hair == BRUSH) {
                    count++;
                }
            }
            return count;
        }

        /** Those of whose cares he must know no more, as bits. */
        int findSilence(Family family, State now, int person) {
            int found = NONE;
            int fewest = MOST_PERSONS + 1;
            for (int set = 0; set < SETS; set++) {
                int size = Integer.bitCount(set);
                if (size >= fewest || (set & ~now.knows[person]) != 0) {
                    continue;
                }
                trial.copy(now);
                trial.knows[person] &= ~set;
                family.pass(trial, Family.NO_NEWS);
                if (trial.hair != person) {
                    found = set;
                    fewest = size;
                }
            }
            return found;
        }
    }

    /** Where the hair was seen, and which cares of the last person fit that. */
    private static final class Sights {
        static final int MOST = 30;
        static final int DAYS = 10;
        static final int CARES = MOST_CARE + 1;

        final int[] days = new int[MOST];
        final int[] persons = new int[MOST];
        final boolean[] was = new boolean[MOST];
        final int[] toldAt = new int[MOST];
        final int[] untoldAt = new int[MOST];
        final State trial = new State();
        // by the last one's care and the day: whom the hair was on; made when first asked for
        final byte[] hairs = new byte[CARES * DAYS];
        final boolean[] isFitting = new boolean[CARES];
        final int[] left = new int[MOST_PERSONS + 1];
        int count;
        boolean hairsAreMade;

        void clear() {
            count = 0;
            hairsAreMade = false;
        }

        int add(int day, int person, boolean is, int time) {
            if (day < 0 || day >= DAYS || count >= MOST) {
                return NONE;
            }
            days[count] = day;
            persons[count] = person;
            was[count] = is;
            toldAt[count] = time;
            untoldAt[count] = NONE;
            count++;
            return count - 1;
        }

        boolean takeBack(int which, int time) {
            if (which < 0 || which >= count || untoldAt[which] != NONE) {
                return false;
            }
            untoldAt[which] = time;
            return true;
        }

        void makeHairs(Family family) {
            if (hairsAreMade) {
                return;
            }
            for (int care = 0; care < CARES; care++) {
                family.begin(trial, family.persons - 1, care);
                hairs[care * DAYS] = (byte) trial.hair;
                for (int day = 1; day < DAYS; day++) {
                    family.pass(trial, Family.NO_NEWS);
                    hairs[care * DAYS + day] = (byte) trial.hair;
                }
            }
            hairsAreMade = true;
        }

        int countFitting(Family family, int k) {
            if (family.persons > 0) {
                makeHairs(family);
            }
            int fitting = 0;
            for (int care = 0; care < CARES; care++) {
                isFitting[care] = family.persons > 0 && fitsAll(care, k);
                if (isFitting[care]) {
                    fitting++;
                }
            }
            return fitting;
        }

        boolean fitsAll(int care, int k) {
            for (int i = 0; i < count && i < MOST; i++) {
                boolean wasThere = hairs[care * DAYS + days[i]] == persons[i];
                if (counts(i, k) && wasThere != was[i]) {
                    return false;
                }
            }
            return true;
        }

        boolean counts(int which, int k) {
            boolean isUntold = untoldAt[which] != NONE && untoldAt[which] <= k;
            return toldAt[which] <= k && !isUntold;
        }

        int leastFitting() {
            for (int care = 0; care < CARES; care++) {
                if (isFitting[care]) {
                    return care;
                }
            }
            return NONE;
        }

        int greatestFitting() {
            for (int care = CARES - 1; care >= 0; care--) {
                if (isFitting[care]) {
                    return care;
                }
            }
            return NONE;
        }

        int bestDay() {
            int best = 0;
            int fewest = mostLeft(0);
            for (int day = 1; day < DAYS; day++) {
                int most = mostLeft(day);
                if (most < fewest) {
                    fewest = most;
                    best = day;
                }
            }
            return best;
        }

        /** How many fitting cares a look on this day would leave at the most. */
        int mostLeft(int day) {
            for (int i = 0; i < left.length; i++) {
                left[i] = 0;
            }
            int most = 0;
            for (int care = 0; care < CARES; care++) {
                int at = hairs[care * DAYS + day] + 1;
                if (isFitting[care] && at >= 0 && at < left.length) {
                    left[at]++;
                    most = Math.max(most, left[at]);
                }
            }
            return most;
        }
    }
}

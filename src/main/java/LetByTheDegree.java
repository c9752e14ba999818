import java.util.NoSuchElementException;

/**
 * A house of ice, let room by room, in which one is charged for every warmth.
 * What each call promises is told in ../shared/DOC.md; words in capitals are that document's.
 */
public final class LetByTheDegree {
    public static final int NONE = -1;

    /** ROOMS are numbered as if every storey had three columns. */
    private static final int WIDTH = 3;
    private static final int ROOMS = 9;
    private static final int PERSONS = 5;
    private static final int CYCLE = 6;
    private static final int DOINGS = PERSONS * CYCLE;
    private static final int MOST_ICE = 99;
    private static final int HOURS_TO_COME = 100;

    /** Told for one who is OUT and for a stove that is nowhere, where below 0 would be a refusal. */
    private static final int NO_ROOM = 9;

    /** What is read behind the last sign of a text. */
    private static final int END = -1;

    private final Signs text = new Signs();
    private final House house = new House();
    private final State state = new State();
    private final State scratch = new State();
    private final Course course = new Course(house);
    private final Past past = new Past();
    private final RuleReader ruleReader = new RuleReader(text);
    private final Winter acts = new Winter(text);
    private final Lodging lodging = new Lodging(house, course);
    private final Silence silence = new Silence(house, course);
    private final StoveWay stoveWay = new StoveWay(house, course);
    private final Thaws thaws = new Thaws(house, course);
    private final long[] numbers = new long[ROOMS];
    private int numbersTold;

    public LetByTheDegree() {
    }

    // ---- the house, the people

    public int sign(int v) {
        return text.append(v) ? text.length : NONE;
    }

    public boolean end(int n) {
        return text.cut(n);
    }

    public int house() {
        boolean right = house.readHouse(text);
        text.empty();
        if (!right) {
            return -1 - text.at;
        }
        int rooms = house.build(state);
        past.forgetDone();
        past.forgetKept();
        return rooms;
    }

    public int people() {
        boolean right = house.readPeople(text);
        text.empty();
        if (!right) {
            return -1 - text.at;
        }
        if (house.toldLines > 0) {
            house.admit(state);
            past.forgetDone();
        }
        return house.toldLines;
    }

    public int rule() {
        if (text.length == 0) {
            house.rule.becomeUntold();
            return 0;
        }
        boolean right = ruleReader.read();
        text.empty();
        if (!right) {
            return -1 - text.at;
        }
        house.rule.become(ruleReader.code, ruleReader.size);
        return 0;
    }

    public int room(int room, int what) throws NoSuchElementException {
        if (!house.has(room)) {
            throw new NoSuchElementException("no such room");
        }
        switch (what) {
            case 0: return state.ice[room];
            case 1: return state.water[room];
            case 2: return course.warmthIn(state, room);
            case 3: return course.meltsIn(state, room);
            case 4: return house.bitsIn(state, room);
            case 5: return state.stove == room ? 1 : 0;
            default: throw new NoSuchElementException("nothing such is told of a room");
        }
    }

    public int person(int person, int what) throws NoSuchElementException {
        if (!house.knows(person)) {
            throw new NoSuchElementException("no such person");
        }
        switch (what) {
            case 0: return state.where[person];
            case 1: return state.owes[person];
            case 2: return state.fell[person];
            case 3: return course.warmOf(person, state.now);
            case 4: return house.wholeCycle(person);
            default: throw new NoSuchElementException("nothing such is told of a person");
        }
    }

    public int set(int what, int v) {
        if (what < 0 || what > 2 || v < 0 || v > 9) {
            return NONE;
        }
        int was;
        if (what == 0) {
            was = house.heat;
            house.heat = v;
        } else if (what == 1) {
            was = state.frost;
            state.frost = v;
        } else {
            was = house.price;
            house.price = v;
        }
        return was;
    }

    public int doing(int person, int k, int v) {
        if (!house.knows(person) || k < 0 || k >= CYCLE || v < 0 || v > 9) {
            return NONE;
        }
        int was = house.doings[person * CYCLE + k];
        house.doings[person * CYCLE + k] = v;
        return was;
    }

    public int sheet(int kind, int n, int f, int step) {
        if (kind < 0 || kind > 3 || n > ROOMS) {
            return NONE;
        }
        boolean missing = kind == 3;
        if (!missing && n < 0) {
            return -2;
        }
        int told = 0;
        int sum = 0;
        for (int r = 0; r < ROOMS; r++) {
            if (house.has(r)) {
                int ice = !missing && told < n ? entry(kind, f + told * step) : 0;
                state.ice[r] = ice;
                sum += ice;
                told++;
            }
        }
        return missing ? -3 : sum;
    }

    private static int entry(int kind, int v) {
        int told = kind == 0 ? (byte) v : kind == 1 ? (short) v : v;
        return Math.max(0, Math.min(MOST_ICE, told));
    }

    // ---- hours

    public int move(int person, int room) {
        int was = moveAnswer(person, room);
        if (was >= 0) {
            past.remember(state);
            state.where[person] = room;
        }
        return was;
    }

    /** What a move would answer, without making it. */
    private int moveAnswer(int person, int room) {
        if (!house.knows(person) || !house.has(room)) {
            return NONE;
        }
        int was = state.where[person];
        if (was == room) {
            return -2;
        }
        return was == NONE ? NO_ROOM : was;
    }

    public int stove(int room) {
        int was = stoveAnswer(room);
        if (was >= 0) {
            past.remember(state);
            state.stove = room;
        }
        return was;
    }

    /** What bringing the stove to a room would answer, without bringing it. */
    private int stoveAnswer(int room) {
        if (room != NONE && !house.has(room)) {
            return NONE;
        }
        if (state.stove == room) {
            return -2;
        }
        return state.stove == NONE ? NO_ROOM : state.stove;
    }

    public int hour() {
        return letPass(1);
    }

    public int hours(int n) {
        if (n < 0 || n > 60) {
            return NONE;
        }
        return letPass(n);
    }

    private int letPass(int n) {
        if (n > 0) {
            past.remember(state);
        }
        course.begin();
        course.goOn(state, n);
        tell(course.gave, course.fallen, state.pond);
        return course.melted;
    }

    public int pay(int person, int n) {
        if (!house.knows(person) || n < 1 || n > 9999 || state.owes[person] < n) {
            return NONE;
        }
        past.remember(state);
        state.owes[person] -= n;
        return state.owes[person];
    }

    public int winter() {
        boolean right = acts.read();
        text.empty();
        if (!right) {
            return -1 - text.at;
        }
        scratch.become(state);
        course.begin();
        int done = 0;
        while (done < acts.size && perform(done)) {
            done++;
        }
        if (done > 0) {
            past.remember(scratch);
        }
        tell(done < acts.size ? 1 : 0, course.melted, course.falls);
        return done;
    }

    /** Does an ACT of the winter that was read; false, and nothing done, if it can't be. */
    private boolean perform(int k) {
        int who = acts.who[k];
        int v = acts.value[k];
        switch (acts.kind[k]) {
            case 'h':
                course.goOn(state, v);
                return true;
            case 'f':
                state.frost = v;
                return true;
            case 'm':
                if (moveAnswer(who, v) < 0) {
                    return false;
                }
                state.where[who] = v;
                return true;
            default:
                if (stoveAnswer(v) < 0) {
                    return false;
                }
                state.stove = v;
                return true;
        }
    }

    public int undo() {
        return past.goBack(state) ? past.size : NONE;
    }

    // ---- hours to come

    public int thick(int room, int n) {
        if (n < 0 || n > HOURS_TO_COME) {
            return -2;
        }
        if (!house.has(room)) {
            return -3;
        }
        lookAhead(n);
        tell(scratch.water[room], scratch.pond);
        return scratch.ice[room];
    }

    /** Makes the scratch state what it would be in n HOURS. */
    private void lookAhead(int n) {
        scratch.become(state);
        course.goOn(scratch, n);
    }

    public int gives() {
        scratch.become(state);
        int floors = house.floors(scratch);
        for (int k = 1; k <= HOURS_TO_COME; k++) {
            course.goOn(scratch, 1);
            int gone = course.gaveLast & floors;
            if (gone != 0) {
                tell(firstOf(gone), course.fallenLast);
                return k;
            }
        }
        return -2;
    }

    private static int firstOf(int rooms) {
        for (int r = 0; r < ROOMS; r++) {
            if ((rooms >> r & 1) != 0) {
                return r;
            }
        }
        return NONE;
    }

    public int drips(int n) {
        if (n < 0 || n > HOURS_TO_COME) {
            return NONE;
        }
        lookAhead(n);
        int thickest = NONE;
        for (int r = 0; r < ROOMS; r++) {
            if (house.has(r) && (thickest == NONE || scratch.ice[r] > scratch.ice[thickest])) {
                thickest = r;
            }
        }
        tell(thickest, thickest == NONE ? 0 : scratch.ice[thickest]);
        return scratch.pond - state.pond;
    }

    public int coldest(int n) {
        if (n < 1 || n > HOURS_TO_COME) {
            return NONE;
        }
        for (int frost = 0; frost <= 9; frost++) {
            scratch.become(state);
            scratch.frost = frost;
            if (course.standing(scratch, n) == n) {
                return frost;
            }
        }
        return -2;
    }

    // ---- who lives where (all who are in ROOMS; unlike ROOMS; THE STOVE stays)

    public int lodge(int n) {
        if (n < 1 || n > 40) {
            return NONE;
        }
        if (house.inRooms(state) > Lodging.MOST) {
            return -3;
        }
        lodging.search(state, n, true);
        tell();
        if (lodging.ways > 0) {
            tellLodging();
        }
        return lodging.ways;
    }

    private void tellLodging() {
        for (int k = 0; k < lodging.size; k++) {
            add(lodging.best[k]);
        }
    }

    public int longest() {
        int lodgers = house.inRooms(state);
        if (lodgers > house.columns * house.storeys) {
            return -2;
        }
        if (lodgers > Lodging.MOST) {
            return -3;
        }
        lodging.search(state, HOURS_TO_COME, false);
        tell();
        tellLodging();
        return lodging.most;
    }

    public int quiet(int n) {
        if (n < 1 || n > 40) {
            return NONE;
        }
        if (!silence.search(state, n)) {
            return -2;
        }
        tell();
        for (int d = 0; d < DOINGS; d++) {
            if ((silence.leftOff >> d & 1) != 0) {
                add(d);
            }
        }
        return Integer.bitCount(silence.leftOff);
    }

    public int burden() {
        int most = NONE;
        int heaviest = NONE;
        for (int p = 0; p < house.persons; p++) {
            if (state.where[p] != NONE) {
                scratch.become(state);
                scratch.where[p] = NONE;
                int stood = course.standing(scratch, HOURS_TO_COME);
                if (stood > most) {
                    most = stood;
                    heaviest = p;
                }
            }
        }
        if (heaviest == NONE) {
            return -2;
        }
        scratch.become(state);
        tell(most, course.standing(scratch, HOURS_TO_COME));
        return heaviest;
    }

    // ---- shares, who was warm

    public int share(int person) {
        if (!house.knows(person)) {
            return NONE;
        }
        int room = state.where[person];
        if (!house.has(room)) {
            return -2;
        }
        int part = course.meltsIn(state, room) * course.warmOf(person, state.now);
        tellFraction(part, course.warmthIn(state, room));
        return 0;
    }

    private void tellFraction(long upper, long lower) {
        if (upper == 0 || lower == 0) {
            tell(0, 1);
            return;
        }
        long divisor = upper;
        long rest = lower;
        // Euclid's steps over longs are fewer than a hundred.
        for (int k = 0; k < 100 && rest != 0; k++) {
            long next = divisor % rest;
            divisor = rest;
            rest = next;
        }
        tell(divisor == 0 ? upper : upper / divisor, divisor == 0 ? lower : lower / divisor);
    }

    public int charges(int n) {
        if (n < 0 || n > HOURS_TO_COME) {
            return NONE;
        }
        scratch.become(state);
        tell();
        for (int p = 0; p < house.persons; p++) {
            add(0);
        }
        for (int k = 0; k < n; k++) {
            for (int p = 0; p < house.persons; p++) {
                if (scratch.where[p] != NONE) {
                    numbers[p] += course.warmOf(p, scratch.now);
                }
            }
            course.goOn(scratch, 1);
        }
        long greatest = 0;
        for (int p = 0; p < house.persons; p++) {
            greatest = Math.max(greatest, numbers[p]);
        }
        return (int) greatest;
    }

    public int warm(int room, int v) {
        if (!house.has(room) || v < 0 || v > MOST_ICE) {
            return NONE;
        }
        int least = NONE;
        int inAll = 0;
        int ways = 0;
        for (int set = 0; set < 1 << house.persons; set++) {
            if (course.meltsBySet(state, room, set) == v) {
                least = ways == 0 ? set : least;
                inAll = ways == 0 ? set : inAll & set;
                ways++;
            }
        }
        tell(least, inAll);
        return ways;
    }

    public int look() {
        int next = NONE;
        int most = 0;
        int greatest = 0;
        for (int r = 0; r < ROOMS; r++) {
            if (house.has(r)) {
                course.countMelts(state, r);
                if (course.unlikeMelts > most) {
                    next = r;
                    most = course.unlikeMelts;
                    greatest = course.greatestMelts;
                }
            }
        }
        if (next == NONE) {
            return -2;
        }
        tell(most, greatest);
        return next;
    }

    // ---- the stove

    public int carry(int n) {
        if (n < 1 || n > StoveWay.MOST) {
            return NONE;
        }
        if (state.stove == NONE) {
            return -2;
        }
        stoveWay.search(state, n);
        tell();
        for (int k = 0; k < n; k++) {
            add(stoveWay.best[k]);
        }
        return stoveWay.least;
    }

    public int hearth(int n) {
        if (n < 1 || n > 60) {
            return NONE;
        }
        int best = NONE;
        int least = 0;
        for (int r = 0; r < ROOMS; r++) {
            if (house.has(r)) {
                int melted = meltedWithStove(r, n);
                if (best == NONE || melted < least) {
                    best = r;
                    least = melted;
                }
            }
        }
        if (best == NONE) {
            return -2;
        }
        tell(least, meltedWithStove(NONE, n));
        return best;
    }

    private int meltedWithStove(int room, int n) {
        scratch.become(state);
        scratch.stove = room;
        course.begin();
        course.goOn(scratch, n);
        return course.melted;
    }

    // ---- each as he likes

    public int rests(int one, int other, int v) {
        if (!house.knows(one) || !house.knows(other) || one == other || v < 0 || v > MOST_ICE) {
            return NONE;
        }
        int room = state.where[one];
        if (!house.has(room) || state.where[other] != room) {
            return -2;
        }
        int ways = 0;
        int first = NONE;
        for (int way = 0; way < 4; way++) {
            boolean firstStays = gain(one, other, v, way, 0) >= gain(one, other, v, way ^ 1, 0);
            boolean secondStays = gain(one, other, v, way, 1) >= gain(one, other, v, way ^ 2, 1);
            if (firstStays && secondStays) {
                first = ways == 0 ? way : first;
                ways |= 1 << way;
            }
        }
        tell();
        if (ways != 0) {
            add(gain(one, other, v, first, 0));
            add(gain(one, other, v, first, 1));
        }
        return ways;
    }

    /** What the first (whose 0) or the second (1) of two in one room gets in a way. */
    private int gain(int one, int other, int v, int way, int whose) {
        int room = state.where[one];
        int warmth = course.warmthIn(state, room);
        if ((way & 1) == 0) {
            warmth -= course.warmOf(one, state.now);
        }
        if ((way & 2) == 0) {
            warmth -= course.warmOf(other, state.now);
        }
        int heads = Integer.bitCount(house.bitsIn(state, room));
        int melts = course.meltsBy(state, room, warmth, heads);
        return ((way >> whose & 1) != 0 ? v : 0) - melts;
    }

    // ---- water, thaws

    public int water() {
        int ice = 0;
        int water = 0;
        for (int r = 0; r < ROOMS; r++) {
            if (house.has(r)) {
                ice += state.ice[r];
                water += state.water[r];
            }
        }
        tell(ice, water, state.pond);
        return ice + water + state.pond;
    }

    public int thaw(int n, int p) {
        if (n < 1 || n > Thaws.MOST || p < 0 || p > 10) {
            return NONE;
        }
        thaws.search(state, n, p);
        tellFraction(thaws.weights[n], Thaws.whole(n));
        return 0;
    }

    public int leave(int p, int v) {
        if (p < 0 || p > 10 || v < 0 || v > 100) {
            return NONE;
        }
        thaws.search(state, Thaws.MOST, p);
        int most = 0;
        while (most < Thaws.MOST && thaws.weights[most + 1] * 100 >= v * Thaws.whole(most + 1)) {
            most++;
        }
        return most;
    }

    public int season(int seed, int n) {
        if (n < 1 || n > 60) {
            return NONE;
        }
        scratch.become(state);
        course.begin();
        course.forgetGiven();
        int r = seed;
        for (int k = 0; k < n; k++) {
            r = next(r);
            scratch.frost = draw(r, 10);
            r = next(r);
            course.feverish = draw(r, house.persons + 3);
            course.goOn(scratch, 1);
            course.countGiven();
        }
        course.feverish = NONE;
        int often = course.oftenestGiven();
        tell(course.melted, often, often == NONE ? 0 : course.given[often]);
        return course.falls;
    }

    private static int next(int r) {
        return r * 1103515245 + 12345;
    }

    private static int draw(int r, int n) {
        return n < 1 ? 0 : (r >>> 16) % n;
    }

    // ---- kept

    public boolean keep(int i) {
        return past.keepAs(i, state, house.persons);
    }

    public boolean again(int i) {
        return past.bringBack(i, state, house.persons);
    }

    public int count(int what) {
        switch (what) {
            case 0: return house.columns;
            case 1: return house.storeys;
            case 2: return house.persons;
            case 3: return house.bitsIn(state, NONE);
            case 4: return state.stove;
            case 5: return house.heat;
            case 6: return state.frost;
            case 7: return house.price;
            case 8: return state.now;
            case 9: return house.rooms & ~house.floors(state);
            case 10: return past.size;
            case 11: return numbersTold;
            case 12: return text.length;
            default: return -100;
        }
    }

    public long row(int i) throws NoSuchElementException {
        if (i < 0 || i >= numbersTold) {
            throw new NoSuchElementException("no such number of the row");
        }
        return numbers[i];
    }

    private void tell() {
        numbersTold = 0;
    }

    private void tell(long a, long b) {
        tell();
        add(a);
        add(b);
    }

    private void tell(long a, long b, long c) {
        tell(a, b);
        add(c);
    }

    private void add(long number) {
        if (numbersTold < numbers.length) {
            numbers[numbersTold] = number;
            numbersTold++;
        }
    }

    private static int digitOf(int sign) {
        return sign >= '0' && sign <= '9' ? sign - '0' : NONE;
    }

    /** THE TEXT, and the place at which it is read. */
    private static final class Signs {
        private static final int MOST = 80;
        private final char[] signs = new char[MOST];
        private int length;
        /** Where a sign can't stand, reading stays at it, also when THE TEXT is empty then. */
        private int at;
        private int stop;

        boolean append(int v) {
            if (length > MOST - 4) {
                return false;
            }
            for (int shift = 24; shift >= 0; shift -= 8) {
                signs[length] = (char) (v >>> shift & 255);
                length++;
            }
            return true;
        }

        boolean cut(int n) {
            if (n < 0 || n > length) {
                return false;
            }
            length = n;
            return true;
        }

        void empty() {
            length = 0;
        }

        /** It is read from its first sign on, so many of them at most. */
        void begin(int most) {
            at = 0;
            stop = most;
        }

        /** The sign that comes next, or END behind the last one that is read. */
        int next() {
            return at >= 0 && at < length && at < stop ? signs[at] : END;
        }

        int nextDigit() {
            return digitOf(next());
        }

        /** Goes on behind the next sign, if it is right: whether it was. */
        boolean step(boolean right) {
            if (right) {
                at++;
            }
            return right;
        }

        boolean stepOver(char sign) {
            return step(next() == sign);
        }

        /** Whether all of it has been read: a text of more signs than are read never is. */
        boolean ended() {
            return at >= length;
        }
    }

    /** What stays as it is while HOURS go by: rooms, doings, heat, price, the rule. */
    private static final class House {
        private static final int PEOPLE_SIGNS = 76;
        /** The bits of rooms 0, 3 and 6. */
        private static final int FIRST_COLUMN = 1 | 1 << WIDTH | 1 << 2 * WIDTH;
        private final Rule rule = new Rule();
        private final int[] doings = new int[DOINGS];
        private final int[] toldIce = new int[ROOMS];
        private final int[] toldRooms = new int[PERSONS];
        private final int[] toldDoings = new int[DOINGS];
        private int toldColumns;
        private int toldStoreys;
        private int toldLines;
        private int columns;
        private int storeys;
        /** All ROOMS, as bits. */
        private int rooms;
        private int persons;
        private int heat = 5;
        private int price = 1;

        boolean has(int room) {
            return room >= 0 && room < ROOMS && room % WIDTH < columns && room / WIDTH < storeys;
        }

        boolean knows(int person) {
            return person >= 0 && person < persons;
        }

        int wholeCycle(int person) {
            int sum = 0;
            for (int k = 0; k < CYCLE; k++) {
                sum += doings[person * CYCLE + k];
            }
            return sum;
        }

        /** PEOPLE in a room (OUT for NONE), as bits. */
        int bitsIn(State s, int room) {
            int bits = 0;
            for (int p = 0; p < persons; p++) {
                if (s.where[p] == room) {
                    bits |= 1 << p;
                }
            }
            return bits;
        }

        int inRooms(State s) {
            return persons - Integer.bitCount(bitsIn(s, NONE));
        }

        int roomsOfColumn(int c) {
            return rooms & FIRST_COLUMN << c;
        }

        /** ROOMS with ICE, as bits. */
        int floors(State s) {
            int bits = 0;
            for (int r = 0; r < ROOMS; r++) {
                if (has(r) && s.ice[r] > 0) {
                    bits |= 1 << r;
                }
            }
            return bits;
        }

        /** Reads THE HOUSE without building it: whether it can be read. */
        boolean readHouse(Signs text) {
            text.begin(Signs.MOST);
            toldColumns = WIDTH;
            for (int y = 0; y < WIDTH; y++) {
                toldStoreys = y + 1;
                if (!readStorey(text, y)) {
                    return false;
                }
                if (text.ended()) {
                    return true;
                }
                if (toldStoreys < WIDTH && !text.stepOver('/')) {
                    return false;
                }
            }
            return false;
        }

        private boolean readStorey(Signs text, int y) {
            for (int x = 0; x < toldColumns; x++) {
                int ice = readIce(text);
                if (ice == NONE) {
                    return false;
                }
                toldIce[WIDTH * y + x] = ice;
                if (x + 1 < toldColumns && !text.stepOver(',')) {
                    if (y > 0) {
                        return false;
                    }
                    // The first storey tells how many columns there are.
                    toldColumns = x + 1;
                }
            }
            return true;
        }

        private static int readIce(Signs text) {
            int ice = text.nextDigit();
            if (text.step(ice != NONE)) {
                int second = text.nextDigit();
                if (text.step(second != NONE)) {
                    ice = 10 * ice + second;
                }
            }
            return ice;
        }

        /** Builds the house that was read last: how many ROOMS. */
        int build(State s) {
            columns = toldColumns;
            storeys = toldStoreys;
            persons = 0;
            rooms = 0;
            s.clear();
            for (int r = 0; r < ROOMS; r++) {
                if (has(r)) {
                    s.ice[r] = toldIce[r];
                    rooms |= 1 << r;
                }
            }
            return columns * storeys;
        }

        /** Reads LINES without admitting anybody: whether all of them can come. */
        boolean readPeople(Signs text) {
            text.begin(PEOPLE_SIGNS);
            toldLines = 0;
            if (text.ended()) {
                return true;
            }
            for (int p = persons; p < PERSONS; p++) {
                if (!readLine(text, p)) {
                    return false;
                }
                toldLines++;
                if (text.ended()) {
                    return true;
                }
                if (!text.stepOver(';')) {
                    return false;
                }
            }
            return false;
        }

        private boolean readLine(Signs text, int p) {
            int x = text.next() - 'a';
            if (!text.step(x >= 0 && x < columns)) {
                return false;
            }
            int y = text.nextDigit() - 1;
            if (!text.step(y >= 0 && y < storeys) || !text.stepOver(':')) {
                return false;
            }
            toldRooms[p] = WIDTH * y + x;
            for (int k = 0; k < CYCLE; k++) {
                int warm = text.nextDigit();
                if (!text.step(warm != NONE)) {
                    return false;
                }
                toldDoings[p * CYCLE + k] = warm;
            }
            return true;
        }

        /** Lets in those whom the LINES that were read last tell of. */
        void admit(State s) {
            for (int line = 0; line < toldLines && persons < PERSONS; line++) {
                s.where[persons] = toldRooms[persons];
                s.owes[persons] = 0;
                s.fell[persons] = 0;
                System.arraycopy(toldDoings, persons * CYCLE, doings, persons * CYCLE, CYCLE);
                persons++;
            }
        }
    }

    /** What HOURS change; what is undone and kept. */
    private static final class State {
        private final int[] ice = new int[ROOMS];
        private final int[] water = new int[ROOMS];
        private final int[] where = new int[PERSONS];
        private final int[] owes = new int[PERSONS];
        private final int[] fell = new int[PERSONS];
        private int pond;
        private int stove = NONE;
        private int now;
        private int frost = 2;

        void become(State other) {
            System.arraycopy(other.ice, 0, ice, 0, ROOMS);
            System.arraycopy(other.water, 0, water, 0, ROOMS);
            System.arraycopy(other.where, 0, where, 0, PERSONS);
            System.arraycopy(other.owes, 0, owes, 0, PERSONS);
            System.arraycopy(other.fell, 0, fell, 0, PERSONS);
            pond = other.pond;
            stove = other.stove;
            now = other.now;
            frost = other.frost;
        }

        /** As for a house anew; FROST stays. */
        void clear() {
            for (int r = 0; r < ROOMS; r++) {
                ice[r] = 0;
                water[r] = 0;
            }
            pond = 0;
            stove = NONE;
            now = 0;
        }
    }

    /** THE RULE, told behind its things: numbers, facts, operators, each an int. */
    private static final class Rule {
        private static final String LETTERS = "wiafynh";
        private static final int FACTS = 7;
        private static final int FACT = 1000;
        private static final int OPERATOR = 2000;
        private static final int NEGATE = OPERATOR + '~';
        private static final int MOST = 40;
        private final int[] code = new int[MOST];
        private final int[] stack = new int[MOST];
        private final int[] facts = new int[FACTS];
        private int size;

        Rule() {
            becomeUntold();
        }

        /** Without a rule told, it is w/2. */
        final void becomeUntold() {
            code[0] = FACT;
            code[1] = 2;
            code[2] = OPERATOR + '/';
            size = 3;
        }

        void become(int[] told, int toldSize) {
            size = Math.max(0, Math.min(toldSize, Math.min(MOST, told.length)));
            System.arraycopy(told, 0, code, 0, size);
        }

        int melts(int w, int i, int a, int f, int y, int n, int h) {
            facts[0] = w;
            facts[1] = i;
            facts[2] = a;
            facts[3] = f;
            facts[4] = y;
            facts[5] = n;
            facts[6] = h;
            int top = 0;
            for (int k = 0; k < size; k++) {
                int c = code[k];
                if (c == NEGATE) {
                    if (top > 0) {
                        stack[top - 1] = -stack[top - 1];
                    }
                } else if (c >= OPERATOR) {
                    if (top > 1) {
                        top--;
                        stack[top - 1] = joined(c - OPERATOR, stack[top - 1], stack[top]);
                    }
                } else if (top < MOST) {
                    stack[top] = c < FACT ? c : c - FACT < FACTS ? facts[c - FACT] : 0;
                    top++;
                }
            }
            int value = top > 0 ? stack[0] : 0;
            return value < 0 ? 0 : value > i ? i : value;
        }

        private static int joined(int operator, int left, int right) {
            switch (operator) {
                case '+': return left + right;
                case '-': return left - right;
                case '*': return left * right;
                case '/': return right == 0 ? 0 : left / right;
                case '<': return left < right ? 1 : 0;
                case '>': return left > right ? 1 : 0;
                default: return left == right ? 1 : 0;
            }
        }
    }

    /** Reads THE TEXT as a rule. */
    private static final class RuleReader {
        private static final int BRACKETS = 4;
        private final Signs text;
        private final int[] code = new int[Rule.MOST];
        private int size;

        RuleReader(Signs text) {
            this.text = text;
        }

        /** Whether it can be read. */
        boolean read() {
            text.begin(Rule.MOST);
            size = 0;
            return expression(0) && text.ended();
        }

        private void emit(int c) {
            if (size < code.length) {
                code[size] = c;
                size++;
            }
        }

        private boolean expression(int depth) {
            boolean right = chain(depth, false);
            int sign = text.next();
            if (right && text.step(sign == '<' || sign == '>' || sign == '=')) {
                right = chain(depth, false);
                emit(Rule.OPERATOR + sign);
            }
            return right;
        }

        /** Parts that are joined from the left: things by * and / (tight), or such chains by + and -. */
        private boolean chain(int depth, boolean tight) {
            boolean right = part(depth, tight);
            int sign = text.next();
            for (int k = 0; k < Rule.MOST && right && text.step(joins(sign, tight)); k++) {
                right = part(depth, tight);
                emit(Rule.OPERATOR + sign);
                sign = text.next();
            }
            return right;
        }

        private boolean part(int depth, boolean tight) {
            return tight ? signed(depth) : chain(depth, true);
        }

        private static boolean joins(int sign, boolean tight) {
            return tight ? sign == '*' || sign == '/' : sign == '+' || sign == '-';
        }

        private boolean signed(int depth) {
            boolean negated = false;
            for (int k = 0; k < Rule.MOST && text.stepOver('-'); k++) {
                negated = !negated;
            }
            boolean right = thing(depth);
            if (negated) {
                emit(Rule.NEGATE);
            }
            return right;
        }

        private boolean thing(int depth) {
            int sign = text.next();
            if (sign == '(') {
                return bracket(depth);
            }
            if (digitOf(sign) != NONE) {
                number();
                return true;
            }
            int fact = sign == END ? NONE : Rule.LETTERS.indexOf((char) sign);
            if (!text.step(fact >= 0)) {
                return false;
            }
            emit(Rule.FACT + fact);
            return true;
        }

        private boolean bracket(int depth) {
            return text.step(depth < BRACKETS) && expression(depth + 1) && text.stepOver(')');
        }

        private void number() {
            int value = 0;
            int digit = text.nextDigit();
            for (int k = 0; k < 3 && text.step(digit != NONE); k++) {
                value = 10 * value + digit;
                digit = text.nextDigit();
            }
            emit(value);
        }
    }

    /** Lets HOURS go by in a state, and tells what happens in them. */
    private static final class Course {
        private final House house;
        private final int[] warmth = new int[ROOMS];
        private final int[] heads = new int[ROOMS];
        private final int[] given = new int[ROOMS];
        private int feverish = NONE;
        private int leftOff;
        private int melted;
        private int gave;
        private int fallen;
        private int falls;
        private int gaveLast;
        private int fallenLast;
        private int unlikeMelts;
        private int greatestMelts;

        Course(House house) {
            this.house = house;
        }

        void begin() {
            melted = 0;
            gave = 0;
            fallen = 0;
            falls = 0;
        }

        int warmOf(int person, int now) {
            int d = person * CYCLE + now % CYCLE;
            if (d < 0 || d >= DOINGS || (leftOff >> d & 1) != 0) {
                return 0;
            }
            return person == feverish ? 9 : house.doings[d];
        }

        int warmthIn(State s, int room) {
            return warmthOf(s, room, house.bitsIn(s, room));
        }

        private int warmthOf(State s, int room, int set) {
            int sum = s.stove == room ? house.heat : 0;
            for (int p = 0; p < house.persons; p++) {
                if ((set >> p & 1) != 0) {
                    sum += warmOf(p, s.now);
                }
            }
            return sum;
        }

        int meltsIn(State s, int room) {
            return meltsBySet(s, room, house.bitsIn(s, room));
        }

        /** What would melt in a room, were just these people in it. */
        int meltsBySet(State s, int room, int set) {
            return meltsBy(s, room, warmthOf(s, room, set), Integer.bitCount(set));
        }

        int meltsBy(State s, int room, int warmthThere, int headsThere) {
            if (room < 0 || room >= ROOMS) {
                return 0;
            }
            return house.rule.melts(warmthThere, s.ice[room], s.water[room], s.frost, room / WIDTH, headsThere, s.now);
        }

        /** How many unlike numbers sets of people would melt in a room, and the greatest of them. */
        void countMelts(State s, int room) {
            long low = 0;
            long high = 0;
            greatestMelts = 0;
            for (int set = 0; set < 1 << house.persons; set++) {
                int m = meltsBySet(s, room, set);
                greatestMelts = Math.max(greatestMelts, m);
                if (m < 64) {
                    low |= 1L << m;
                } else {
                    high |= 1L << (m - 64);
                }
            }
            unlikeMelts = Long.bitCount(low) + Long.bitCount(high);
        }

        void goOn(State s, int n) {
            for (int k = 0; k < n; k++) {
                pass(s, house.rooms);
            }
        }

        int standing(State s, int limit) {
            return standing(s, limit, house.rooms);
        }

        /** For how many HOURS, limit at most, the floors of some whole columns stand. */
        int standing(State s, int limit, int rooms) {
            int floors = house.floors(s) & rooms;
            for (int k = 0; k < limit; k++) {
                pass(s, rooms);
                if ((gaveLast & floors) != 0) {
                    return k;
                }
            }
            return limit;
        }

        /** AN HOUR in the rooms of some whole columns: what happens in a column depends on no other one. */
        private void pass(State s, int rooms) {
            gather(s);
            // Falling numbers go from the lowest storey up: a room is still as it was ahead of the HOUR when
            // its turn comes, as only the room above, later, drips on it.
            for (int r = ROOMS - 1; r >= 0; r--) {
                if ((rooms >> r & 1) != 0) {
                    int ice = s.ice[r];
                    int melts = ice == 0 ? 0
                        : house.rule.melts(warmth[r], ice, s.water[r], s.frost, r / WIDTH, heads[r], s.now);
                    drip(s, r, melts);
                }
            }
            gaveLast = 0;
            fallenLast = 0;
            for (int r = 0; r < ROOMS; r++) {
                if ((rooms >> r & 1) != 0) {
                    freeze(s, r);
                    if (s.ice[r] == 0) {
                        gaveLast |= 1 << r;
                        drop(s, r);
                    }
                }
            }
            gave |= gaveLast;
            fallen |= fallenLast;
            s.now++;
        }

        private void gather(State s) {
            for (int r = 0; r < ROOMS; r++) {
                warmth[r] = 0;
                heads[r] = 0;
            }
            for (int p = 0; p < house.persons; p++) {
                int r = s.where[p];
                if (r >= 0 && r < ROOMS) {
                    int warm = warmOf(p, s.now);
                    warmth[r] += warm;
                    heads[r]++;
                    s.owes[p] += house.price * warm;
                }
            }
            if (s.stove >= 0 && s.stove < ROOMS) {
                warmth[s.stove] += house.heat;
            }
        }

        private void drip(State s, int r, int melts) {
            int below = r + WIDTH;
            if (house.has(below)) {
                s.water[below] += s.water[r];
            } else {
                s.pond += s.water[r];
            }
            s.water[r] = melts;
            s.ice[r] -= melts;
            melted += melts;
        }

        private void freeze(State s, int r) {
            int frozen = Math.min(Math.min(s.frost, s.water[r]), MOST_ICE - s.ice[r]);
            s.water[r] -= frozen;
            s.ice[r] += frozen;
        }

        private void drop(State s, int r) {
            int to = house.has(r + WIDTH) ? r + WIDTH : NONE;
            for (int p = 0; p < house.persons; p++) {
                if (s.where[p] == r) {
                    s.where[p] = to;
                    s.fell[p]++;
                    fallenLast |= 1 << p;
                    falls++;
                }
            }
            if (s.stove == r) {
                s.stove = to;
            }
        }

        void forgetGiven() {
            for (int r = 0; r < ROOMS; r++) {
                given[r] = 0;
            }
        }

        void countGiven() {
            for (int r = 0; r < ROOMS; r++) {
                given[r] += gaveLast >> r & 1;
            }
        }

        /** The room that gave in the most of the HOURS that were counted, or NONE. */
        int oftenestGiven() {
            int often = NONE;
            for (int r = 0; r < ROOMS; r++) {
                if (given[r] > (often == NONE ? 0 : given[often])) {
                    often = r;
                }
            }
            return often;
        }
    }

    /** What can be undone, and what is kept under a number. */
    private static final class Past {
        private static final int MOST_DONE = 12;
        private static final int KEPT = 2;
        private final State[] done = new State[MOST_DONE];
        private final State[] kept = new State[KEPT];
        private final int[] keptPersons = new int[KEPT];
        private int next;
        private int size;

        Past() {
            for (int k = 0; k < MOST_DONE; k++) {
                done[k] = new State();
            }
            for (int i = 0; i < KEPT; i++) {
                kept[i] = new State();
                keptPersons[i] = NONE;
            }
        }

        void remember(State s) {
            done[next].become(s);
            next = (next + 1) % MOST_DONE;
            size = Math.min(size + 1, MOST_DONE);
        }

        boolean goBack(State s) {
            if (size == 0) {
                return false;
            }
            next = (next + MOST_DONE - 1) % MOST_DONE;
            size--;
            s.become(done[next]);
            return true;
        }

        void forgetDone() {
            size = 0;
        }

        void forgetKept() {
            for (int i = 0; i < KEPT; i++) {
                keptPersons[i] = NONE;
            }
        }

        boolean keepAs(int i, State s, int persons) {
            if (i < 0 || i >= KEPT) {
                return false;
            }
            kept[i].become(s);
            keptPersons[i] = persons;
            return true;
        }

        /** Nobody ever leaves a house, so that people came since if there are more of them. */
        boolean bringBack(int i, State s, int persons) {
            if (i < 0 || i >= KEPT || keptPersons[i] != persons) {
                return false;
            }
            s.become(kept[i]);
            forgetDone();
            return true;
        }
    }

    /** A WINTER as THE TEXT tells it: its ACTS. */
    private static final class Winter {
        private static final int SIGNS = 60;
        /** An ACT and the ; behind it are two signs at least. */
        private static final int MOST_ACTS = SIGNS / 2;
        private final Signs text;
        private final int[] kind = new int[MOST_ACTS];
        private final int[] who = new int[MOST_ACTS];
        private final int[] value = new int[MOST_ACTS];
        private int size;

        Winter(Signs text) {
            this.text = text;
        }

        /** Whether it can be read. */
        boolean read() {
            text.begin(SIGNS);
            size = 0;
            if (text.ended()) {
                return true;
            }
            for (int k = 0; k < MOST_ACTS; k++) {
                if (!act(k)) {
                    return false;
                }
                size++;
                if (text.ended()) {
                    return true;
                }
                if (!text.stepOver(';')) {
                    return false;
                }
            }
            return false;
        }

        private boolean act(int k) {
            if (k < 0 || k >= MOST_ACTS) {
                return false;
            }
            int sign = text.next();
            if (!text.step(sign == 'h' || sign == 'm' || sign == 's' || sign == 'f')) {
                return false;
            }
            kind[k] = sign;
            switch (sign) {
                case 'h':
                    value[k] = Math.max(1, text.nextDigit());
                    text.step(text.nextDigit() >= 1);
                    return true;
                case 'f':
                    value[k] = text.nextDigit();
                    return text.step(value[k] != NONE);
                case 'm':
                    who[k] = text.nextDigit();
                    return text.step(who[k] != NONE) && place(k);
                default:
                    value[k] = NONE;
                    return text.stepOver('-') || place(k);
            }
        }

        private boolean place(int k) {
            int x = text.next() - 'a';
            if (!text.step(x >= 0 && x < WIDTH)) {
                return false;
            }
            int y = text.nextDigit() - 1;
            value[k] = WIDTH * y + x;
            return text.step(y >= 0 && y < WIDTH);
        }
    }

    /** Ways to let those who are in ROOMS live in unlike ROOMS. */
    private static final class Lodging {
        private static final int MOST = 4;
        /**
         * Who lives in a column is told by a number of three digits to the base of 5, by its storeys from the
         * last digit on: 0 for nobody.
         */
        private static final int BASE = MOST + 1;
        private static final int[] PLACES = {1, BASE, BASE * BASE};
        private static final int CODES = BASE * BASE * BASE;
        private final House house;
        private final Course course;
        private final State base = new State();
        private final State scratch = new State();
        private final int[] lodgers = new int[MOST];
        private final int[] rooms = new int[MOST];
        private final int[] best = new int[MOST];
        private final int[] codes = new int[WIDTH];
        private final int[] hoursByCode = new int[WIDTH * CODES];
        private int size;
        private int limit;
        private boolean all;
        private int ways;
        private int most;

        Lodging(House house, Course course) {
            this.house = house;
            this.course = course;
        }

        /**
         * Counts the ways that stand so many HOURS (all of them, or the first only), and finds the first of those
         * that stand the longest.
         */
        void search(State now, int hours, boolean everyWay) {
            base.become(now);
            size = 0;
            for (int p = 0; p < house.persons; p++) {
                if (base.where[p] != NONE && size < MOST) {
                    lodgers[size] = p;
                    base.where[p] = NONE;
                    size++;
                }
            }
            limit = hours;
            all = everyWay;
            ways = 0;
            most = NONE;
            for (int c = 0; c < WIDTH && c < house.columns; c++) {
                searchColumn(c);
            }
            place(0, 0);
        }

        /**
         * Finds for how many HOURS a column stands with each of those who can live in it. Columns don't
         * touch one another, so that a way stands as long as the least of its columns.
         */
        private void searchColumn(int c) {
            for (int code = 0; code < CODES; code++) {
                if (canLive(c, code)) {
                    hoursByCode[c * CODES + code] = course.standing(scratch, limit, house.roomsOfColumn(c));
                }
            }
        }

        /** Whether just those of a code can live in a column; if they can, the scratch state has them there. */
        private boolean canLive(int c, int code) {
            scratch.become(base);
            int rest = code;
            for (int y = 0; y < WIDTH; y++) {
                int k = rest % BASE - 1;
                rest /= BASE;
                if (k >= 0) {
                    if (k >= size || !house.has(WIDTH * y + c) || scratch.where[lodgers[k]] != NONE) {
                        return false;
                    }
                    scratch.where[lodgers[k]] = WIDTH * y + c;
                }
            }
            return true;
        }

        private void place(int k, int taken) {
            if (k >= size || k >= MOST) {
                weigh();
                return;
            }
            for (int r = 0; r < ROOMS && (all || ways == 0); r++) {
                if (house.has(r) && (taken >> r & 1) == 0) {
                    int lodger = (k + 1) * PLACES[r / WIDTH];
                    rooms[k] = r;
                    codes[r % WIDTH] += lodger;
                    place(k + 1, taken | 1 << r);
                    codes[r % WIDTH] -= lodger;
                }
            }
        }

        private void weigh() {
            int stood = limit;
            for (int c = 0; c < house.columns && c < WIDTH; c++) {
                int k = c * CODES + codes[c];
                if (k >= 0 && k < hoursByCode.length) {
                    stood = Math.min(stood, hoursByCode[k]);
                }
            }
            if (stood > most) {
                most = stood;
                System.arraycopy(rooms, 0, best, 0, MOST);
            }
            if (stood == limit) {
                ways++;
            }
        }
    }

    /** The fewest doings to be left off. */
    private static final class Silence {
        private static final int MOST = 3;
        private final House house;
        private final Course course;
        private final State base = new State();
        private final State scratch = new State();
        private int hours;
        private int leftOff;

        Silence(House house, Course course) {
            this.house = house;
            this.course = course;
        }

        /**
         * Whether it stands for n HOURS by leaving off few doings, and which. Each column stands or falls
         * for itself, so that the least rows of the columns are the least row of all.
         */
        boolean search(State now, int n) {
            base.become(now);
            hours = n;
            leftOff = 0;
            boolean found = true;
            for (int c = 0; c < house.columns && found; c++) {
                found = false;
                int left = MOST - Integer.bitCount(leftOff);
                for (int few = 0; few <= left && !found; few++) {
                    found = choose(c, 0, few);
                }
            }
            course.leftOff = 0;
            return found;
        }

        private boolean choose(int c, int from, int size) {
            if (size <= 0) {
                scratch.become(base);
                course.leftOff = leftOff;
                return course.standing(scratch, hours, house.roomsOfColumn(c)) == hours;
            }
            for (int d = from; d < DOINGS; d++) {
                if (matters(c, d)) {
                    leftOff |= 1 << d;
                    if (choose(c, d + 1, size - 1)) {
                        return true;
                    }
                    leftOff &= ~(1 << d);
                }
            }
            return false;
        }

        /** One that changes nothing is never among the fewest. */
        private boolean matters(int c, int d) {
            int p = d / CYCLE;
            if (p >= house.persons || d < 0 || house.doings[d] == 0) {
                return false;
            }
            int ahead = Math.floorMod(d % CYCLE - base.now, CYCLE);
            return base.where[p] != NONE && base.where[p] % WIDTH == c && ahead < hours;
        }
    }

    /** Ways of the stove from door to door. */
    private static final class StoveWay {
        private static final int MOST = 5;
        /** By these, rooms beside a room (and itself) come in the order of their numbers. */
        private static final int[] STEPS = {-3, -1, 0, 1, 3};
        private final House house;
        private final Course course;
        private final State[] states = new State[MOST + 1];
        private final int[] rooms = new int[MOST];
        private final int[] best = new int[MOST];
        private int size;
        private int least;

        StoveWay(House house, Course course) {
            this.house = house;
            this.course = course;
            for (int k = 0; k <= MOST; k++) {
                states[k] = new State();
            }
        }

        void search(State now, int n) {
            size = Math.min(n, MOST);
            least = NONE;
            states[0].become(now);
            goFrom(0, 0);
        }

        private void goFrom(int k, int melted) {
            // Ways come by rising rows: one that melts as much as an earlier one is no better.
            if (least != NONE && melted >= least) {
                return;
            }
            if (k >= size || k >= MOST) {
                least = melted;
                System.arraycopy(rooms, 0, best, 0, MOST);
                return;
            }
            int from = states[k].stove;
            if (from == NONE) {
                goTo(k, NONE, melted);
                return;
            }
            for (int i = 0; i < STEPS.length; i++) {
                int to = from + STEPS[i];
                boolean sameStorey = to >= 0 && to / WIDTH == from / WIDTH;
                boolean sideways = STEPS[i] == -1 || STEPS[i] == 1;
                if (house.has(to) && (sameStorey || !sideways)) {
                    goTo(k, to, melted);
                }
            }
        }

        private void goTo(int k, int room, int melted) {
            if (k < 0 || k >= MOST) {
                return;
            }
            State s = states[k + 1];
            s.become(states[k]);
            s.stove = room;
            rooms[k] = room == NONE ? NO_ROOM : room;
            course.begin();
            course.goOn(s, 1);
            goFrom(k + 1, melted + course.melted);
        }
    }

    /** How likely it stands with thaws by chance. */
    private static final class Thaws {
        private static final int MOST = 8;
        private final House house;
        private final Course course;
        private final State[] states = new State[MOST + 1];
        /** By HOURS: in how many of whole() cases it stands. */
        private final long[] weights = new long[MOST + 1];
        private int size;
        private int tenths;
        private int frost;
        private int floors;

        Thaws(House house, Course course) {
            this.house = house;
            this.course = course;
            for (int k = 0; k <= MOST; k++) {
                states[k] = new State();
            }
        }

        static long whole(int n) {
            long cases = 1;
            for (int k = 0; k < n; k++) {
                cases *= 10;
            }
            return cases;
        }

        void search(State now, int n, int p) {
            size = Math.min(n, MOST);
            tenths = p;
            frost = now.frost;
            floors = house.floors(now);
            for (int k = 0; k <= MOST; k++) {
                weights[k] = 0;
            }
            states[0].become(now);
            goFrom(0, 1);
        }

        private void goFrom(int k, long weight) {
            if (k < 0 || k > MOST) {
                return;
            }
            weights[k] += weight;
            if (k < size) {
                goTo(k, 0, weight * tenths);
                goTo(k, frost, weight * (10 - tenths));
            }
        }

        private void goTo(int k, int frostThen, long weight) {
            if (weight == 0 || k < 0 || k >= MOST) {
                return;
            }
            State s = states[k + 1];
            s.become(states[k]);
            s.frost = frostThen;
            course.goOn(s, 1);
            if ((course.gaveLast & floors) == 0) {
                goFrom(k + 1, weight);
            }
        }
    }
}

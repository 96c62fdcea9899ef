public final class DeadLines {
    public static final int NONE = -1;

    private static final int NOTHING = -2;
    private static final int NO_PLACE = -4;
    private static final int END = -1;

    private static final int EXCHANGES = 8;
    private static final int PEOPLE = 16;
    private static final int PLACES = 20;
    private static final int MOST_CIRCUITS = 9;
    private static final int MOST_PENCE = 999999;
    private static final int MOST_RATE = 99;
    private static final int MOST_RINGS = 9999;
    private static final int LAST_MINUTE = 99999;
    private static final int MOST_MINUTES = 240;
    private static final int MOST_SEED = 65535;
    private static final int WHOLE = 100;

    private static final int TAPE = 260;
    private static final int FEED = 20;
    private static final int LAW_BYTES = 240;
    private static final int BILL_BYTES = 120;
    private static final int RULES = 16;
    private static final int LINES = 20;
    private static final int DIGITS = 5;
    private static final int OPEN = 6;

    private static final int CODE_DIGITS = 6;
    private static final int DIALLED_DIGITS = 12;
    private static final int FREE_DIGITS = 3;
    private static final int ROW = 12;
    private static final int MOST_SUM = 3060;
    private static final int BUSY_CALLS = 10;
    private static final int MOST_LATER = 20;
    private static final int TARIFFS = 5;
    private static final int TARIFF_MINUTES = 60;
    private static final int EPITAPH = 30;
    private static final int ALPHABET = 26;

    private static final int FAULT_SIGN = 1;
    private static final int FAULT_DIGIT = 2;
    private static final int FAULT_MANY = 4;
    private static final int FAULT_OPEN = 5;
    private static final int FAULT_UNTOLD = 7;

    private final Tape tape;
    private final Net net;
    private final Plans plans;
    private final Sums sums;
    private final Bill lines;
    private final LawReader reader;
    private final Switchboard board;
    private final World world;
    private final World kept;
    private final World trial;
    private boolean isKept;

    public DeadLines() {
        tape = new Tape();
        net = new Net();
        plans = new Plans(tape);
        sums = new Sums(tape);
        lines = new Bill(tape);
        reader = new LawReader(tape);
        board = new Switchboard(net);
        world = new World();
        kept = new World();
        trial = new World();
    }

    public boolean trunk(int e, int q, int circuits) {
        if (!areTwo(e, q) || !within(circuits, 0, MOST_CIRCUITS)) {
            return false;
        }
        net.lay(e, q, circuits);
        return true;
    }

    public boolean subscriber(int s, int e, boolean living) {
        if (!within(s, 0, PEOPLE - 1) || !isExchange(e)) {
            return false;
        }
        world.enter(s, e, living);
        return true;
    }

    public boolean fund(int pence) {
        if (!within(pence, 0, MOST_PENCE)) {
            return false;
        }
        world.fund = pence;
        return true;
    }

    public boolean rate(int trunk, int call) {
        if (!within(trunk, 0, MOST_RATE) || !within(call, 0, MOST_RATE)) {
            return false;
        }
        board.trunkRate = trunk;
        board.callRate = call;
        return true;
    }

    public int feed(int a, int b, int c, int d, int e) {
        if (!tape.hasRoom()) {
            return NONE;
        }
        tape.add(a);
        tape.add(b);
        tape.add(c);
        tape.add(d);
        tape.add(e);
        return tape.size;
    }

    public int law(int n) {
        if (!within(n, 1, LAW_BYTES) || !tape.take(n)) {
            return NONE;
        }
        int answer = reader.readLaw();
        if (answer > 0) {
            Law old = board.law;
            board.law = reader.law;
            reader.law = old;
        }
        return answer;
    }

    public int bill(int n) {
        if (!within(n, 1, BILL_BYTES) || !tape.take(n)) {
            return NONE;
        }
        int answer = lines.readLines(world.told);
        if (answer > 0) {
            lines.settle(world);
        }
        return answer;
    }

    public int code(int e, int n) {
        if (!isExchange(e) || !within(n, 1, CODE_DIGITS) || !tape.take(n)) {
            return NONE;
        }
        return plans.load(e, n);
    }

    public int minutes(int n) {
        if (!within(n, 1, MOST_MINUTES)) {
            return NONE;
        }
        board.run(world, n);
        return board.begun;
    }

    public int tried(int n, int what) {
        boolean asksArrears = world.isTold(what - WHOLE);
        if (!within(n, 1, MOST_MINUTES) || !within(what, 0, 4) && !asksArrears) {
            return NONE;
        }
        trial.copyFrom(world);
        board.run(trial, n);
        switch (what) {
            case 0:
                return board.begun;
            case 1:
                return board.lost;
            case 2:
                return world.fund - trial.fund;
            case 3:
                return board.stopped;
            case 4:
                return trial.calls();
            default:
                return trial.arrearsOf(what - WHOLE);
        }
    }

    public int subscriberIs(int s, int what) {
        if (!world.isTold(s)) {
            return NONE;
        }
        int bit = 1 << s;
        switch (what) {
            case 0:
                return world.exchange[s];
            case 1:
                return (world.dead & bit) == 0 ? 1 : 0;
            case 2:
                return (world.cutOff & bit) == 0 ? 1 : 0;
            case 3:
                return (world.offHook & bit) == 0 ? 0 : 1;
            case 4:
                return world.arrears[s];
            case 5:
                return world.partnerOf(s);
            case 6:
                return world.hasRung[s];
            case 7:
                return world.wasRung[s];
            default:
                return NONE;
        }
    }

    public int callIs(int i, int what) {
        if (!within(i, 0, PLACES - 1) || !within(what, 0, 4)) {
            return NONE;
        }
        if (world.left[i] == 0) {
            return NOTHING;
        }
        switch (what) {
            case 0:
                return world.rang[i];
            case 1:
                return world.rung[i];
            case 2:
                return world.payer[i];
            case 3:
                return world.left[i];
            default:
                return world.trunks[i];
        }
    }

    public int circuits(int e, int q, int what) {
        if (!areTwo(e, q) || !within(what, 0, 1)) {
            return NONE;
        }
        int all = net.circuits[e * EXCHANGES + q];
        return what == 0 ? all : Math.max(0, all - world.used[e * EXCHANGES + q]);
    }

    public int route(int e, int q, int what) {
        if (!isExchange(e) || !isExchange(q) || !isExchange(what) && what != WHOLE) {
            return NONE;
        }
        int trunks = net.findRoute(e, q, world.used);
        if (trunks == NONE) {
            return NOTHING;
        }
        if (what == WHOLE) {
            return trunks;
        }
        return what <= trunks ? net.path[what] : NO_PLACE;
    }

    public int fundLasts(int n) {
        if (!within(n, 1, MOST_MINUTES)) {
            return NONE;
        }
        trial.copyFrom(world);
        return board.minutesTillPoor(trial, n);
    }

    public int atOnce(int e, int q) {
        return areTwo(e, q) ? net.flow(e, q, MOST_CIRCUITS) : NONE;
    }

    public int stops(int e, int q) {
        // As many trunks must fail as there are ways that share none.
        return areTwo(e, q) ? net.flow(e, q, 1) : NONE;
    }

    public int inTheMiddle() {
        return net.middle();
    }

    public int cut(int n, int bound, int what) {
        if (!within(n, 1, ROW) || !within(bound, 0, MOST_SUM) || !within(what, 0, 1) || !tape.take(2 * n)) {
            return NONE;
        }
        return sums.savedMost(n, bound, what == 1);
    }

    public int heir(int n, int bill, int what) {
        if (!within(n, 1, ROW) || !within(bill, 0, MOST_SUM) || !within(what, 0, 1) || !tape.take(n)) {
            return NONE;
        }
        return sums.tracedBy(n, bill, what == 1);
    }

    public int busy(int n, int what) {
        boolean asksLater = within(what, WHOLE, WHOLE + MOST_LATER);
        if (!within(n, 1, BUSY_CALLS) || !within(what, 0, 1) && !asksLater || !tape.take(2 * n)) {
            return NONE;
        }
        if (!sums.readHours(n)) {
            return NOTHING;
        }
        return asksLater ? sums.fewestCircuits(n, what - WHOLE) : sums.busiest(n, what == 1);
    }

    public int cheapest(int n, int minutes, int what) {
        boolean known = what == WHOLE || within(what, 0, n - 1);
        if (!within(n, 1, TARIFFS) || !within(minutes, 1, MOST_MINUTES) || !known || !tape.take(2 * n)) {
            return NONE;
        }
        if (!sums.readTariffs(n)) {
            return NOTHING;
        }
        return what == WHOLE ? sums.leastPence(0, n, minutes) : sums.howOften(n, minutes, what);
    }

    public int told(int n, int what) {
        if (!within(n, 2, PEOPLE) || !within(what, 0, 1) || !tape.take(n)) {
            return NONE;
        }
        if (!sums.readTellers(n)) {
            return NOTHING;
        }
        return what == 0 ? sums.soonest(n) : sums.firstRung(n);
    }

    public int epitaph(int k, int m, boolean back, int what) {
        if (!within(k, 1, EPITAPH) || !within(m, 1, EPITAPH) || !within(what, 0, m - 1) || !tape.take(k + m)) {
            return NONE;
        }
        if (!tape.holdsOnly('A', 'Z')) {
            return tape.fault;
        }
        return sums.cipher(k, back, k + what);
    }

    public int dialled(int n, int what) {
        if (!within(n, 1, DIALLED_DIGITS) || !within(what, 0, 1) || !tape.take(n)) {
            return NONE;
        }
        int answer = plans.load(Plans.ASKED, n);
        if (answer < 0) {
            return answer;
        }
        int e = plans.reached();
        if (e == NONE) {
            return NOTHING;
        }
        return what == 0 ? e : n - plans.length[e];
    }

    public int clear() {
        return plans.isClear() ? 1 : 0;
    }

    public int freeCode(int k) {
        if (!within(k, 1, FREE_DIGITS)) {
            return NONE;
        }
        return plans.isClear() ? plans.leastFree(k) : NOTHING;
    }

    public boolean seed(int x) {
        if (!within(x, 0, MOST_SEED)) {
            return false;
        }
        world.x = x;
        return true;
    }

    public int keep() {
        kept.copyFrom(world);
        isKept = true;
        return world.minute;
    }

    public boolean undo() {
        if (!isKept) {
            return false;
        }
        world.copyFrom(kept);
        return true;
    }

    public int check(int n) {
        if (!within(n, 0, PEOPLE) || !tape.take(n)) {
            return NOTHING;
        }
        for (int s = 0; s < n; s++) {
            if (world.arrearsOf(s) % 256 != tape.at(s)) {
                return s;
            }
        }
        return NONE;
    }

    public int count(int what) {
        switch (what) {
            case 0:
                return world.minute;
            case 1:
                return world.fund;
            case 2:
                return world.told;
            case 3:
                return world.dead;
            case 4:
                return world.cutOff;
            case 5:
                return world.free();
            case 6:
                return world.calls();
            case 7:
                return board.law.rules;
            case 8:
                return tape.size;
            case 9:
                return world.x;
            default:
                return isExchange(what - 10) && plans.length[what - 10] > 0 ? plans.length[what - 10] : NONE;
        }
    }

    private static boolean within(int value, int least, int most) {
        return value >= least && value <= most;
    }

    private static boolean isExchange(int e) {
        return within(e, 0, EXCHANGES - 1);
    }

    private static boolean areTwo(int e, int q) {
        return isExchange(e) && isExchange(q) && e != q;
    }

    private static boolean isDigit(int sign) {
        return sign >= '0' && sign <= '9';
    }

    private static int bounded(int value, int most) {
        return Math.max(0, Math.min(value, most));
    }

    /** The bytes that were fed; what was taken of them is read as a text. */
    private static final class Tape {
        final int[] bytes = new int[TAPE];
        int size;
        int taken;
        int place;
        int number;
        int fault;

        boolean hasRoom() {
            return size + FEED <= TAPE;
        }

        void add(int four) {
            for (int shift = 24; shift >= 0 && size < TAPE; shift -= 8) {
                bytes[size] = (four >>> shift) & 255;
                size++;
            }
        }

        boolean take(int n) {
            if (n > size) {
                return false;
            }
            taken = n;
            size = 0;
            place = 0;
            fault = 0;
            return true;
        }

        int at(int i) {
            return i >= 0 && i < taken && i < TAPE ? bytes[i] : END;
        }

        int sign() {
            return at(place);
        }

        boolean fails(int kind) {
            fault = -1000 * kind - place;
            return false;
        }

        boolean passes(int sign) {
            if (at(place) != sign) {
                return fails(FAULT_SIGN);
            }
            place++;
            return true;
        }

        boolean readNumber() {
            if (!isDigit(at(place))) {
                return fails(FAULT_SIGN);
            }
            number = 0;
            for (int i = 0; i < DIGITS && isDigit(at(place)); i++) {
                number = number * 10 + at(place) - '0';
                place++;
            }
            return isDigit(at(place)) ? fails(FAULT_DIGIT) : true;
        }

        boolean holdsOnly(int least, int most) {
            for (place = 0; place < taken; place++) {
                if (!within(at(place), least, most)) {
                    return fails(FAULT_SIGN);
                }
            }
            return true;
        }
    }

    /** All that is kept and undone: subscribers (sets of them as bits), calls, fund, minute, X. */
    private static final class World {
        int told;
        int dead;
        int cutOff;
        int offHook;
        int talking;
        int fund;
        int minute;
        int x = 1;
        final int[] exchange = new int[PEOPLE];
        final int[] arrears = new int[PEOPLE];
        final int[] hasRung = new int[PEOPLE];
        final int[] wasRung = new int[PEOPLE];
        final int[] callOf = new int[PEOPLE];
        final int[] rang = new int[PLACES];
        final int[] rung = new int[PLACES];
        final int[] payer = new int[PLACES];
        // No minutes left: no call stands at the place.
        final int[] left = new int[PLACES];
        final int[] trunks = new int[PLACES];
        final int[] routes = new int[PLACES * EXCHANGES];
        // Circuits that calls have, from each exchange to each and back.
        final int[] used = new int[EXCHANGES * EXCHANGES];

        void copyFrom(World other) {
            told = other.told;
            dead = other.dead;
            cutOff = other.cutOff;
            offHook = other.offHook;
            talking = other.talking;
            fund = other.fund;
            minute = other.minute;
            x = other.x;
            System.arraycopy(other.exchange, 0, exchange, 0, PEOPLE);
            System.arraycopy(other.arrears, 0, arrears, 0, PEOPLE);
            System.arraycopy(other.hasRung, 0, hasRung, 0, PEOPLE);
            System.arraycopy(other.wasRung, 0, wasRung, 0, PEOPLE);
            System.arraycopy(other.callOf, 0, callOf, 0, PEOPLE);
            System.arraycopy(other.rang, 0, rang, 0, PLACES);
            System.arraycopy(other.rung, 0, rung, 0, PLACES);
            System.arraycopy(other.payer, 0, payer, 0, PLACES);
            System.arraycopy(other.left, 0, left, 0, PLACES);
            System.arraycopy(other.trunks, 0, trunks, 0, PLACES);
            System.arraycopy(other.routes, 0, routes, 0, PLACES * EXCHANGES);
            System.arraycopy(other.used, 0, used, 0, EXCHANGES * EXCHANGES);
        }

        boolean isTold(int s) {
            return within(s, 0, PEOPLE - 1) && (told >> s & 1) == 1;
        }

        int free() {
            return told & ~cutOff & ~offHook & ~talking;
        }

        int calls() {
            // Two talk in each call, and nobody in two.
            return Integer.bitCount(talking) / 2;
        }

        int arrearsOf(int s) {
            return isTold(s) ? arrears[s] : 0;
        }

        int partnerOf(int s) {
            if ((talking >> s & 1) == 0) {
                return NOTHING;
            }
            int i = callOf[s];
            return rang[i] == s ? rung[i] : rang[i];
        }

        void enter(int s, int e, boolean living) {
            endCallOf(s);
            int bit = 1 << s;
            told |= bit;
            dead = living ? dead & ~bit : dead | bit;
            cutOff &= ~bit;
            offHook &= ~bit;
            exchange[s] = e;
            arrears[s] = 0;
            hasRung[s] = 0;
            wasRung[s] = 0;
        }

        void addArrears(int s, int pence) {
            arrears[s] = bounded(arrears[s] + pence, MOST_PENCE);
        }

        void addFund(int pence) {
            fund = bounded(fund + pence, MOST_PENCE);
        }

        void cutOffNow(int s) {
            cutOff |= 1 << s;
            endCallOf(s);
        }

        int draw() {
            x = (25173 * x + 13849) & MOST_SEED;
            return x % 10;
        }

        int lowestFreePlace() {
            for (int i = 0; i < PLACES; i++) {
                if (left[i] == 0) {
                    return i;
                }
            }
            return NONE;
        }

        void begin(int i, int s, int k, int minutes) {
            rang[i] = s;
            rung[i] = k;
            left[i] = minutes;
            callOf[s] = i;
            callOf[k] = i;
            talking |= 1 << s | 1 << k;
            hasRung[s] = Math.min(hasRung[s] + 1, MOST_RINGS);
            wasRung[k] = Math.min(wasRung[k] + 1, MOST_RINGS);
        }

        void seize(int i, int[] path, int length) {
            trunks[i] = length;
            System.arraycopy(path, 0, routes, i * EXCHANGES, EXCHANGES);
            addUsed(i, 1);
        }

        void endCallOf(int s) {
            if ((talking >> s & 1) == 1) {
                endCallAt(callOf[s]);
            }
        }

        void endCallAt(int i) {
            left[i] = 0;
            talking &= ~(1 << rang[i] | 1 << rung[i]);
            addUsed(i, -1);
        }

        private void addUsed(int i, int more) {
            for (int j = 0; j < trunks[i]; j++) {
                int e = routes[i * EXCHANGES + j];
                int q = routes[i * EXCHANGES + j + 1];
                used[e * EXCHANGES + q] += more;
                used[q * EXCHANGES + e] += more;
            }
        }
    }

    /** The trunks between exchanges. */
    private static final class Net {
        final int[] circuits = new int[EXCHANGES * EXCHANGES];
        final int[] path = new int[EXCHANGES];
        private final int[] noneUsed = new int[EXCHANGES * EXCHANGES];
        private final int[] room = new int[EXCHANGES * EXCHANGES];
        private final int[] far = new int[EXCHANGES];
        private final int[] before = new int[EXCHANGES];
        private final int[] queue = new int[EXCHANGES];

        void lay(int e, int q, int many) {
            circuits[e * EXCHANGES + q] = many;
            circuits[q * EXCHANGES + e] = many;
        }

        /** How many trunks a route has, which then stands in path; NONE if there is none. */
        int findRoute(int e, int q, int[] used) {
            leaveRoom(used, MOST_CIRCUITS);
            spread(q);
            if (far[e] == NONE) {
                return NONE;
            }
            path[0] = e;
            for (int j = 1; j <= far[e]; j++) {
                path[j] = nearer(path[j - 1]);
            }
            return far[e];
        }

        int flow(int e, int q, int most) {
            leaveRoom(noneUsed, most);
            int sum = 0;
            // No more than nine circuits of seven trunks can leave an exchange.
            for (int round = 0; round < MOST_CIRCUITS * EXCHANGES; round++) {
                spread(e);
                if (far[q] == NONE) {
                    return sum;
                }
                sum += push(q);
            }
            return sum;
        }

        int middle() {
            leaveRoom(noneUsed, MOST_CIRCUITS);
            int best = 0;
            int bestReached = 0;
            int bestSum = 0;
            for (int e = 0; e < EXCHANGES; e++) {
                int reached = spread(e);
                int sum = 0;
                for (int q = 0; q < EXCHANGES; q++) {
                    sum += Math.max(0, far[q]);
                }
                if (reached > bestReached || reached == bestReached && sum < bestSum) {
                    best = e;
                    bestReached = reached;
                    bestSum = sum;
                }
            }
            return best;
        }

        private void leaveRoom(int[] used, int most) {
            for (int i = 0; i < EXCHANGES * EXCHANGES; i++) {
                room[i] = bounded(circuits[i] - used[i], most);
            }
        }

        /** Reckons how many trunks each exchange is from one, and from which it is come to; how many are. */
        private int spread(int from) {
            for (int e = 0; e < EXCHANGES; e++) {
                far[e] = NONE;
            }
            far[from] = 0;
            before[from] = from;
            queue[0] = from;
            int reached = 1;
            for (int i = 0; i < reached && i < EXCHANGES; i++) {
                int e = queue[i];
                for (int q = 0; q < EXCHANGES; q++) {
                    if (far[q] == NONE && room[e * EXCHANGES + q] > 0 && reached < EXCHANGES) {
                        far[q] = far[e] + 1;
                        before[q] = e;
                        queue[reached] = q;
                        reached++;
                    }
                }
            }
            return reached;
        }

        private int nearer(int e) {
            for (int q = 0; q < EXCHANGES; q++) {
                if (room[e * EXCHANGES + q] > 0 && far[q] == far[e] - 1) {
                    return q;
                }
            }
            return e;
        }

        private int push(int to) {
            int least = MOST_CIRCUITS * EXCHANGES;
            int q = to;
            for (int j = 0; j < far[to]; j++) {
                least = Math.min(least, room[before[q] * EXCHANGES + q]);
                q = before[q];
            }
            q = to;
            for (int j = 0; j < far[to]; j++) {
                room[before[q] * EXCHANGES + q] -= least;
                room[q * EXCHANGES + before[q]] += least;
                q = before[q];
            }
            return least;
        }
    }

    /** A law as steps for a stack: each sign stands for itself, a digit for a number, a for a letter. */
    private static final class Law {
        static final int NUMBER = '0';
        static final int LETTER = 'a';
        int rules;
        int steps;
        final int[] letter = new int[RULES];
        final int[] value = new int[RULES];
        final int[] condition = new int[RULES];
        final int[] end = new int[RULES];
        final int[] sign = new int[LAW_BYTES];
        // The number, the place of the letter's fact, or the step to go on at.
        final int[] with = new int[LAW_BYTES];

        int put(int what, int operand) {
            // No sign of the text makes more than one step, so there is always room.
            if (steps < LAW_BYTES) {
                sign[steps] = what;
                with[steps] = operand;
                steps++;
            }
            return steps - 1;
        }

        void land(int from) {
            if (from >= 0) {
                with[from] = steps;
            }
        }
    }

    /** Makes a law of a text; each method tells whether its part has no fault. */
    private static final class LawReader {
        private static final String LETTERS = "seaofthkdn";
        private final Tape tape;
        // Not the law in force: that one stays if this one has a fault.
        Law law = new Law();

        LawReader(Tape tape) {
            this.tape = tape;
        }

        int readLaw() {
            law.rules = 0;
            law.steps = 0;
            for (int i = 0; i <= RULES; i++) {
                if (!readRule(i)) {
                    return tape.fault;
                }
                law.rules = i + 1;
                if (tape.sign() == END) {
                    return law.rules;
                }
                if (!tape.passes(';')) {
                    return tape.fault;
                }
            }
            return tape.fault;
        }

        private boolean readRule(int i) {
            int letter = tape.sign();
            boolean hasValue = letter == 'r' || letter == 'w' || letter == 'l';
            if (!hasValue && letter != 'v' && letter != 'x') {
                return tape.fails(FAULT_SIGN);
            }
            if (i >= RULES) {
                return tape.fails(FAULT_MANY);
            }
            tape.place++;
            law.letter[i] = letter;
            law.value[i] = law.steps;
            if (hasValue && !readSum(0)) {
                return false;
            }
            law.condition[i] = law.steps;
            if (!readBracket(0)) {
                return false;
            }
            law.end[i] = law.steps;
            return true;
        }

        private boolean readBracket(int open) {
            if (tape.sign() != '(') {
                return tape.fails(FAULT_SIGN);
            }
            if (open >= OPEN) {
                return tape.fails(FAULT_OPEN);
            }
            tape.place++;
            return readCondition(open + 1) && tape.passes(')');
        }

        private boolean readCondition(int open) {
            if (!readPart(open)) {
                return false;
            }
            int jump = NONE;
            for (int i = 0; i < LAW_BYTES && tape.sign() == '|'; i++) {
                tape.place++;
                law.land(jump);
                jump = law.put('|', 0);
                if (!readPart(open)) {
                    return false;
                }
            }
            law.land(jump);
            return true;
        }

        private boolean readPart(int open) {
            if (!readTest(open)) {
                return false;
            }
            int jump = NONE;
            for (int i = 0; i < LAW_BYTES && tape.sign() == '&'; i++) {
                tape.place++;
                law.land(jump);
                jump = law.put('&', 0);
                if (!readTest(open)) {
                    return false;
                }
            }
            law.land(jump);
            return true;
        }

        private boolean readTest(int open) {
            if (tape.sign() == '(') {
                return readBracket(open);
            }
            if (tape.sign() != '!') {
                return readComparison(open);
            }
            if (open >= OPEN) {
                return tape.fails(FAULT_OPEN);
            }
            tape.place++;
            if (!readTest(open + 1)) {
                return false;
            }
            law.put('!', 0);
            return true;
        }

        private boolean readComparison(int open) {
            if (!readSum(open)) {
                return false;
            }
            int sign = tape.sign();
            if (sign != '<' && sign != '>' && sign != '=') {
                return tape.fails(FAULT_SIGN);
            }
            tape.place++;
            if (!readSum(open)) {
                return false;
            }
            law.put(sign, 0);
            return true;
        }

        private boolean readSum(int open) {
            if (!readProduct(open)) {
                return false;
            }
            for (int i = 0; i < LAW_BYTES && (tape.sign() == '+' || tape.sign() == '-'); i++) {
                int sign = tape.sign();
                tape.place++;
                if (!readProduct(open)) {
                    return false;
                }
                law.put(sign, 0);
            }
            return true;
        }

        private boolean readProduct(int open) {
            if (!readFactor(open)) {
                return false;
            }
            for (int i = 0; i < LAW_BYTES && isTimes(tape.sign()); i++) {
                int sign = tape.sign();
                tape.place++;
                if (!readFactor(open)) {
                    return false;
                }
                law.put(sign, 0);
            }
            return true;
        }

        private static boolean isTimes(int sign) {
            return sign == '*' || sign == '/' || sign == '%';
        }

        private boolean readFactor(int open) {
            int sign = tape.sign();
            if (sign == '[') {
                if (open >= OPEN) {
                    return tape.fails(FAULT_OPEN);
                }
                tape.place++;
                return readSum(open + 1) && tape.passes(']');
            }
            int fact = sign >= 0 ? LETTERS.indexOf((char) sign) : NONE;
            if (fact >= 0) {
                tape.place++;
                law.put(Law.LETTER, fact);
                return true;
            }
            if (!tape.readNumber()) {
                return false;
            }
            law.put(Law.NUMBER, tape.number);
            return true;
        }
    }

    /** Asks a law about one subscriber, and about whom he rings. */
    private static final class Reckoner {
        private static final int FACTS = 10;
        private static final int STACK = 64;
        private final int[] facts = new int[FACTS];
        private final int[] stack = new int[STACK];
        private boolean refused;

        void lookAt(World w, int s) {
            facts[0] = s;
            facts[1] = w.exchange[s];
            facts[2] = (w.dead >> s & 1) == 0 ? 1 : 0;
            facts[3] = w.arrears[s];
            facts[4] = w.fund / 100;
            facts[5] = w.minute % 60;
            facts[6] = w.minute / 60 % 24;
            facts[7] = 0;
            facts[8] = 0;
            facts[9] = 0;
        }

        void lookAtCall(World w, int k, int trunks) {
            facts[7] = k;
            facts[8] = w.dead >> k & 1;
            facts[9] = trunks;
        }

        int valueOf(Law law, int letter, int most) {
            int i = firstHolding(law, letter);
            return i == NONE ? 0 : bounded(reckon(law, law.value[i], law.condition[i]), most);
        }

        int firstHolding(Law law, int letter) {
            for (int i = 0; i < law.rules && i < RULES; i++) {
                if (law.letter[i] == letter && reckon(law, law.condition[i], law.end[i]) != 0) {
                    return i;
                }
            }
            return NONE;
        }

        /** What the steps come to; 0 if they are refused, which is also: does not hold. */
        private int reckon(Law law, int from, int to) {
            refused = false;
            int top = 0;
            int at = from;
            for (int step = 0; step < LAW_BYTES && at < to && at < LAW_BYTES && !refused; step++) {
                int sign = law.sign[at];
                int with = law.with[at];
                at++;
                if (sign == Law.NUMBER || sign == Law.LETTER) {
                    if (top < STACK) {
                        stack[top] = sign == Law.NUMBER ? with : facts[with];
                        top++;
                    }
                } else if (sign == '!') {
                    if (top >= 1) {
                        stack[top - 1] = stack[top - 1] == 0 ? 1 : 0;
                    }
                } else if (sign == '&' || sign == '|') {
                    // What settles it stays, and the rest is not asked.
                    if (top >= 1 && (stack[top - 1] != 0) == (sign == '|')) {
                        at = with;
                    } else {
                        top = Math.max(0, top - 1);
                    }
                } else if (top >= 2) {
                    top--;
                    stack[top - 1] = join(sign, stack[top - 1], stack[top]);
                }
            }
            return refused || top < 1 ? 0 : stack[0];
        }

        private int join(int sign, int a, int b) {
            switch (sign) {
                case '+':
                    return a + b;
                case '-':
                    return a - b;
                case '*':
                    return a * b;
                case '<':
                    return a < b ? 1 : 0;
                case '>':
                    return a > b ? 1 : 0;
                case '=':
                    return a == b ? 1 : 0;
                default:
                    break;
            }
            if (b == 0) {
                refused = true;
                return 0;
            }
            return sign == '/' ? a / b : a % b;
        }
    }

    /** Lets minutes go by in a world, and counts what came of them. */
    private static final class Switchboard {
        private final Net net;
        private final Reckoner reckoner = new Reckoner();
        Law law = new Law();
        int trunkRate = 1;
        int callRate = 1;
        int begun;
        int lost;
        int stopped;

        Switchboard(Net net) {
            this.net = net;
        }

        void run(World w, int n) {
            begun = 0;
            lost = 0;
            stopped = 0;
            for (int i = 0; i < n && w.minute < LAST_MINUTE; i++) {
                goBy(w);
            }
        }

        int minutesTillPoor(World w, int n) {
            if (w.fund == 0) {
                return 0;
            }
            for (int i = 1; i <= n && w.minute < LAST_MINUTE; i++) {
                goBy(w);
                if (w.fund == 0) {
                    return i;
                }
            }
            return NOTHING;
        }

        private void goBy(World w) {
            for (int i = 0; i < PLACES; i++) {
                if (w.left[i] > 0) {
                    charge(w, i);
                }
            }
            for (int s = 0; s < PEOPLE; s++) {
                if ((w.free() >> s & 1) == 1) {
                    mayRing(w, s);
                }
            }
            for (int s = 0; s < PEOPLE; s++) {
                if (((w.told & ~w.cutOff) >> s & 1) == 1) {
                    mayStop(w, s);
                }
            }
            w.minute++;
        }

        private void charge(World w, int i) {
            int pence = callRate + trunkRate * w.trunks[i];
            int s = w.payer[i];
            if ((w.dead >> s & 1) == 1) {
                w.addFund(-pence);
            } else {
                w.addArrears(s, pence);
            }
            w.left[i]--;
            if (w.left[i] == 0) {
                w.endCallAt(i);
            }
        }

        private void mayRing(World w, int s) {
            reckoner.lookAt(w, s);
            int tenths = reckoner.valueOf(law, 'r', 10);
            if (w.draw() >= tenths) {
                return;
            }
            int k = reckoner.valueOf(law, 'w', PEOPLE - 1);
            boolean canTalk = k != s && (w.free() >> k & 1) == 1;
            int trunks = canTalk ? net.findRoute(w.exchange[s], w.exchange[k], w.used) : NONE;
            int place = w.lowestFreePlace();
            if (trunks == NONE || place == NONE) {
                lost++;
                return;
            }
            reckoner.lookAtCall(w, k, trunks);
            int many = reckoner.valueOf(law, 'l', 99);
            if (many == 0) {
                return;
            }
            w.payer[place] = reckoner.firstHolding(law, 'v') == NONE ? s : k;
            w.begin(place, s, k, many);
            w.seize(place, net.path, trunks);
            begun++;
        }

        private void mayStop(World w, int s) {
            reckoner.lookAt(w, s);
            if (reckoner.firstHolding(law, 'x') != NONE) {
                w.cutOffNow(s);
                stopped++;
            }
        }
    }

    /** A bill: read whole first, for nothing is done by one with a fault. */
    private static final class Bill {
        private static final int FUND = 16;
        private final Tape tape;
        private final int[] whose = new int[LINES];
        private final int[] sign = new int[LINES];
        private final int[] pence = new int[LINES];
        private int lines;

        Bill(Tape tape) {
            this.tape = tape;
        }

        int readLines(int known) {
            for (int i = 0; i <= LINES; i++) {
                if (!readWhose(i, known) || !readWhat(i)) {
                    return tape.fault;
                }
                lines = i + 1;
                if (tape.sign() == END) {
                    return lines;
                }
                if (!tape.passes(';')) {
                    return tape.fault;
                }
            }
            return tape.fault;
        }

        private boolean readWhose(int i, int known) {
            int letter = tape.sign();
            boolean isFund = letter == 'F';
            if (!isFund && !within(letter, 'a', 'p')) {
                return tape.fails(FAULT_SIGN);
            }
            if (i >= LINES) {
                return tape.fails(FAULT_MANY);
            }
            int s = isFund ? FUND : letter - 'a';
            if (!isFund && (known >> s & 1) == 0) {
                return tape.fails(FAULT_UNTOLD);
            }
            tape.place++;
            whose[i] = s;
            return true;
        }

        private boolean readWhat(int i) {
            int what = tape.sign();
            sign[i] = what;
            if (what == '+' || what == '-') {
                tape.place++;
                if (!tape.readNumber()) {
                    return false;
                }
                pence[i] = what == '+' ? tape.number : -tape.number;
                return true;
            }
            boolean isKnown = what == '!' || what == '?' || what == '*' || what == '^' || what == '_';
            if (!isKnown || whose[i] == FUND) {
                return tape.fails(FAULT_SIGN);
            }
            tape.place++;
            return true;
        }

        void settle(World w) {
            for (int i = 0; i < lines && i < LINES; i++) {
                if (whose[i] == FUND) {
                    w.addFund(pence[i]);
                } else {
                    settleLine(w, i, whose[i]);
                }
            }
        }

        private void settleLine(World w, int i, int s) {
            switch (sign[i]) {
                case '!':
                    w.cutOffNow(s);
                    break;
                case '?':
                    w.cutOff &= ~(1 << s);
                    break;
                case '*':
                    w.dead |= 1 << s;
                    break;
                case '^':
                    w.offHook |= 1 << s;
                    break;
                case '_':
                    w.offHook &= ~(1 << s);
                    break;
                default:
                    w.addArrears(s, pence[i]);
                    break;
            }
        }
    }

    /** The codes of the exchanges, and behind them one that is only asked about. */
    private static final class Plans {
        static final int ASKED = EXCHANGES;
        private final Tape tape;
        private final int[] digits = new int[(EXCHANGES + 1) * DIALLED_DIGITS];
        final int[] length = new int[EXCHANGES + 1];

        Plans(Tape tape) {
            this.tape = tape;
        }

        int load(int row, int n) {
            if (!tape.holdsOnly('0', '9')) {
                return tape.fault;
            }
            for (int j = 0; j < n && j < DIALLED_DIGITS; j++) {
                digits[row * DIALLED_DIGITS + j] = tape.at(j) - '0';
            }
            length[row] = n;
            return n;
        }

        private boolean begins(int whole, int code) {
            if (length[code] == 0 || length[code] > length[whole]) {
                return false;
            }
            for (int j = 0; j < length[code]; j++) {
                if (digits[whole * DIALLED_DIGITS + j] != digits[code * DIALLED_DIGITS + j]) {
                    return false;
                }
            }
            return true;
        }

        int reached() {
            int best = NONE;
            for (int e = 0; e < EXCHANGES; e++) {
                if (begins(ASKED, e) && (best == NONE || length[e] > length[best])) {
                    best = e;
                }
            }
            return best;
        }

        boolean isClear() {
            for (int e = 0; e < EXCHANGES; e++) {
                for (int q = 0; q < EXCHANGES; q++) {
                    if (e != q && begins(e, q)) {
                        return false;
                    }
                }
            }
            return true;
        }

        int leastFree(int k) {
            int all = k == 1 ? 10 : k == 2 ? 100 : 1000;
            for (int number = 0; number < all; number++) {
                if (staysClear(number, k)) {
                    return number;
                }
            }
            return NOTHING;
        }

        private boolean staysClear(int number, int k) {
            int rest = number;
            for (int j = k - 1; j >= 0; j--) {
                digits[ASKED * DIALLED_DIGITS + j] = rest % 10;
                rest /= 10;
            }
            length[ASKED] = k;
            for (int e = 0; e < EXCHANGES; e++) {
                if (begins(ASKED, e) || begins(e, ASKED)) {
                    return false;
                }
            }
            return true;
        }
    }

    /** What is reckoned from the tape alone. */
    private static final class Sums {
        private static final int TOO_DEAR = 1000000;
        private final Tape tape;
        private final int[] first = new int[PEOPLE];
        private final int[] second = new int[PEOPLE];
        private final int[] row = new int[PEOPLE];
        private final int[] pence = new int[MOST_MINUTES + 1];
        private final int[] alphabet = new int[ALPHABET];

        Sums(Tape tape) {
            this.tape = tape;
        }

        /** By how much a sum changes when the set, counted up by one, takes in i and loses all below. */
        private void readSteps(int[] steps, int n, int from, int apart) {
            int below = 0;
            for (int i = 0; i < n && i < ROW; i++) {
                int value = tape.at(from + i * apart);
                steps[i] = value - below;
                below += value;
            }
        }

        private static int lowestOf(int set) {
            int i = 0;
            while (i < ROW - 1 && (set >> i & 1) == 0) {
                i++;
            }
            return i;
        }

        int savedMost(int n, int bound, boolean asksWho) {
            readSteps(first, n, 0, 2);
            readSteps(second, n, 1, 2);
            int cost = 0;
            int trouble = 0;
            int most = 0;
            int who = 0;
            for (int set = 1; set < 1 << n; set++) {
                int i = lowestOf(set);
                cost += first[i];
                trouble += second[i];
                if (trouble <= bound && cost > most) {
                    most = cost;
                    who = set;
                }
            }
            return asksWho ? who : most;
        }

        int tracedBy(int n, int due, boolean asksWhich) {
            readSteps(first, n, 0, 1);
            int sum = 0;
            int ways = due == 0 ? 1 : 0;
            int which = due == 0 ? 0 : NOTHING;
            int fewest = due == 0 ? 0 : ROW + 1;
            for (int set = 1; set < 1 << n; set++) {
                sum += first[lowestOf(set)];
                if (sum == due) {
                    ways++;
                    if (Integer.bitCount(set) < fewest) {
                        fewest = Integer.bitCount(set);
                        which = set;
                    }
                }
            }
            return asksWhich ? which : ways;
        }

        private void readPairs(int n) {
            for (int i = 0; i < n && i < PEOPLE; i++) {
                first[i] = tape.at(2 * i);
                second[i] = tape.at(2 * i + 1);
            }
        }

        boolean readHours(int n) {
            readPairs(n);
            for (int i = 0; i < n; i++) {
                if (second[i] == 0) {
                    return false;
                }
            }
            return true;
        }

        int busiest(int n, boolean asksWhen) {
            int most = 0;
            int when = 0;
            // There can only be more than before when one begins.
            for (int i = 0; i < n; i++) {
                int many = 0;
                for (int j = 0; j < n; j++) {
                    if (first[j] <= first[i] && first[i] < first[j] + second[j]) {
                        many++;
                    }
                }
                if (many > most || many == most && first[i] < when) {
                    most = many;
                    when = first[i];
                }
            }
            return asksWhen ? when : most;
        }

        int fewestCircuits(int n, int later) {
            sortByBeginning(n);
            for (int many = 1; many < n; many++) {
                if (suffices(many, n, later)) {
                    return many;
                }
            }
            return n;
        }

        private void sortByBeginning(int n) {
            for (int i = 1; i < n; i++) {
                int begins = first[i];
                int lasts = second[i];
                int j = i;
                for (; j > 0 && first[j - 1] > begins; j--) {
                    first[j] = first[j - 1];
                    second[j] = second[j - 1];
                }
                first[j] = begins;
                second[j] = lasts;
            }
        }

        private boolean suffices(int many, int n, int later) {
            for (int c = 0; c < many; c++) {
                row[c] = 0;
            }
            for (int i = 0; i < n; i++) {
                int soonest = 0;
                for (int c = 1; c < many; c++) {
                    if (row[c] < row[soonest]) {
                        soonest = c;
                    }
                }
                int begins = Math.max(first[i], row[soonest]);
                if (begins > first[i] + later) {
                    return false;
                }
                row[soonest] = begins + second[i];
            }
            return true;
        }

        boolean readTariffs(int n) {
            readPairs(n);
            for (int i = 0; i < n; i++) {
                if (!within(first[i], 1, TARIFF_MINUTES) || second[i] == 0) {
                    return false;
                }
            }
            return true;
        }

        /** By the tariffs from one on; behind it the row of pence holds this for all fewer minutes. */
        int leastPence(int from, int n, int minutes) {
            pence[0] = 0;
            for (int m = 1; m <= minutes; m++) {
                pence[m] = TOO_DEAR;
                for (int i = from; i < n; i++) {
                    pence[m] = Math.min(pence[m], pence[Math.max(0, m - first[i])] + second[i]);
                }
            }
            return pence[minutes];
        }

        int howOften(int n, int minutes, int which) {
            int rest = minutes;
            int often = 0;
            for (int i = 0; i <= which; i++) {
                int least = leastPence(i, n, rest);
                leastPence(i + 1, n, rest);
                often = mostOf(i, rest, least);
                rest = Math.max(0, rest - often * first[i]);
            }
            return often;
        }

        private int mostOf(int i, int minutes, int least) {
            for (int often = minutes; often > 0; often--) {
                int rest = Math.max(0, minutes - often * first[i]);
                if (often * second[i] + pence[rest] == least) {
                    return often;
                }
            }
            return 0;
        }

        boolean readTellers(int n) {
            first[0] = NONE;
            for (int i = 1; i < n; i++) {
                first[i] = tape.at(i);
                if (first[i] >= i) {
                    return false;
                }
            }
            return true;
        }

        int soonest(int n) {
            // A teller is lower than all his own, so these are reckoned ahead of him.
            for (int teller = n - 1; teller >= 0; teller--) {
                second[teller] = 0;
                for (int i = teller + 1; i < n; i++) {
                    if (first[i] == teller) {
                        second[teller] = Math.max(second[teller], turnOf(i, n) + second[i]);
                    }
                }
            }
            return second[0];
        }

        int firstRung(int n) {
            soonest(n);
            for (int i = 1; i < n; i++) {
                if (first[i] == 0 && turnOf(i, n) == 1) {
                    return i;
                }
            }
            return NOTHING;
        }

        /** The one whose own take longest is rung first. */
        private int turnOf(int i, int n) {
            int turn = 1;
            for (int j = 1; j < n; j++) {
                boolean isAhead = second[j] > second[i] || second[j] == second[i] && j < i;
                if (first[j] == first[i] && isAhead) {
                    turn++;
                }
            }
            return turn;
        }

        int cipher(int k, boolean back, int place) {
            layAlphabet(k);
            int letter = tape.at(place) - 'A';
            if (!back) {
                return within(letter, 0, ALPHABET - 1) ? alphabet[letter] : NONE;
            }
            for (int i = 0; i < ALPHABET; i++) {
                if (alphabet[i] == letter) {
                    return i;
                }
            }
            return NONE;
        }

        private void layAlphabet(int k) {
            int laid = 0;
            int size = 0;
            for (int i = 0; i < k + ALPHABET; i++) {
                int letter = i < k ? tape.at(i) - 'A' : i - k;
                if ((laid >> letter & 1) == 0 && size < ALPHABET) {
                    alphabet[size] = letter;
                    size++;
                    laid |= 1 << letter;
                }
            }
        }
    }
}

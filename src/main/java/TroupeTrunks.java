import java.util.Arrays;
import java.util.NoSuchElementException;

/** A troupe whose trunks go ahead by rail; the document numbers what each public method promises. */
public final class TroupeTrunks {
    public static final int NONE = -1;

    private static final int MOST_TOWNS = 5;
    private static final int MOST_TRUNKS = 5;
    private static final int TRUNK_SETS = 1 << MOST_TRUNKS;
    private static final int MOST_THINGS = 10;
    private static final int MOST_PLAYS = 4;
    private static final int MOST_NEEDS = 4;
    private static final int MOST_NIGHTS = 4;
    private static final int MOST_DAYS = 99;
    private static final int TROUPE_WITHOUT = 11;
    private static final int SORTS = 20;
    private static final int THOUSAND = 1000;
    private static final int LENT = 99;
    private static final int TAPE_ROOM = 700;
    private static final int FEED_BYTES = 20;

    private static final int CAREFUL = 0;
    private static final int DRUNK = 1;
    private static final int SLOW = 2;
    private static final int LAZY = 3;

    private static final int REFUSED_TEXTS = 0;
    private static final int REFUSED_SENDINGS = 1;
    private static final int REFUSED_NIGHTS = 2;
    private static final int REFUSALS = 3;

    private final byte[] tape = new byte[TAPE_ROOM];
    private int fed = 0;
    private int faultPlace = NONE;

    private final Tale tale = new Tale();
    private final Tale draft = new Tale();
    private final Reader reader = new Reader(tape, draft);
    private final Ways ways = new Ways(tale);
    private final Prices prices = new Prices(tale);
    private final Standing now = new Standing();
    private final Standing picture = new Standing();
    private boolean imaged = false;
    private final Past past = new Past();
    private final Planner planner = new Planner(tale, ways, prices, now);

    public TroupeTrunks() {
    }

    // ---- the text

    public int feed(int a, int b, int c, int d, int e) {
        if (fed > TAPE_ROOM - FEED_BYTES) {
            return NONE;
        }
        putNumber(a);
        putNumber(b);
        putNumber(c);
        putNumber(d);
        putNumber(e);
        return fed;
    }

    private void putNumber(int number) {
        for (int shift = 24; shift >= 0; shift -= 8) {
            if (fed >= 0 && fed < tape.length) {
                tape[fed] = (byte) (number >>> shift);
                fed++;
            }
        }
    }

    public int told(int n) throws IllegalArgumentException {
        if (n < 0 || n > fed) {
            throw new IllegalArgumentException("the tape has not so many bytes");
        }
        int found = reader.read(n);
        fed = 0;
        faultPlace = reader.faultPlace();
        if (found != 0) {
            now.refuse(REFUSED_TEXTS);
            return found;
        }
        tale.takeFrom(draft);
        ways.measure();
        prices.clear();
        now.begin(tale);
        past.clear();
        planner.drop();
        imaged = false;
        return 0;
    }

    public int fault() {
        return faultPlace;
    }

    // ---- what there is

    public int count(int what) throws NoSuchElementException {
        switch (what) {
            case 0:
                return tale.towns;
            case 1:
                return tale.trunks;
            case 2:
                return tale.things;
            case 3:
                return tale.plays;
            case 4:
                return tale.troupe;
            case 5:
                return now.day;
            case 6:
                return now.nights;
            case 7:
                return past.size();
            case 8:
                return now.seeded ? 1 : 0;
            case 9:
                return fed;
            case 10:
            case 11:
            case 12:
                return at(now.refused, what - 10);
            default:
                throw new NoSuchElementException("no such count");
        }
    }

    public int town(int town, int what) throws NoSuchElementException {
        checkTown(town);
        switch (what) {
            case 0:
                return at(tale.kind, town);
            case 1:
                return at(tale.chance, town);
            case 2:
                return at(tale.lends, town);
            case 3:
                return at(tale.cost, town);
            case 4:
                return now.trunksIn(town);
            case 5:
                return tale.thingsOf(now.trunksIn(town));
            default:
                throw new NoSuchElementException("no such fact of a town");
        }
    }

    public int trunk(int trunk, int what) throws NoSuchElementException {
        checkTrunk(trunk);
        switch (what) {
            case 0:
                return now.isThere(trunk) ? at(now.place, trunk) : NONE;
            case 1:
                return at(now.place, trunk);
            case 2:
                return at(now.comes, trunk);
            case 3:
                return tale.thingsOf(1 << trunk);
            default:
                throw new NoSuchElementException("no such fact of a trunk");
        }
    }

    // ---- prices

    public int price(int play, int town, int things) throws NoSuchElementException, IllegalArgumentException {
        checkPlay(play);
        checkTown(town);
        if ((things & ~lowBits(tale.things)) != 0) {
            throw new IllegalArgumentException("no such things");
        }
        return prices.byThings(play, town, things, NONE);
    }

    public int filled(int play, int town, int i) throws NoSuchElementException {
        checkPlay(play);
        checkTown(town);
        if (i < 0 || i >= at(tale.needs, play)) {
            throw new NoSuchElementException("no such need");
        }
        return prices.filler(play, town, tale.thingsOf(now.trunksIn(town)), i);
    }

    public int tonight(int town, int what) throws NoSuchElementException {
        checkTown(town);
        checkPair(what);
        int best = NONE;
        int least = NONE;
        int trunks = now.trunksIn(town);
        for (int play = 0; play < tale.plays; play++) {
            if (at(tale.cast, play) <= tale.troupe) {
                int cost = prices.byTrunks(play, town, trunks);
                if (isLess(cost, least)) {
                    least = cost;
                    best = play;
                }
            }
        }
        return what == 0 ? best : least;
    }

    public int both(int town, int other, int what) throws NoSuchElementException {
        checkTown(town);
        checkTown(other);
        checkPair(what);
        if (town == other) {
            return NONE;
        }
        int best = NONE;
        int least = NONE;
        for (int first = 0; first < tale.plays; first++) {
            for (int second = 0; second < tale.plays; second++) {
                int cost = priceOfBoth(first, town, second, other);
                if (isLess(cost, least)) {
                    least = cost;
                    best = 8 * first + second;
                }
            }
        }
        return what == 0 ? best : least;
    }

    private int priceOfBoth(int first, int town, int second, int other) {
        if (at(tale.cast, first) + at(tale.cast, second) > tale.troupe) {
            return NONE;
        }
        int here = prices.byTrunks(first, town, now.trunksIn(town));
        int there = prices.byTrunks(second, other, now.trunksIn(other));
        return here == NONE || there == NONE ? NONE : here + there;
    }

    public int unopened(int play, int town, int a, int b, int c)
            throws NoSuchElementException, IllegalArgumentException {
        checkPlay(play);
        checkTown(town);
        int weights = weightOf(a) + weightOf(b) + weightOf(c);
        if (weights <= 0) {
            throw new IllegalArgumentException("no weight at all");
        }
        int things = tale.thingsOf(now.trunksIn(town));
        int without = orThousand(prices.byThings(play, town, things, NONE));
        int together = weighed(play, town, things, a) + weighed(play, town, things, b)
                + weighed(play, town, things, c);
        return without - together / weights;
    }

    private static int weightOf(int guess) {
        if (guess < NONE || guess >= 100 * SORTS) {
            throw new IllegalArgumentException("no sort and weight");
        }
        return guess == NONE ? 0 : guess % 100;
    }

    private int weighed(int play, int town, int things, int guess) {
        if (guess == NONE) {
            return 0;
        }
        return guess % 100 * orThousand(prices.byThings(play, town, things, guess / 100));
    }

    private static int orThousand(int price) {
        return price == NONE ? THOUSAND : price;
    }

    // ---- ways, sendings, days

    public int way(int from, int to) throws NoSuchElementException {
        checkTown(from);
        checkTown(to);
        return ways.span(from, to);
    }

    public int clerk(int from, int to, int i) throws NoSuchElementException {
        int clerks = clerksOf(from, to);
        if (i == NONE) {
            return clerks;
        }
        checkClerk(i, clerks);
        return ways.stop(i);
    }

    public long lost(int from, int to, int i, int what) throws NoSuchElementException {
        int clerks = clerksOf(from, to);
        checkClerk(i, clerks);
        checkPair(what);
        long share = ways.lostShare(i, clerks);
        long whole = ways.lostWhole(clerks);
        long divisor = commonDivisor(whole, share);
        // Both are 0 where nobody can lose it.
        if (divisor == 0) {
            return what == 0 ? 0 : 1;
        }
        return what == 0 ? share / divisor : whole / divisor;
    }

    private int clerksOf(int from, int to) {
        checkTown(from);
        checkTown(to);
        int clerks = ways.lay(from, to);
        if (clerks == NONE) {
            throw new NoSuchElementException("no way");
        }
        return clerks;
    }

    public int send(int trunk, int to) throws NoSuchElementException {
        checkTrunk(trunk);
        checkTown(to);
        int from = at(now.place, trunk);
        int clerks = now.isThere(trunk) && from != to ? ways.lay(from, to) : NONE;
        if (clerks == NONE) {
            now.refuse(REFUSED_SENDINGS);
            return NONE;
        }
        past.keep(now);
        ride(trunk, clerks);
        return at(now.comes, trunk);
    }

    private void ride(int trunk, int clerks) {
        int day = now.day;
        for (int i = 0; i < clerks; i++) {
            int here = ways.stop(i);
            int next = ways.stop(i + 1);
            int slip = now.seeded && now.draw(THOUSAND) < at(tale.chance, here) ? at(tale.kind, here) : CAREFUL;
            int astray = slip == DRUNK ? ways.elsewhere(here, next) : NONE;
            if (slip == LAZY) {
                now.place(trunk, here, day);
                return;
            }
            if (astray != NONE) {
                now.place(trunk, astray, day + tale.trainDays(here, astray));
                return;
            }
            day += tale.trainDays(here, next) + (slip == SLOW ? 1 : 0);
        }
        now.place(trunk, ways.stop(clerks), day);
    }

    public void seed(int seed) {
        now.seeded = true;
        now.seed = seed;
    }

    public int days(int days) throws IllegalArgumentException {
        if (days < 0 || days > MOST_DAYS) {
            throw new IllegalArgumentException("so many days can't go by");
        }
        past.keep(now);
        now.day += days;
        return now.day;
    }

    public boolean undo() {
        return past.bringBack(now);
    }

    // ---- the tour

    public int night(int day, int town, int play) throws NoSuchElementException {
        checkTown(town);
        checkPlay(play);
        if (!now.addNight(day, town, play)) {
            now.refuse(REFUSED_NIGHTS);
            return NONE;
        }
        return now.nights;
    }

    public void forget() {
        now.nights = 0;
    }

    public int tour() {
        return planner.plan();
    }

    public int rides(int trunk) throws NoSuchElementException {
        checkTrunk(trunk);
        if (!planner.hasPlan()) {
            throw new NoSuchElementException("no tour is kept");
        }
        return planner.nightsOf(trunk);
    }

    public int spared(int what) throws NoSuchElementException {
        checkPair(what);
        planner.findSpared();
        return what == 0 ? planner.sparedTrunk() : planner.sparedPrice();
    }

    // ---- the image

    public void image() {
        picture.takeFrom(now);
        imaged = true;
    }

    public boolean restore() {
        if (!imaged) {
            return false;
        }
        now.takeFrom(picture);
        past.clear();
        return true;
    }

    // ---- what is refused by a throw

    private void checkTown(int town) {
        if (town < 0 || town >= tale.towns) {
            throw new NoSuchElementException("no such town");
        }
    }

    private void checkTrunk(int trunk) {
        if (trunk < 0 || trunk >= tale.trunks) {
            throw new NoSuchElementException("no such trunk");
        }
    }

    private void checkPlay(int play) {
        if (play < 0 || play >= tale.plays) {
            throw new NoSuchElementException("no such play");
        }
    }

    private static void checkPair(int what) {
        if (what != 0 && what != 1) {
            throw new NoSuchElementException("no such answer");
        }
    }

    private static void checkClerk(int i, int clerks) {
        if (i < 0 || i >= clerks) {
            throw new NoSuchElementException("no such clerk");
        }
    }

    // ---- rows and numbers

    /** NONE beyond the row, so that no index can ever make the machine throw. */
    private static int at(int[] row, int i) {
        return i >= 0 && i < row.length ? row[i] : NONE;
    }

    private static void put(int[] row, int i, int value) {
        if (i >= 0 && i < row.length) {
            row[i] = value;
        }
    }

    /** A price against the least so far, either of which may be NONE: no price is above all. */
    private static boolean isLess(int price, int least) {
        return price != NONE && (least == NONE || price < least);
    }

    private static boolean has(int set, int i) {
        return (set >>> i & 1) != 0;
    }

    private static int lowBits(int count) {
        return (1 << count) - 1;
    }

    private static long commonDivisor(long a, long b) {
        // 100 steps are enough: each two of them halve numbers below 2 to the 40th.
        for (int step = 0; step < 100 && b != 0; step++) {
            long rest = a % b;
            a = b;
            b = rest;
        }
        return a;
    }

    /** What a text tells. */
    private static final class Tale {
        int towns;
        final int[] kind = new int[MOST_TOWNS];
        final int[] chance = new int[MOST_TOWNS];
        final int[] lends = new int[MOST_TOWNS];
        final int[] cost = new int[MOST_TOWNS];
        final int[] train = new int[MOST_TOWNS * MOST_TOWNS];
        int trunks;
        final int[] home = new int[MOST_TRUNKS];
        int things;
        final int[] sort = new int[MOST_THINGS];
        final int[] holder = new int[MOST_THINGS];
        int plays;
        final int[] cast = new int[MOST_PLAYS];
        final int[] needs = new int[MOST_PLAYS];
        final int[] need = new int[MOST_PLAYS * MOST_NEEDS];
        final int[] shame = new int[SORTS * SORTS];
        int troupe;

        Tale() {
            clear();
        }

        void clear() {
            towns = 0;
            trunks = 0;
            things = 0;
            plays = 0;
            troupe = TROUPE_WITHOUT;
            Arrays.fill(train, NONE);
            Arrays.fill(shame, NONE);
            for (int one = 0; one < SORTS; one++) {
                put(shame, one * SORTS + one, 0);
            }
        }

        void takeFrom(Tale other) {
            towns = other.towns;
            trunks = other.trunks;
            things = other.things;
            plays = other.plays;
            troupe = other.troupe;
            copy(other.kind, kind);
            copy(other.chance, chance);
            copy(other.lends, lends);
            copy(other.cost, cost);
            copy(other.train, train);
            copy(other.home, home);
            copy(other.sort, sort);
            copy(other.holder, holder);
            copy(other.cast, cast);
            copy(other.needs, needs);
            copy(other.need, need);
            copy(other.shame, shame);
        }

        /** DAYS of a TRAIN, NONE where none goes. */
        int trainDays(int from, int to) {
            return at(train, from * MOST_TOWNS + to);
        }

        int needOf(int play, int i) {
            return at(need, play * MOST_NEEDS + i);
        }

        /** At what SHAME a THING of one SORT stands for another one; NONE where it may not. */
        int shameOf(int one, int other) {
            return at(shame, one * SORTS + other);
        }

        int thingsOf(int trunkSet) {
            int found = 0;
            for (int thing = 0; thing < things; thing++) {
                if (has(trunkSet, at(holder, thing))) {
                    found |= 1 << thing;
                }
            }
            return found;
        }
    }

    private static void copy(int[] from, int[] to) {
        System.arraycopy(from, 0, to, 0, Math.min(from.length, to.length));
    }

    /**
     * Reads a text into a draft. Behind a FAULT its LINE is read to the end, as fail() keeps the first one and
     * nothing more is told then.
     */
    private static final class Reader {
        private static final int END = 0;
        private static final int WORD = 1;
        private static final int NUMBER = 2;
        private static final int STOP = 3;
        private static final int STRANGE = 4;

        private static final int CANNOT_STAND = 1;
        private static final int TOO_MUCH = 2;
        private static final int NOT_TOLD = 3;
        private static final int TOLD_TWICE = 4;
        private static final int SECOND_TROUPE = 5;

        private static final int MOST_DIGITS = 4;
        private static final int MOST_NUMBER = 9999;

        private final byte[] text;
        private final Tale draft;
        private int length = 0;
        private int token = END;
        private int start = 0;
        /** Where the TOKEN ends. */
        private int next = 0;
        private int value = 0;
        /** Where the NUMBER began that was taken last: some FAULTS are found behind it. */
        private int taken = 0;
        private boolean troupeTold = false;
        private int fault = 0;
        private int place = NONE;

        Reader(byte[] text, Tale draft) {
            this.text = text;
            this.draft = draft;
        }

        int faultPlace() {
            return place;
        }

        int read(int bytes) {
            length = Math.min(bytes, text.length);
            next = 0;
            fault = 0;
            place = NONE;
            troupeTold = false;
            draft.clear();
            step();
            for (int line = 0; line <= length && token != END && fault == 0; line++) {
                readLine();
            }
            return fault;
        }

        private int byteAt(int i) {
            return i >= 0 && i < text.length ? text[i] : NONE;
        }

        private static boolean isBlank(int sign) {
            return sign == 32 || sign == 10;
        }

        private static boolean isLetter(int sign) {
            return sign >= 'a' && sign <= 'z';
        }

        private static boolean isDigit(int sign) {
            return sign >= '0' && sign <= '9';
        }

        private void step() {
            while (next < length && isBlank(byteAt(next))) {
                next++;
            }
            start = next;
            int sign = byteAt(next);
            value = 0;
            if (next >= length) {
                token = END;
            } else if (isLetter(sign)) {
                token = WORD;
                while (next < length && isLetter(byteAt(next))) {
                    next++;
                }
            } else if (isDigit(sign)) {
                token = NUMBER;
                while (next < length && isDigit(byteAt(next))) {
                    // Digits beyond the most are a FAULT whatever they say, and may not make it overflow.
                    value = next - start < MOST_DIGITS ? value * 10 + byteAt(next) - '0' : value;
                    next++;
                }
            } else {
                token = sign == ';' ? STOP : STRANGE;
                next++;
            }
        }

        private void fail(int kind, int where) {
            if (fault == 0) {
                fault = kind;
                place = where;
            }
        }

        private boolean isWord(String wanted) {
            if (token != WORD || next - start != wanted.length()) {
                return false;
            }
            for (int i = 0; i < wanted.length(); i++) {
                if (byteAt(start + i) != wanted.charAt(i)) {
                    return false;
                }
            }
            return true;
        }

        private int takeNumber(int least, int most) {
            if (token != NUMBER) {
                fail(CANNOT_STAND, start);
                return NONE;
            }
            if (next - start > MOST_DIGITS || value < least || value > most) {
                fail(TOO_MUCH, start);
                return NONE;
            }
            int number = value;
            taken = start;
            step();
            return number;
        }

        /** Of the TOWN or TRUNK that was taken last: whether it is one of so many that are told ahead. */
        private void checkTold(int number, int many) {
            if (number >= many) {
                fail(NOT_TOLD, taken);
            }
        }

        /** Takes a LINE's first word, of whose like there are so many already. */
        private void takeHead(int many, int most) {
            if (many >= most) {
                fail(TOO_MUCH, start);
            }
            step();
        }

        private boolean endsWell() {
            if (token != STOP) {
                fail(CANNOT_STAND, start);
            }
            step();
            return fault == 0;
        }

        private void readLine() {
            if (isWord("town")) {
                readTown();
            } else if (isWord("train")) {
                readTrain();
            } else if (isWord("trunk")) {
                readTrunk();
            } else if (isWord("thing")) {
                readThing();
            } else if (isWord("play")) {
                readPlay();
            } else if (isWord("like")) {
                readLike();
            } else if (isWord("troupe")) {
                readTroupe();
            } else {
                fail(CANNOT_STAND, start);
            }
        }

        private void readTown() {
            takeHead(draft.towns, MOST_TOWNS);
            int kind = takeKind();
            int chance = kind == CAREFUL ? 0 : takeNumber(0, THOUSAND);
            int lends = 0;
            int cost = 0;
            if (isWord("lends")) {
                step();
                lends = takeNumber(0, 9);
                cost = takeNumber(0, 99);
            }
            if (endsWell()) {
                put(draft.kind, draft.towns, kind);
                put(draft.chance, draft.towns, chance);
                put(draft.lends, draft.towns, lends);
                put(draft.cost, draft.towns, cost);
                draft.towns++;
            }
        }

        private int takeKind() {
            int kind = NONE;
            if (isWord("careful")) {
                kind = CAREFUL;
            } else if (isWord("drunk")) {
                kind = DRUNK;
            } else if (isWord("slow")) {
                kind = SLOW;
            } else if (isWord("lazy")) {
                kind = LAZY;
            } else {
                fail(CANNOT_STAND, start);
            }
            step();
            return kind;
        }

        private void readTrain() {
            step();
            int from = takeNumber(0, MOST_NUMBER);
            checkTold(from, draft.towns);
            int to = takeNumber(0, MOST_NUMBER);
            checkTold(to, draft.towns);
            if (from == to || draft.trainDays(from, to) != NONE) {
                fail(TOLD_TWICE, taken);
            }
            int days = takeNumber(1, 9);
            if (endsWell()) {
                put(draft.train, from * MOST_TOWNS + to, days);
            }
        }

        private void readTrunk() {
            takeHead(draft.trunks, MOST_TRUNKS);
            int town = takeNumber(0, MOST_NUMBER);
            checkTold(town, draft.towns);
            if (endsWell()) {
                put(draft.home, draft.trunks, town);
                draft.trunks++;
            }
        }

        private void readThing() {
            takeHead(draft.things, MOST_THINGS);
            int sort = takeNumber(0, SORTS - 1);
            int trunk = takeNumber(0, MOST_NUMBER);
            checkTold(trunk, draft.trunks);
            if (endsWell()) {
                put(draft.sort, draft.things, sort);
                put(draft.holder, draft.things, trunk);
                draft.things++;
            }
        }

        private void readPlay() {
            takeHead(draft.plays, MOST_PLAYS);
            int cast = takeNumber(1, 20);
            int needs = 0;
            do {
                put(draft.need, draft.plays * MOST_NEEDS + needs, takeNumber(0, SORTS - 1));
                needs++;
            } while (needs < MOST_NEEDS && token == NUMBER);
            if (token == NUMBER) {
                fail(TOO_MUCH, start);
            }
            if (endsWell()) {
                put(draft.cast, draft.plays, cast);
                put(draft.needs, draft.plays, needs);
                draft.plays++;
            }
        }

        private void readLike() {
            step();
            int one = takeNumber(0, SORTS - 1);
            int other = takeNumber(0, SORTS - 1);
            if (draft.shameOf(one, other) != NONE) {
                // A SORT stands for itself already.
                fail(TOLD_TWICE, taken);
            }
            int shame = takeNumber(0, 99);
            if (endsWell()) {
                put(draft.shame, one * SORTS + other, shame);
            }
        }

        private void readTroupe() {
            if (troupeTold) {
                fail(SECOND_TROUPE, start);
            }
            step();
            int troupe = takeNumber(1, 40);
            if (endsWell()) {
                draft.troupe = troupe;
                troupeTold = true;
            }
        }
    }

    /** WAYS by TRAINS, and where along one a TRUNK may be LOST. */
    private static final class Ways {
        private final Tale tale;
        private final int[] spans = new int[MOST_TOWNS * MOST_TOWNS];
        private final int[] stops = new int[MOST_TOWNS];

        Ways(Tale tale) {
            this.tale = tale;
            Arrays.fill(spans, NONE);
        }

        void measure() {
            copy(tale.train, spans);
            for (int town = 0; town < MOST_TOWNS; town++) {
                put(spans, town * MOST_TOWNS + town, 0);
            }
            for (int over = 0; over < MOST_TOWNS; over++) {
                for (int from = 0; from < MOST_TOWNS; from++) {
                    for (int to = 0; to < MOST_TOWNS; to++) {
                        int both = joined(span(from, over), span(over, to));
                        if (isLess(both, span(from, to))) {
                            put(spans, from * MOST_TOWNS + to, both);
                        }
                    }
                }
            }
        }

        private static int joined(int first, int second) {
            return first == NONE || second == NONE ? NONE : first + second;
        }

        int span(int from, int to) {
            return at(spans, from * MOST_TOWNS + to);
        }

        /** Lays out the WAY for stop(): how many CLERKS it has, NONE if there is none. */
        int lay(int from, int to) {
            if (span(from, to) == NONE) {
                return NONE;
            }
            put(stops, 0, from);
            int here = from;
            int clerks = 0;
            while (here != to && clerks < MOST_TOWNS - 1) {
                here = nextStop(here, to);
                clerks++;
                put(stops, clerks, here);
            }
            return clerks;
        }

        private int nextStop(int here, int to) {
            for (int town = 0; town < tale.towns; town++) {
                int days = joined(tale.trainDays(here, town), span(town, to));
                if (days != NONE && days == span(here, to)) {
                    return town;
                }
            }
            return to;
        }

        int stop(int i) {
            return at(stops, i);
        }

        /** Where a drunk CLERK would send it; NONE if no other TRAIN goes from there. */
        int elsewhere(int here, int next) {
            for (int town = 0; town < tale.towns; town++) {
                if (town != next && tale.trainDays(here, town) != NONE) {
                    return town;
                }
            }
            return NONE;
        }

        /** Of a thousand, how often the i-th CLERK of the WAY laid out loses it. */
        private long loses(int i) {
            int town = stop(i);
            int kind = at(tale.kind, town);
            boolean can = kind == LAZY || kind == DRUNK && elsewhere(town, stop(i + 1)) != NONE;
            return can ? at(tale.chance, town) : 0;
        }

        /** Of 1000 to the power of CLERKS, how often the i-th one is the first to lose it. */
        long lostShare(int i, int clerks) {
            long share = 1;
            for (int clerk = 0; clerk < clerks; clerk++) {
                if (clerk < i) {
                    share *= THOUSAND - loses(clerk);
                } else {
                    share *= clerk == i ? loses(clerk) : THOUSAND;
                }
            }
            return share;
        }

        long lostWhole(int clerks) {
            long all = 1;
            long safe = 1;
            for (int clerk = 0; clerk < clerks; clerk++) {
                all *= THOUSAND;
                safe *= THOUSAND - loses(clerk);
            }
            return all - safe;
        }
    }

    /** THE PRICE of PLAYS, and by what their NEEDS are filled. */
    private static final class Prices {
        private static final int UNKNOWN = -2;
        private static final int NEED_SETS = 1 << MOST_NEEDS;

        private final Tale tale;
        /** By PLAY, TOWN and set of TRUNKS, as a TOUR asks for the same ones over and over. */
        private final int[] known = new int[MOST_PLAYS * MOST_TOWNS * TRUNK_SETS];
        /** The least SHAME at which each set of NEEDS can be filled by THINGS looked at so far. */
        private final int[] least = new int[NEED_SETS];
        /** Of the THING looked at: its SHAME for each NEED. */
        private final int[] shames = new int[MOST_NEEDS];

        Prices(Tale tale) {
            this.tale = tale;
            clear();
        }

        void clear() {
            Arrays.fill(known, UNKNOWN);
        }

        int byTrunks(int play, int town, int trunkSet) {
            int slot = (play * MOST_TOWNS + town) * TRUNK_SETS + trunkSet;
            int price = at(known, slot);
            if (price == UNKNOWN) {
                price = leastPrice(play, town, 0, tale.thingsOf(trunkSet), NONE, at(tale.lends, town));
                put(known, slot, price);
            }
            return price;
        }

        /** With one THING more of a SORT, or NONE. */
        int byThings(int play, int town, int things, int more) {
            return leastPrice(play, town, 0, things, more, at(tale.lends, town));
        }

        /** Of the NEEDS from one on, while the TOWN still LENDS so many. */
        private int leastPrice(int play, int town, int from, int things, int more, int lends) {
            Arrays.fill(least, NONE);
            put(least, 0, 0);
            for (int thing = 0; thing < tale.things; thing++) {
                if (has(things, thing)) {
                    useSort(play, from, at(tale.sort, thing));
                }
            }
            if (more != NONE) {
                useSort(play, from, more);
            }
            return withLent(at(tale.needs, play) - from, lends, at(tale.cost, town));
        }

        private void useSort(int play, int from, int sort) {
            int needs = at(tale.needs, play) - from;
            boolean useful = false;
            for (int need = 0; need < needs; need++) {
                int shame = tale.shameOf(sort, tale.needOf(play, from + need));
                put(shames, need, shame);
                useful = useful || shame != NONE;
            }
            if (useful) {
                fillBy(needs);
            }
        }

        private void fillBy(int needs) {
            // Downwards, so that no set is filled by the same THING twice.
            for (int set = lowBits(needs); set >= 0; set--) {
                int before = at(least, set);
                for (int need = 0; need < needs && before != NONE; need++) {
                    int shame = at(shames, need);
                    int after = set | 1 << need;
                    if (after != set && shame != NONE && isLess(before + shame, at(least, after))) {
                        put(least, after, before + shame);
                    }
                }
            }
        }

        private int withLent(int needs, int lends, int cost) {
            int best = NONE;
            for (int set = 0; set <= lowBits(needs); set++) {
                int lent = needs - Integer.bitCount(set);
                int shame = at(least, set);
                if (shame != NONE && lent <= lends && isLess(shame + lent * cost, best)) {
                    best = shame + lent * cost;
                }
            }
            return best;
        }

        /** By what the i-th NEED is filled: each NEED up to it takes the first that keeps the PRICE least. */
        int filler(int play, int town, int things, int i) {
            int lends = at(tale.lends, town);
            int rest = leastPrice(play, town, 0, things, NONE, lends);
            if (rest == NONE) {
                return NONE;
            }
            int left = things;
            int filler = NONE;
            for (int need = 0; need <= i && need < MOST_NEEDS; need++) {
                filler = firstThing(play, town, need, left, lends, rest);
                if (filler == NONE) {
                    filler = LENT;
                    lends--;
                    rest -= at(tale.cost, town);
                } else {
                    left &= ~(1 << filler);
                    rest -= tale.shameOf(at(tale.sort, filler), tale.needOf(play, need));
                }
            }
            return filler;
        }

        private int firstThing(int play, int town, int need, int things, int lends, int price) {
            for (int thing = 0; thing < tale.things; thing++) {
                int shame = tale.shameOf(at(tale.sort, thing), tale.needOf(play, need));
                if (has(things, thing) && shame != NONE) {
                    int rest = leastPrice(play, town, need + 1, things & ~(1 << thing), NONE, lends);
                    if (rest != NONE && shame + rest == price) {
                        return thing;
                    }
                }
            }
            return NONE;
        }
    }

    /** What changes while a text stays told; AN IMAGE is one of these, too. */
    private static final class Standing {
        /** The TOWN where each TRUNK is or to which it comes; NONE where there is no such TRUNK. */
        final int[] place = new int[MOST_TRUNKS];
        final int[] comes = new int[MOST_TRUNKS];
        int day = 0;
        boolean seeded = false;
        int seed = 0;
        int nights = 0;
        final int[] nightDay = new int[MOST_NIGHTS];
        final int[] nightTown = new int[MOST_NIGHTS];
        final int[] nightPlay = new int[MOST_NIGHTS];
        final int[] refused = new int[REFUSALS];

        Standing() {
            Arrays.fill(place, NONE);
        }

        /** STATUS goes on over a new text. */
        void begin(Tale tale) {
            for (int trunk = 0; trunk < MOST_TRUNKS; trunk++) {
                place(trunk, trunk < tale.trunks ? at(tale.home, trunk) : NONE, 0);
            }
            day = 0;
            seeded = false;
            seed = 0;
            nights = 0;
        }

        void takeFrom(Standing other) {
            copy(other.place, place);
            copy(other.comes, comes);
            day = other.day;
            seeded = other.seeded;
            seed = other.seed;
            nights = other.nights;
            copy(other.nightDay, nightDay);
            copy(other.nightTown, nightTown);
            copy(other.nightPlay, nightPlay);
            copy(other.refused, refused);
        }

        void place(int trunk, int where, int when) {
            put(place, trunk, where);
            put(comes, trunk, when);
        }

        boolean isThere(int trunk) {
            return at(comes, trunk) <= day;
        }

        int trunksIn(int where) {
            int found = 0;
            for (int trunk = 0; trunk < MOST_TRUNKS; trunk++) {
                if (at(place, trunk) == where && isThere(trunk)) {
                    found |= 1 << trunk;
                }
            }
            return found;
        }

        int draw(int of) {
            seed = seed * 1103515245 + 12345;
            return of > 0 ? (seed >>> 16 & 0x7fff) % of : 0;
        }

        boolean addNight(int when, int where, int play) {
            int ahead = nights > 0 ? at(nightDay, nights - 1) : 0;
            if (nights >= MOST_NIGHTS || when < ahead || when > MOST_DAYS) {
                return false;
            }
            put(nightDay, nights, when);
            put(nightTown, nights, where);
            put(nightPlay, nights, play);
            nights++;
            return true;
        }

        void refuse(int what) {
            put(refused, what, at(refused, what) + 1);
        }
    }

    /** What can be UNDONE: a ring, in which the oldest gives way to the newest. */
    private static final class Past {
        private static final int MOST = 100;
        private static final int WIDTH = 3 + 2 * MOST_TRUNKS;

        private final int[] rows = new int[MOST * WIDTH];
        private int newest = 0;
        private int size = 0;

        int size() {
            return size;
        }

        void clear() {
            size = 0;
        }

        void keep(Standing now) {
            newest = newest + 1 < MOST ? newest + 1 : 0;
            size = Math.min(size + 1, MOST);
            int row = newest * WIDTH;
            put(rows, row, now.day);
            put(rows, row + 1, now.seeded ? 1 : 0);
            put(rows, row + 2, now.seed);
            for (int trunk = 0; trunk < MOST_TRUNKS; trunk++) {
                put(rows, row + 3 + 2 * trunk, at(now.place, trunk));
                put(rows, row + 4 + 2 * trunk, at(now.comes, trunk));
            }
        }

        boolean bringBack(Standing now) {
            if (size <= 0) {
                return false;
            }
            int row = newest * WIDTH;
            now.day = at(rows, row);
            now.seeded = at(rows, row + 1) == 1;
            now.seed = at(rows, row + 2);
            for (int trunk = 0; trunk < MOST_TRUNKS; trunk++) {
                now.place(trunk, at(rows, row + 3 + 2 * trunk), at(rows, row + 4 + 2 * trunk));
            }
            newest = newest > 0 ? newest - 1 : MOST - 1;
            size--;
            return true;
        }
    }

    /** THE TOUR: which TRUNKS are there on which NIGHTS. */
    private static final class Planner {
        private static final int NIGHT_SETS = 1 << MOST_NIGHTS;
        private static final int NIGHT_BITS = 8;
        /** A set of NIGHTS with eight bits for each NIGHT, so that one int tells which TRUNKS are there on which. */
        private static final int[] SPREAD = {
            0x0, 0x1, 0x100, 0x101, 0x10000, 0x10001, 0x10100, 0x10101,
            0x1000000, 0x1000001, 0x1000100, 0x1000101, 0x1010000, 0x1010001, 0x1010100, 0x1010101
        };

        private static final int NEVER = 0;
        private static final int CAN_BE = 1;
        private static final int CAN_BE_NO_MORE = 2;

        private final Tale tale;
        private final Ways ways;
        private final Prices prices;
        private final Standing now;
        /** By TRUNK and set of NIGHTS: whether it can be there on all of them, and on no NIGHT more. */
        private final int[] fits = new int[MOST_TRUNKS * NIGHT_SETS];
        /** PRICES by NIGHT and set of TRUNKS, of those that can be there. */
        private final int[] costs = new int[MOST_NIGHTS * TRUNK_SETS];
        private final int[] plan = new int[MOST_TRUNKS];
        private boolean planned = false;
        private int spareTrunk = NONE;
        private int sparePrice = NONE;

        Planner(Tale tale, Ways ways, Prices prices, Standing now) {
            this.tale = tale;
            this.ways = ways;
            this.prices = prices;
            this.now = now;
        }

        void drop() {
            planned = false;
        }

        boolean hasPlan() {
            return planned;
        }

        int nightsOf(int trunk) {
            return at(plan, trunk);
        }

        int sparedTrunk() {
            return spareTrunk;
        }

        int sparedPrice() {
            return sparePrice;
        }

        int plan() {
            findFits();
            findCosts();
            int least = leastFrom(0, 0, NONE);
            if (least == NONE) {
                return NONE;
            }
            int aboard = 0;
            for (int trunk = 0; trunk < tale.trunks; trunk++) {
                int set = firstSet(trunk, aboard, least);
                put(plan, trunk, set);
                aboard |= spread(set, trunk);
            }
            planned = true;
            return least;
        }

        void findSpared() {
            findFits();
            findCosts();
            spareTrunk = NONE;
            sparePrice = NONE;
            for (int trunk = 0; trunk < tale.trunks; trunk++) {
                int price = leastFrom(0, 0, trunk);
                if (isLess(price, sparePrice)) {
                    sparePrice = price;
                    spareTrunk = trunk;
                }
            }
        }

        private void findFits() {
            for (int trunk = 0; trunk < tale.trunks; trunk++) {
                // Downwards, as sets with a NIGHT more must be known ahead.
                for (int set = NIGHT_SETS - 1; set >= 0; set--) {
                    int fit = NEVER;
                    if (canBeThere(trunk, set)) {
                        fit = fitsWithMore(trunk, set) ? CAN_BE : CAN_BE_NO_MORE;
                    }
                    put(fits, trunk * NIGHT_SETS + set, fit);
                }
            }
        }

        private void findCosts() {
            for (int night = 0; night < now.nights; night++) {
                int able = 0;
                for (int trunk = 0; trunk < tale.trunks; trunk++) {
                    able |= fitOf(trunk, 1 << night) == NEVER ? 0 : 1 << trunk;
                }
                for (int set = 0; set < TRUNK_SETS; set++) {
                    if ((set & ~able) == 0) {
                        int price = prices.byTrunks(at(now.nightPlay, night), at(now.nightTown, night), set);
                        put(costs, night * TRUNK_SETS + set, price);
                    }
                }
            }
        }

        private int fitOf(int trunk, int set) {
            return at(fits, trunk * NIGHT_SETS + set);
        }

        private boolean fitsWithMore(int trunk, int set) {
            for (int night = 0; night < MOST_NIGHTS; night++) {
                int more = set | 1 << night;
                if (more != set && fitOf(trunk, more) != NEVER) {
                    return true;
                }
            }
            return false;
        }

        private boolean canBeThere(int trunk, int set) {
            int where = at(now.place, trunk);
            int when = Math.max(now.day, at(now.comes, trunk));
            for (int night = 0; night < MOST_NIGHTS; night++) {
                if (has(set, night)) {
                    int span = ways.span(where, at(now.nightTown, night));
                    if (night >= now.nights || span == NONE || when + span > at(now.nightDay, night)) {
                        return false;
                    }
                    where = at(now.nightTown, night);
                    when = at(now.nightDay, night);
                }
            }
            return true;
        }

        /**
         * What the NIGHTS cost at least, with some TRUNKS aboard, those from one on still free, and one left out.
         * More THINGS never cost more, so of the free ones only sets that can't grow are tried.
         */
        private int leastFrom(int trunk, int aboard, int without) {
            if (trunk >= tale.trunks || trunk >= MOST_TRUNKS) {
                return priceOf(aboard);
            }
            if (trunk == without) {
                return leastFrom(trunk + 1, aboard, without);
            }
            int least = NONE;
            for (int set = 0; set < NIGHT_SETS; set++) {
                if (fitOf(trunk, set) == CAN_BE_NO_MORE) {
                    int price = leastFrom(trunk + 1, aboard | spread(set, trunk), without);
                    if (isLess(price, least)) {
                        least = price;
                    }
                }
            }
            return least;
        }

        private int firstSet(int trunk, int aboard, int least) {
            for (int set = 0; set < NIGHT_SETS; set++) {
                if (fitOf(trunk, set) != NEVER
                        && leastFrom(trunk + 1, aboard | spread(set, trunk), NONE) == least) {
                    return set;
                }
            }
            return 0;
        }

        private static int spread(int set, int trunk) {
            return at(SPREAD, set) << trunk;
        }

        private int priceOf(int aboard) {
            int together = 0;
            for (int night = 0; night < now.nights; night++) {
                int set = aboard >>> night * NIGHT_BITS & TRUNK_SETS - 1;
                int price = at(costs, night * TRUNK_SETS + set);
                if (price == NONE) {
                    return NONE;
                }
                together += price;
            }
            return together;
        }
    }
}

import java.util.Arrays;

/**
 * Fields for a weekend: tents, crowds and their ways out, a programme, bands that come and go, a licence.
 * ../shared/DOC.md says what each call promises; the words in capitals below are that document's.
 */
public final class FestivalFields {
    public static final int NONE = -1;

    private static final int HOURS = 24;
    private static final int LOUDEST = 200;
    private static final int LAST_MINUTE = 10000;
    private static final int STEP_MOST = 2000;
    private static final int BANDS = 300;

    private static final int PEOPLE_TERM = 0;
    private static final int MINUTES_TERM = 1;
    private static final int WORST_TERM = 2;
    private static final int TENTS_TERM = 3;
    private static final int NOISE_TERM = 4;

    private final Tape tape;
    private final Reader reader;
    private final Meadow meadow;
    private final Ground ground;
    private final Programme programme;
    private final GateBook book;
    private final int[] loudness;
    private Terms terms;
    private Terms spareTerms;
    private int now;
    private int wrongByte;

    public FestivalFields() {
        tape = new Tape();
        reader = new Reader(tape);
        meadow = new Meadow();
        ground = new Ground();
        programme = new Programme();
        book = new GateBook();
        loudness = new int[HOURS];
        terms = new Terms();
        spareTerms = new Terms();
        wrongByte = NONE;
    }

    public int feed(int a, int b, int c, int d, int e) {
        if (!tape.hasRoom()) {
            return NONE;
        }
        tape.append(a);
        tape.append(b);
        tape.append(c);
        tape.append(d);
        tape.append(e);
        return tape.size;
    }

    public boolean end(int n) {
        if (n < 0 || n > tape.size) {
            return false;
        }
        tape.size = n;
        return true;
    }

    public boolean lane(int square, boolean is) throws IndexOutOfBoundsException {
        requireIndex(square, Meadow.SQUARES);
        return meadow.setLane(square, is);
    }

    public void gate(int square) throws IndexOutOfBoundsException {
        requireIndex(square, Meadow.SQUARES);
        meadow.gateSquare = square;
    }

    public int tent(int w, int h) throws IllegalArgumentException, UnsupportedOperationException {
        requireNumber(w, 1, Meadow.SIZE_MOST);
        requireNumber(h, 1, Meadow.SIZE_MOST);
        if (meadow.tents >= Meadow.TENTS_MOST) {
            throw new UnsupportedOperationException();
        }
        return meadow.putTent(w, h);
    }

    public boolean strike(int tent) throws IndexOutOfBoundsException {
        requireIndex(tent, meadow.tents);
        return meadow.takeDown(tent);
    }

    public int at(int square) throws IndexOutOfBoundsException {
        requireIndex(square, Meadow.SQUARES);
        return meadow.squares[square];
    }

    public int place(int crowd, int rate) throws IllegalArgumentException, UnsupportedOperationException {
        requireNumber(crowd, 0, Ground.CROWD_MOST);
        requireNumber(rate, 0, Ground.RATE_MOST);
        if (ground.places >= Ground.PLACES_MOST) {
            throw new UnsupportedOperationException();
        }
        return ground.addPlace(crowd, rate);
    }

    public void crowd(int place, int n) throws IndexOutOfBoundsException, IllegalArgumentException {
        requireIndex(place, ground.places);
        requireNumber(n, 0, Ground.CROWD_MOST);
        ground.setCrowd(place, n);
    }

    public boolean shut(int place, boolean is) throws IndexOutOfBoundsException {
        requireIndex(place, ground.places);
        return ground.setClosed(place, is);
    }

    public int way(int a, int b, int length, int wide)
            throws IndexOutOfBoundsException, IllegalArgumentException, UnsupportedOperationException {
        requireIndex(a, ground.places);
        requireIndex(b, ground.places);
        requireNumber(length, 1, Ground.LENGTH_MOST);
        requireNumber(wide, 1, Ground.WIDE_MOST);
        if (a == b) {
            throw new IllegalArgumentException();
        }
        if (ground.ways >= Ground.WAYS_MOST) {
            throw new UnsupportedOperationException();
        }
        return ground.addWay(a, b, length, wide);
    }

    public int empty() {
        return ground.leastMinutes();
    }

    public int worst() {
        return ground.worstMinutes();
    }

    public int act(int way, boolean back, int ends, int people)
            throws IndexOutOfBoundsException, IllegalArgumentException {
        requireIndex(way, ground.ways);
        requireNumber(ends, 0, Programme.END_MOST);
        requireNumber(people, 0, Programme.PEOPLE_MOST);
        int arc = back ? 2 * way + 1 : 2 * way;
        return programme.addAct(arc, ground.wides[arc], ends, people);
    }

    public int tooMany() {
        programme.findBest();
        return programme.bestOver;
    }

    public int shift(int act) throws IndexOutOfBoundsException {
        requireIndex(act, programme.acts);
        programme.findBest();
        return programme.bestShifts[act];
    }

    public int forget() {
        return programme.dropActs();
    }

    public int minutes(int n) throws IllegalArgumentException {
        requireNumber(n, 0, STEP_MOST);
        now = Math.min(LAST_MINUTE, now + n);
        return now;
    }

    public int pass(int band, boolean in, int minute) throws IndexOutOfBoundsException, IllegalArgumentException {
        requireIndex(band, BANDS);
        requireNumber(minute, 0, now);
        return book.write(band, in, minute, now);
    }

    public boolean inside(int band, int minute, int known) throws IndexOutOfBoundsException {
        requireIndex(band, BANDS);
        return book.isInside(band, minute, known);
    }

    public int within(boolean odd, int minute, int known) {
        return odd ? book.oddPasses(known) : book.bandsInside(minute, known);
    }

    public void noise(int hour, int n) throws IllegalArgumentException {
        requireNumber(hour, 0, HOURS - 1);
        requireNumber(n, 0, LOUDEST);
        loudness[hour] = n;
    }

    public int licence() throws IllegalArgumentException {
        wrongByte = reader.readInto(spareTerms);
        tape.size = 0;
        if (wrongByte != NONE) {
            throw new IllegalArgumentException();
        }
        Terms before = terms;
        terms = spareTerms;
        spareTerms = before;
        return terms.size;
    }

    public int fault() {
        return wrongByte;
    }

    public int broken() {
        for (int term = 0; term < terms.size; term++) {
            if (!holds(term)) {
                return term;
            }
        }
        return NONE;
    }

    public int count(int what) {
        switch (what) {
            case 0: return now;
            case 1: return meadow.standing;
            case 2: return meadow.squaresWithTent();
            case 3: return ground.places;
            case 4: return ground.allCrowd();
            case 5: return ground.ways;
            case 6: return programme.acts;
            case 7: return book.passes;
            case 8: return terms.size;
            case 9: return meadow.laneSquares();
            default: return NONE;
        }
    }

    private boolean holds(int term) {
        int most = terms.mosts[term];
        switch (terms.kinds[term]) {
            case PEOPLE_TERM: return ground.allCrowd() <= most;
            case MINUTES_TERM: return isAtMost(ground.leastMinutes(), most);
            case WORST_TERM: return isAtMost(ground.worstMinutes(), most);
            case TENTS_TERM: return meadow.standing <= most;
            default: return isQuiet(terms.firstHours[term], terms.lastHours[term], most);
        }
    }

    private boolean isQuiet(int firstHour, int lastHour, int most) {
        for (int hour = firstHour; hour <= lastHour && hour < HOURS; hour++) {
            if (loudness[hour] > most) {
                return false;
            }
        }
        return true;
    }

    private static boolean isAtMost(int minutes, int most) {
        return minutes != NONE && minutes <= most;
    }

    private static void requireIndex(int index, int size) {
        if (index < 0 || index >= size) {
            throw new IndexOutOfBoundsException();
        }
    }

    private static void requireNumber(int number, int least, int most) {
        if (number < least || number > most) {
            throw new IllegalArgumentException();
        }
    }

    /** The TAPE: bytes as numbers 0 to 255. */
    private static final class Tape {
        static final int SIZE_MOST = 400;
        static final int FEED_SIZE = 20;

        final int[] bytes = new int[SIZE_MOST];
        int size;

        boolean hasRoom() {
            return size + FEED_SIZE <= SIZE_MOST;
        }

        void append(int number) {
            for (int bits = 24; bits >= 0 && size < SIZE_MOST; bits -= 8) {
                bytes[size] = (number >>> bits) & 255;
                size++;
            }
        }

        /** The byte at an index, or NONE behind the last one, so that readers need no test of their own. */
        int byteAt(int index) {
            return index >= 0 && index < size ? bytes[index] : NONE;
        }
    }

    /** The TERMS of one LICENCE, in their order. */
    private static final class Terms {
        static final int TERMS_MOST = 12;

        final int[] kinds = new int[TERMS_MOST];
        final int[] mosts = new int[TERMS_MOST];
        final int[] firstHours = new int[TERMS_MOST];
        final int[] lastHours = new int[TERMS_MOST];
        int size;

        void add(int kind, int most, int firstHour, int lastHour) {
            if (size >= TERMS_MOST) {
                return;
            }
            kinds[size] = kind;
            mosts[size] = most;
            firstHours[size] = firstHour;
            lastHours[size] = lastHour;
            size++;
        }
    }

    /** Reads the TAPE as a LICENCE. A step that meets a wrong thing puts that thing's begin into wrong. */
    private static final class Reader {
        private static final int DIGITS_MOST = 6;

        private final Tape tape;
        private int next;
        private int wrong;

        Reader(Tape tape) {
            this.tape = tape;
        }

        /** The first wrong byte, or NONE: only then do the terms mean anything. */
        int readInto(Terms terms) {
            next = 0;
            wrong = NONE;
            terms.size = 0;
            for (int term = 0; term <= Terms.TERMS_MOST; term++) {
                readTerm(terms);
                if (wrong != NONE) {
                    return wrong;
                }
                skipBlanks();
                if (next >= tape.size) {
                    return NONE;
                }
                if (tape.byteAt(next) != ';') {
                    return next;
                }
                next++;
            }
            return next;
        }

        private void readTerm(Terms terms) {
            skipBlanks();
            int kind = terms.size < Terms.TERMS_MOST ? kindHere() : NONE;
            if (kind == NONE) {
                wrong = next;
                return;
            }
            skipWord();
            int most = readNumber(0, highest(kind));
            int firstHour = 0;
            int lastHour = 0;
            if (kind == NOISE_TERM) {
                readWord("from");
                firstHour = readNumber(0, HOURS - 1);
                readWord("to");
                lastHour = readNumber(firstHour, HOURS - 1);
            }
            if (wrong == NONE) {
                terms.add(kind, most, firstHour, lastHour);
            }
        }

        private int kindHere() {
            if (isWordHere("people")) {
                return PEOPLE_TERM;
            }
            if (isWordHere("minutes")) {
                return MINUTES_TERM;
            }
            if (isWordHere("worst")) {
                return WORST_TERM;
            }
            if (isWordHere("tents")) {
                return TENTS_TERM;
            }
            return isWordHere("noise") ? NOISE_TERM : NONE;
        }

        private static int highest(int kind) {
            switch (kind) {
                case PEOPLE_TERM: return Ground.PLACES_MOST * Ground.CROWD_MOST;
                case TENTS_TERM: return Meadow.TENTS_MOST;
                case NOISE_TERM: return LOUDEST;
                default: return Ground.MINUTES_MOST;
            }
        }

        private void readWord(String word) {
            if (wrong != NONE) {
                return;
            }
            skipBlanks();
            if (isWordHere(word)) {
                skipWord();
            } else {
                wrong = next;
            }
        }

        /** The NUMBER here; NONE if a thing is wrong, here or ahead of it. */
        private int readNumber(int least, int most) {
            if (wrong != NONE) {
                return NONE;
            }
            skipBlanks();
            int begin = next;
            int value = 0;
            while (next < tape.size && isDigit(tape.byteAt(next))) {
                if (next - begin < DIGITS_MOST) {
                    value = 10 * value + tape.byteAt(next) - '0';
                }
                next++;
            }
            int digits = next - begin;
            if (digits == 0 || digits > DIGITS_MOST || value < least || value > most) {
                wrong = begin;
                return NONE;
            }
            return value;
        }

        private boolean isWordHere(String word) {
            int length = word.length();
            for (int i = 0; i < length; i++) {
                if (tape.byteAt(next + i) != word.charAt(i)) {
                    return false;
                }
            }
            return !isLetter(tape.byteAt(next + length));
        }

        private void skipWord() {
            while (next < tape.size && isLetter(tape.byteAt(next))) {
                next++;
            }
        }

        private void skipBlanks() {
            while (next < tape.size && tape.byteAt(next) == ' ') {
                next++;
            }
        }

        private static boolean isLetter(int b) {
            return b >= 'a' && b <= 'z';
        }

        private static boolean isDigit(int b) {
            return b >= '0' && b <= '9';
        }
    }

    /** THE FIELD: its SQUARES, LANES and TENTS. */
    private static final class Meadow {
        static final int COLUMNS = 16;
        static final int ROWS = 12;
        static final int SQUARES = 192;
        static final int TENTS_MOST = 60;
        static final int SIZE_MOST = 5;
        private static final int GRASS = NONE;
        private static final int LANE = -2;

        /** What at() answers: a TENT's number, GRASS or LANE. */
        final int[] squares = new int[SQUARES];
        int gateSquare;
        int tents;
        int standing;

        Meadow() {
            Arrays.fill(squares, GRASS);
        }

        boolean setLane(int square, boolean is) {
            int before = is ? GRASS : LANE;
            if (squares[square] != before) {
                return false;
            }
            squares[square] = is ? LANE : GRASS;
            return true;
        }

        int putTent(int w, int h) {
            int corner = nearestCorner(w, h);
            if (corner == NONE || tents >= TENTS_MOST) {
                return NONE;
            }
            int tent = tents;
            int x = corner % COLUMNS;
            int y = corner / COLUMNS;
            for (int row = y; row < y + h && row < ROWS; row++) {
                for (int column = x; column < x + w && column < COLUMNS; column++) {
                    squares[COLUMNS * row + column] = tent;
                }
            }
            tents++;
            standing++;
            return tent;
        }

        boolean takeDown(int tent) {
            boolean stood = false;
            for (int square = 0; square < SQUARES; square++) {
                if (squares[square] == tent) {
                    squares[square] = GRASS;
                    stood = true;
                }
            }
            if (stood) {
                standing--;
            }
            return stood;
        }

        int squaresWithTent() {
            int n = 0;
            for (int square = 0; square < SQUARES; square++) {
                if (squares[square] >= 0) {
                    n++;
                }
            }
            return n;
        }

        int laneSquares() {
            int n = 0;
            for (int square = 0; square < SQUARES; square++) {
                if (squares[square] == LANE) {
                    n++;
                }
            }
            return n;
        }

        private int nearestCorner(int w, int h) {
            int best = NONE;
            int bestSteps = Integer.MAX_VALUE;
            for (int y = 0; y + h <= ROWS; y++) {
                for (int x = 0; x + w <= COLUMNS; x++) {
                    int steps = stepsFromGate(x, y);
                    if (steps < bestSteps && isFree(x, y, w, h)) {
                        best = COLUMNS * y + x;
                        bestSteps = steps;
                    }
                }
            }
            return best;
        }

        private int stepsFromGate(int x, int y) {
            return Math.abs(x - gateSquare % COLUMNS) + Math.abs(y - gateSquare / COLUMNS);
        }

        private boolean isFree(int x, int y, int w, int h) {
            for (int row = y; row < y + h && row < ROWS; row++) {
                for (int column = x; column < x + w && column < COLUMNS; column++) {
                    if (squares[COLUMNS * row + column] != GRASS) {
                        return false;
                    }
                }
            }
            return true;
        }
    }

    /** PLACES and WAYS. A WAY w is two arcs: 2 w from its first PLACE, and 2 w + 1 back. */
    private static final class Ground {
        static final int PLACES_MOST = 8;
        static final int CROWD_MOST = 20000;
        static final int RATE_MOST = 2000;
        static final int WAYS_MOST = 14;
        static final int ARCS_MOST = 28;
        static final int LENGTH_MOST = 8;
        static final int WIDE_MOST = 2000;
        static final int MINUTES_MOST = 40;
        private static final int UNKNOWN = -2;

        final int[] crowds = new int[PLACES_MOST];
        final int[] rates = new int[PLACES_MOST];
        final boolean[] closed = new boolean[PLACES_MOST];
        int places;

        /** The PLACE at which an arc ends; that at which it begins is the other arc's head. */
        final int[] heads = new int[ARCS_MOST];
        final int[] lengths = new int[ARCS_MOST];
        final int[] wides = new int[ARCS_MOST];
        int ways;

        /** The arcs that begin at a PLACE p stand from index WAYS_MOST p on. */
        final int[] arcsFrom = new int[PLACES_MOST * WAYS_MOST];
        final int[] arcCounts = new int[PLACES_MOST];

        private final Escape escape;

        /** Kept from call to call, as a LICENCE may ask for both many times between two changes. */
        private int knownEmpty = UNKNOWN;
        private int knownWorst = UNKNOWN;

        Ground() {
            escape = new Escape();
        }

        int addPlace(int crowd, int rate) {
            if (places >= PLACES_MOST) {
                return NONE;
            }
            crowds[places] = crowd;
            rates[places] = rate;
            places++;
            noteChange();
            return places - 1;
        }

        void setCrowd(int place, int n) {
            crowds[place] = n;
            noteChange();
        }

        boolean setClosed(int place, boolean is) {
            if (closed[place] == is) {
                return false;
            }
            closed[place] = is;
            noteChange();
            return true;
        }

        int addWay(int a, int b, int length, int wide) {
            if (ways >= WAYS_MOST) {
                return NONE;
            }
            addArc(2 * ways, a, b, length, wide);
            addArc(2 * ways + 1, b, a, length, wide);
            ways++;
            noteChange();
            return ways - 1;
        }

        int allCrowd() {
            int sum = 0;
            for (int place = 0; place < places; place++) {
                sum += crowds[place];
            }
            return sum;
        }

        boolean isOpen(int place) {
            return rates[place] > 0 && !closed[place];
        }

        int leastMinutes() {
            if (knownEmpty == UNKNOWN) {
                knownEmpty = escape.fewestMinutes(this, NONE);
            }
            return knownEmpty;
        }

        int worstMinutes() {
            if (knownWorst != UNKNOWN) {
                return knownWorst;
            }
            knownWorst = NONE;
            // One more SHUT never helps: without EMPTY there is no WORST.
            boolean all = knownEmpty != NONE;
            for (int place = 0; place < places && all; place++) {
                if (isOpen(place)) {
                    int minutes = escape.fewestMinutes(this, place);
                    all = minutes != NONE;
                    knownWorst = all ? Math.max(knownWorst, minutes) : NONE;
                }
            }
            return knownWorst;
        }

        private void addArc(int arc, int from, int to, int length, int wide) {
            heads[arc] = to;
            lengths[arc] = length;
            wides[arc] = wide;
            int count = arcCounts[from];
            if (count < WAYS_MOST) {
                arcsFrom[WAYS_MOST * from + count] = arc;
                arcCounts[from] = count + 1;
            }
        }

        private void noteChange() {
            knownEmpty = UNKNOWN;
            knownWorst = UNKNOWN;
        }
    }

    /**
     * The most persons that can be out, minute by minute: a greatest flow over the spots (a PLACE in a minute).
     * The minutes are opened one after the other. As many as can be out by a minute never grow more when a later
     * one is opened, so then only the gates of that later one can take further persons.
     *
     * A further person's path is sought backward from the gates. Who can get out from a spot can do so from the
     * same PLACE's earlier spots, by waiting: so of each PLACE the latest such spot is all that must be known.
     */
    private static final class Escape {
        private static final int MINUTES = Ground.MINUTES_MOST;
        private static final int SPOTS = 320;
        private static final int SENDINGS_MOST = 1000000;

        /** The next step from a latest spot: an arc's number takes that arc; UNDO and an arc's number takes it back. */
        private static final int UNDO = 28;
        private static final int WAIT_LESS = 56;
        private static final int GO_OUT = 57;

        private Ground ground;
        private int lastMinute;

        /** How many begin an arc in a minute, wait at a PLACE from a minute to the next, begin an arc at all. */
        private final int[] begins = new int[Ground.ARCS_MOST * MINUTES];
        private final int[] waits = new int[SPOTS];
        private final int[] totals = new int[Ground.ARCS_MOST];

        private final int[] unsent = new int[Ground.PLACES_MOST];
        private final int[] gateRoom = new int[Ground.PLACES_MOST];

        /** The minute of a PLACE's latest spot from which one can get out; NONE. */
        private final int[] latest = new int[Ground.PLACES_MOST];
        private final boolean[] isNew = new boolean[Ground.PLACES_MOST];

        /** Of a spot that has been a latest one: its step, the minute in which one goes on behind it, the room. */
        private final int[] steps = new int[SPOTS];
        private final int[] nextMinutes = new int[SPOTS];
        private final int[] rooms = new int[SPOTS];

        /** EMPTY, with one more PLACE SHUT, if that is not NONE. */
        int fewestMinutes(Ground of, int alsoShut) {
            ground = of;
            int left = startAnew();
            if (left <= 0) {
                return 0;
            }
            for (int minute = 0; minute < MINUTES; minute++) {
                lastMinute = minute;
                openGates(alsoShut);
                int start = findStart();
                for (int i = 0; i < SENDINGS_MOST && start != NONE; i++) {
                    left -= sendFrom(start);
                    if (left <= 0) {
                        return minute + 1;
                    }
                    start = findStart();
                }
            }
            return NONE;
        }

        private int startAnew() {
            Arrays.fill(begins, 0);
            Arrays.fill(waits, 0);
            Arrays.fill(totals, 0);
            int sum = 0;
            for (int place = 0; place < ground.places; place++) {
                unsent[place] = ground.crowds[place];
                sum += unsent[place];
            }
            return sum;
        }

        private void openGates(int alsoShut) {
            for (int place = 0; place < ground.places; place++) {
                boolean open = place != alsoShut && ground.isOpen(place);
                gateRoom[place] = open ? ground.rates[place] : 0;
            }
        }

        /** A PLACE with unsent persons from which there is a path to a gate of the last minute; NONE. */
        private int findStart() {
            int start = reachGates();
            for (int i = 0; i <= SPOTS && start == NONE; i++) {
                int place = latestNew();
                if (place == NONE) {
                    return NONE;
                }
                reachByWaitingLess(place);
                isNew[place] = false;
                for (int k = 0; k < ground.arcCounts[place] && start == NONE; k++) {
                    int arc = ground.arcsFrom[Ground.WAYS_MOST * place + k];
                    int other = ground.heads[arc];
                    reachByArc(place, other, arc ^ 1);
                    reachByUndoing(place, other, arc);
                    if (latest[other] != NONE && unsent[other] > 0) {
                        start = other;
                    }
                }
            }
            return start;
        }

        /** Begins a search; a PLACE at whose gate unsent persons are already ends it. */
        private int reachGates() {
            int start = NONE;
            for (int place = 0; place < ground.places; place++) {
                latest[place] = NONE;
                isNew[place] = false;
                if (gateRoom[place] > 0) {
                    reach(place, lastMinute, GO_OUT, lastMinute, gateRoom[place]);
                    if (unsent[place] > 0) {
                        start = place;
                    }
                }
            }
            return start;
        }

        /** The latest one first: then few spots are superseded, and paths are short. */
        private int latestNew() {
            int best = NONE;
            int bestMinute = NONE;
            for (int place = 0; place < ground.places; place++) {
                if (isNew[place] && latest[place] > bestMinute) {
                    best = place;
                    bestMinute = latest[place];
                }
            }
            return best;
        }

        /** Who waits here from the latest minute to the next one may go on instead, and another come at the next. */
        private void reachByWaitingLess(int place) {
            for (int minute = latest[place]; minute < lastMinute; minute++) {
                int spot = MINUTES * place + minute;
                if (waits[spot] <= 0) {
                    return;
                }
                int room = Math.min(waits[spot], rooms[spot]);
                reach(place, minute + 1, WAIT_LESS, minute, room);
            }
        }

        /** The latest minute in which one at the other PLACE finds room on the arc to this one. */
        private void reachByArc(int place, int other, int arc) {
            int length = ground.lengths[arc];
            int wide = ground.wides[arc];
            for (int minute = latest[place] - length; minute > latest[other]; minute--) {
                int free = wide - begins[MINUTES * arc + minute];
                if (free > 0) {
                    int goesOn = goesOnAt(place, minute + length);
                    reach(other, minute, arc, goesOn, Math.min(free, rooms[MINUTES * place + goesOn]));
                    return;
                }
            }
        }

        /** Who would take the arc from here may stay and get out from here, and another do at its end as they would. */
        private void reachByUndoing(int place, int other, int arc) {
            if (totals[arc] <= 0) {
                return;
            }
            int length = ground.lengths[arc];
            int first = Math.max(0, latest[other] - length + 1);
            for (int minute = Math.min(latest[place], lastMinute - length); minute >= first; minute--) {
                int there = begins[MINUTES * arc + minute];
                if (there > 0) {
                    int goesOn = goesOnAt(place, minute);
                    reach(other, minute + length, UNDO + arc, goesOn, Math.min(there, rooms[MINUTES * place + goesOn]));
                    return;
                }
            }
        }

        /**
         * The minute in which one who comes here goes on: the first that will do, not the latest one. To wait on,
         * and then less by as much, would change nothing but bound the room, and paths of one person would be sent.
         */
        private int goesOnAt(int place, int came) {
            int minute = latest[place];
            while (minute > came && steps[MINUTES * place + minute] == WAIT_LESS) {
                minute--;
            }
            return minute;
        }

        private void reach(int place, int minute, int step, int nextMinute, int room) {
            int spot = MINUTES * place + minute;
            latest[place] = minute;
            isNew[place] = true;
            steps[spot] = step;
            nextMinutes[spot] = nextMinute;
            rooms[spot] = room;
        }

        /** As many as can along the path that was found: how many. */
        private int sendFrom(int start) {
            int place = start;
            int minute = latest[start];
            int n = Math.min(unsent[start], rooms[MINUTES * start + minute]);
            unsent[start] -= n;
            letWait(place, 0, minute, n);
            for (int i = 0; i <= SPOTS; i++) {
                int spot = MINUTES * place + minute;
                int step = steps[spot];
                if (step == GO_OUT) {
                    gateRoom[place] -= n;
                    return n;
                }
                int nextMinute = nextMinutes[spot];
                if (step == WAIT_LESS) {
                    waits[MINUTES * place + nextMinute] -= n;
                } else {
                    int came = step < UNDO ? takeArc(step, minute, n) : undoArc(step - UNDO, minute, n);
                    place = step < UNDO ? ground.heads[step] : ground.heads[(step - UNDO) ^ 1];
                    letWait(place, came, nextMinute, n);
                }
                minute = nextMinute;
            }
            return n;
        }

        /** The minute in which they are at its other end. */
        private int takeArc(int arc, int minute, int n) {
            begins[MINUTES * arc + minute] += n;
            totals[arc] += n;
            return minute + ground.lengths[arc];
        }

        /** The minute in which those who stay would have begun it. */
        private int undoArc(int arc, int minute, int n) {
            int begin = minute - ground.lengths[arc];
            begins[MINUTES * arc + begin] -= n;
            totals[arc] -= n;
            return begin;
        }

        private void letWait(int place, int from, int to, int n) {
            for (int minute = from; minute < to; minute++) {
                waits[MINUTES * place + minute] += n;
            }
        }
    }

    /** THE PROGRAMME: ACTS and their BEST shifts. */
    private static final class Programme {
        static final int END_MOST = 1000;
        static final int PEOPLE_MOST = 1000;
        private static final int ACTS_MOST = 6;
        private static final int SENDS = 10;
        private static final int SHIFT_STEP = 10;
        private static final int SHIFT_MOST = 20;

        private final int[] arcs = new int[ACTS_MOST];
        private final int[] wides = new int[ACTS_MOST];
        private final int[] ends = new int[ACTS_MOST];
        private final int[] peoples = new int[ACTS_MOST];
        int acts;

        private final int[] shifts = new int[ACTS_MOST];
        final int[] bestShifts = new int[ACTS_MOST];
        int bestOver;
        private int bestSum;
        private boolean isKnown;

        int addAct(int arc, int wide, int end, int people) {
            if (acts >= ACTS_MOST) {
                return NONE;
            }
            arcs[acts] = arc;
            wides[acts] = wide;
            ends[acts] = end;
            peoples[acts] = people;
            acts++;
            isKnown = false;
            return acts - 1;
        }

        int dropActs() {
            int n = acts;
            acts = 0;
            isKnown = false;
            return n;
        }

        void findBest() {
            if (isKnown) {
                return;
            }
            bestOver = Integer.MAX_VALUE;
            bestSum = Integer.MAX_VALUE;
            tryShifts(0, 0, 0);
            isKnown = true;
        }

        /** Goes through the shifts in the order of the last rule, so that only a truly better one supersedes. */
        private void tryShifts(int act, int over, int sum) {
            if (over > bestOver || over == bestOver && sum >= bestSum) {
                return;
            }
            if (act >= acts || act >= ACTS_MOST) {
                bestOver = over;
                bestSum = sum;
                System.arraycopy(shifts, 0, bestShifts, 0, ACTS_MOST);
                return;
            }
            for (int shift = 0; shift <= SHIFT_MOST; shift += SHIFT_STEP) {
                shifts[act] = shift;
                tryShifts(act + 1, over + addedOver(act), sum + shift);
            }
        }

        /** What an ACT brings above WIDE, beside those before it. */
        private int addedOver(int act) {
            int begin = ends[act] + shifts[act];
            int sum = 0;
            for (int minute = begin; minute < begin + SENDS; minute++) {
                int free = wides[act] - sentBefore(act, minute);
                sum += Math.max(0, peoples[act] - Math.max(0, free));
            }
            return sum;
        }

        private int sentBefore(int act, int minute) {
            int sum = 0;
            for (int other = 0; other < act; other++) {
                int since = minute - ends[other] - shifts[other];
                if (arcs[other] == arcs[act] && since >= 0 && since < SENDS) {
                    sum += peoples[other];
                }
            }
            return sum;
        }
    }

    /** The PASSES, and their order by BAND, minute and number. */
    private static final class GateBook {
        private static final int PASSES_MOST = 200;

        private final int[] bands = new int[PASSES_MOST];
        private final boolean[] goesIn = new boolean[PASSES_MOST];
        private final int[] minutes = new int[PASSES_MOST];
        private final int[] tolds = new int[PASSES_MOST];
        private final int[] order = new int[PASSES_MOST];
        int passes;

        int write(int band, boolean in, int minute, int told) {
            if (passes >= PASSES_MOST) {
                return NONE;
            }
            int number = passes;
            bands[number] = band;
            goesIn[number] = in;
            minutes[number] = minute;
            tolds[number] = told;
            passes++;
            putInOrder(number);
            return number;
        }

        boolean isInside(int band, int minute, int known) {
            boolean in = false;
            for (int i = 0; i < passes; i++) {
                int number = order[i];
                if (bands[number] == band && minutes[number] <= minute && tolds[number] <= known) {
                    in = goesIn[number];
                }
            }
            return in;
        }

        int bandsInside(int minute, int known) {
            int n = 0;
            int band = NONE;
            boolean in = false;
            for (int i = 0; i < passes; i++) {
                int number = order[i];
                if (bands[number] != band) {
                    n += in ? 1 : 0;
                    band = bands[number];
                    in = false;
                }
                if (minutes[number] <= minute && tolds[number] <= known) {
                    in = goesIn[number];
                }
            }
            return in ? n + 1 : n;
        }

        int oddPasses(int known) {
            int n = 0;
            int band = NONE;
            boolean in = false;
            for (int i = 0; i < passes; i++) {
                int number = order[i];
                if (bands[number] != band) {
                    band = bands[number];
                    in = false;
                }
                if (tolds[number] <= known) {
                    n += goesIn[number] == in ? 1 : 0;
                    in = goesIn[number];
                }
            }
            return n;
        }

        private void putInOrder(int number) {
            int i = number;
            while (i > 0 && isBehind(order[i - 1], number)) {
                order[i] = order[i - 1];
                i--;
            }
            order[i] = number;
        }

        private boolean isBehind(int one, int other) {
            if (bands[one] != bands[other]) {
                return bands[one] > bands[other];
            }
            return minutes[one] > minutes[other];
        }
    }
}

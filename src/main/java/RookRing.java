import java.util.Arrays;

/** The rooks' parliament as ../shared/DOC.md tells it; words in capitals are its terms. */
public final class RookRing {
    public static final int NONE = -1, UNKNOWN = -101, OUTSIDE = -102, STATE = -103, FULL = -104;

    private static final int PLAIN = 0, TURNER = 1, OLD = 2, MUTE = 3, ELDER = 4;
    private static final int KINDS = 5;
    private static final int WORDS = 8;
    private static final int FEWEST_ROOKS = 3, MOST_ROOKS = 6;
    private static final int MOST_LETTERS = 22;
    private static final int MOST_OBSERVED = 8;
    private static final int MOST_SEATINGS = 20;
    private static final int MOST_SITTINGS = 60;
    private static final int NESTLING_TWIG = 7;

    private final Page page = new Page();
    private final Standing now = new Standing();
    private final Standing kept = new Standing();
    private boolean isKept;
    private int ringsRead;
    private int seatingsDone;

    // Made once and used by every call again, for all calls of a run share one room.
    private final Circle circle = new Circle();
    private final int[] leftByWord = new int[WORDS];
    private final int[] sittingAt = new int[MOST_ROOKS * WORDS];

    public RookRing() {
    }

    // ---- the ring

    public int letter(int code) {
        if (code < 1 || code > 126) {
            return OUTSIDE;
        }
        return page.append((char) code);
    }

    public int blank() {
        return page.clear();
    }

    public int fault() {
        return page.firstFault();
    }

    public int ring() {
        if (!page.isWhole()) {
            return STATE;
        }
        now.startFrom(page);
        page.clear();
        isKept = false;
        ringsRead++;
        return now.rooks;
    }

    public int about(int rook, int what) {
        if (!isPlace(rook)) {
            return UNKNOWN;
        }
        switch (what) {
            case 0:
                return now.kinds[rook];
            case 1:
                return now.twigs[rook];
            case 2:
                return now.placeOf(rook);
            case 3:
                return now.pecks[rook];
            default:
                return what >= 10 && what < 10 + WORDS ? madeBy(rook, what - 10) : OUTSIDE;
        }
    }

    public int as(int rook, int kind) {
        if (!isPlace(rook)) {
            return UNKNOWN;
        }
        if (kind < 0 || kind >= KINDS) {
            return OUTSIDE;
        }
        return isOf(now.kinds[rook], kind) ? rook : NONE;
    }

    public int seat(int seat) {
        return isPlace(seat) ? now.sitters[seat] : UNKNOWN;
    }

    public int exchange(int a, int b) {
        if (!isPlace(a) || !isPlace(b)) {
            return UNKNOWN;
        }
        int moved = now.sitters[a];
        now.sitters[a] = now.sitters[b];
        now.sitters[b] = moved;
        return now.sitters[a];
    }

    public int twig(int rook, int v) {
        if (!isPlace(rook)) {
            return UNKNOWN;
        }
        if (!isWord(v)) {
            return OUTSIDE;
        }
        int before = now.twigs[rook];
        now.twigs[rook] = v;
        return before;
    }

    public int wind(int v) {
        if (v < 0 || v > 1) {
            return OUTSIDE;
        }
        if (!hasRing()) {
            return STATE;
        }
        int before = now.wind;
        now.wind = v;
        return before;
    }

    public int comes(int seat, int motion) {
        if (!isPlace(seat)) {
            return UNKNOWN;
        }
        if (!isWord(motion)) {
            return OUTSIDE;
        }
        circle.seatAll(now);
        return circle.outcome(seat, motion);
    }

    public int sit(int seat, int motion) {
        int came = comes(seat, motion);
        if (!isWord(came)) {
            return came;
        }
        if (came == motion) {
            now.pecks[now.sitters[seat]]++;
            return NONE;
        }
        now.laws++;
        now.lastLaw = came;
        return came;
    }

    // ---- what would be

    public int where(int motion, int word) {
        if (!isWord(motion) || !isWord(word)) {
            return OUTSIDE;
        }
        if (!hasRing()) {
            return STATE;
        }
        circle.seatAll(now);
        int seats = 0;
        for (int seat = 0; seat < now.rooks; seat++) {
            if (circle.outcome(seat, motion) == word) {
                seats |= 1 << seat;
            }
        }
        return seats;
    }

    public int can() {
        if (!hasRing()) {
            return STATE;
        }
        circle.seatAll(now);
        int laws = 0;
        for (int seat = 0; seat < now.rooks; seat++) {
            for (int motion = 0; motion < WORDS; motion++) {
                int came = circle.outcome(seat, motion);
                if (came != motion) {
                    laws |= 1 << came;
                }
            }
        }
        return laws;
    }

    public int endless(int seat, int motion, int what) {
        if (!isPlace(seat)) {
            return UNKNOWN;
        }
        if (!isWord(motion) || what < 0 || what > 2) {
            return OUTSIDE;
        }
        return sittingsOn(seat, motion, what);
    }

    public int seating(int motion, int word, int what) {
        if (!isWord(motion) || !isWord(word) || what < 0 || what > 1) {
            return OUTSIDE;
        }
        if (!hasRing() || seatingsDone >= MOST_SEATINGS) {
            return STATE;
        }
        seatingsDone++;
        return nearestSeatings(motion, word, what);
    }

    public int nestlings(int set, int seat, int motion, int word, int part) {
        if (!isPlace(seat)) {
            return UNKNOWN;
        }
        if (set < 0 || set >= 1 << now.rooks || !isWord(motion) || !isWord(word)) {
            return OUTSIDE;
        }
        if (part < 0 || part > 1) {
            return OUTSIDE;
        }
        int above = broodsThatSay(set, seat, motion, word);
        int halvings = Integer.bitCount(set);
        while (halvings > 0 && above % 2 == 0) {
            above /= 2;
            halvings--;
        }
        return part == 0 ? above : 1 << halvings;
    }

    // ---- what is observed

    public int observe(int seat, int motion, int came) {
        if (!isPlace(seat)) {
            return UNKNOWN;
        }
        if (!isWord(motion) || !isWord(came)) {
            return OUTSIDE;
        }
        return now.note(seat, motion, came);
    }

    public int forget() {
        int before = now.seen;
        now.seen = 0;
        return before;
    }

    public int guess(int seat, int what) {
        if (!isPlace(seat)) {
            return UNKNOWN;
        }
        if (what < 0 || what > 1) {
            return OUTSIDE;
        }
        long guesses = guessesFor(seat);
        return what == 0 ? Long.bitCount(guesses) : leastOf(guesses);
    }

    public int caw(int seat) {
        return isPlace(seat) ? bestMotion(seat, guessesFor(seat)) : UNKNOWN;
    }

    public int years(int sittings, int seed, int what) {
        if (sittings < 1 || sittings > MOST_SITTINGS || seed < 0 || what < 0 || what > 2) {
            return OUTSIDE;
        }
        return hasRing() ? yearsGoneBy(sittings, seed, what) : STATE;
    }

    // ---- what is told of all

    public int image() {
        if (!hasRing()) {
            return STATE;
        }
        kept.copyOf(now);
        isKept = true;
        return now.laws;
    }

    public int restore() {
        if (!isKept) {
            return STATE;
        }
        now.copyOf(kept);
        return now.laws;
    }

    public int count(int what) {
        switch (what) {
            case 0:
                return now.rooks;
            case 1:
                return now.wind;
            case 2:
                return now.laws;
            case 3:
                return now.lastLaw;
            case 4:
                return now.allPecks();
            case 5:
                return now.seen;
            case 6:
                return page.length;
            case 7:
                return ringsRead;
            case 8:
                return seatingsDone;
            default:
                return OUTSIDE;
        }
    }

    public long digest() {
        long h = 797;
        for (int rook = 0; rook < now.rooks; rook++) {
            h = withRook(h, rook);
        }
        for (int seat = 0; seat < now.rooks; seat++) {
            h = withPlace(h, seat);
        }
        if (hasRing()) {
            h = mix(h, can());
        }
        for (int place = 0; place < page.length; place++) {
            h = mix(h, page.letters[place]);
        }
        for (int what = 0; what <= 8; what++) {
            h = mix(h, count(what));
        }
        return h;
    }

    // ---- behind the face

    private boolean hasRing() {
        return now.rooks > 0;
    }

    /** ROOKS and SEATS are numbered alike, so one test serves both. */
    private boolean isPlace(int number) {
        return number >= 0 && number < now.rooks;
    }

    /** TWIGS have the same bounds as WORDS. */
    private static boolean isWord(int number) {
        return number >= 0 && number < WORDS;
    }

    private static boolean isOf(int own, int kind) {
        return kind == PLAIN || kind == own || (kind == OLD && own == ELDER);
    }

    private int madeBy(int rook, int word) {
        return Circle.made(now.kinds[rook], now.twigs[rook], now.wind, word);
    }

    /** ENDLESS; it has come round or ended by the time each SEAT has heard each WORD. */
    private int sittingsOn(int firstSeat, int firstMotion, int what) {
        circle.seatAll(now);
        Arrays.fill(sittingAt, NONE);
        int seat = firstSeat;
        int motion = firstMotion;
        for (int ahead = 0; ahead <= sittingAt.length; ahead++) {
            int spot = seat * WORDS + motion;
            if (sittingAt[spot] != NONE) {
                return roundsTold(ahead, sittingAt[spot], what);
            }
            sittingAt[spot] = ahead;
            int came = circle.outcome(seat, motion);
            if (came == motion) {
                return what == 2 ? ahead + 1 : NONE;
            }
            motion = came;
            seat = circle.leftOf(seat);
        }
        return NONE;
    }

    private static int roundsTold(int ahead, int firstTime, int what) {
        switch (what) {
            case 0:
                return ahead;
            case 1:
                return ahead - firstTime;
            default:
                return NONE;
        }
    }

    private int nearestSeatings(int motion, int word, int what) {
        int fewest = NONE;
        int ways = 0;
        int orders = ordersOf(now.rooks);
        for (int order = 0; order < orders; order++) {
            int exchanges = seatByOrder(order);
            if (circle.outcome(0, motion) != word) {
                continue;
            }
            if (fewest == NONE || exchanges < fewest) {
                fewest = exchanges;
                ways = 0;
            }
            if (exchanges == fewest) {
                ways++;
            }
        }
        if (fewest == NONE) {
            return NONE;
        }
        return what == 0 ? fewest : ways;
    }

    private static int ordersOf(int rooks) {
        int orders = 1;
        for (int rook = 2; rook <= rooks; rook++) {
            orders *= rook;
        }
        return orders;
    }

    /**
     * Seats the circle by the number of an order and tells how many exchanges that took.
     * Each SEAT in turn is exchanged with one ahead of it or left: so every order comes up once,
     * and by the fewest exchanges, for each joins a SEAT not yet moved to those that were.
     */
    private int seatByOrder(int order) {
        circle.seatAll(now);
        int rest = order;
        int exchanges = 0;
        for (int seat = 1; seat < now.rooks; seat++) {
            int other = rest % (seat + 1);
            rest /= seat + 1;
            if (other != seat) {
                circle.swap(seat, other);
                exchanges++;
            }
        }
        return exchanges;
    }

    /** Of all ways in which the NESTLINGS of a set can be TURNERS, how many have the WORD come. */
    private int broodsThatSay(int set, int seat, int motion, int word) {
        circle.seatAll(now);
        int hits = 0;
        for (int turners = 0; turners <= set; turners++) {
            if ((turners & ~set) != 0) {
                continue;
            }
            circle.lend(set, turners);
            if (circle.outcome(seat, motion) == word) {
                hits++;
            }
        }
        return hits;
    }

    /** All that a SEAT's sitter could be, as bits 8 times KIND and TWIG. */
    private long guessesFor(int seat) {
        circle.seatAll(now);
        long guesses = 0;
        for (int guess = 0; guess < KINDS * WORDS; guess++) {
            circle.put(seat, guess / WORDS, guess % WORDS);
            if (now.allSeenIn(circle)) {
                guesses |= 1L << guess;
            }
        }
        return guesses;
    }

    private static int leastOf(long guesses) {
        return guesses == 0 ? NONE : Long.numberOfTrailingZeros(guesses);
    }

    private int bestMotion(int seat, long guesses) {
        if (guesses == 0) {
            return NONE;
        }
        int best = 0;
        int fewest = leftAtWorst(seat, 0, guesses);
        for (int motion = 1; motion < WORDS; motion++) {
            int left = leftAtWorst(seat, motion, guesses);
            if (left < fewest) {
                best = motion;
                fewest = left;
            }
        }
        return best;
    }

    private int leftAtWorst(int seat, int motion, long guesses) {
        circle.seatAll(now);
        Arrays.fill(leftByWord, 0);
        int worst = 0;
        for (int guess = 0; guess < KINDS * WORDS; guess++) {
            if (((guesses >> guess) & 1L) == 0) {
                continue;
            }
            circle.put(seat, guess / WORDS, guess % WORDS);
            int came = circle.outcome(seat, motion);
            leftByWord[came]++;
            worst = Math.max(worst, leftByWord[came]);
        }
        return worst;
    }

    private int yearsGoneBy(int sittings, int firstSeed, int what) {
        circle.seatAll(now);
        int seed = firstSeed;
        int laws = 0;
        int lastLaw = NONE;
        for (int sitting = 0; sitting < sittings; sitting++) {
            seed = seedAfter(seed);
            int seat = drawn(seed, now.rooks);
            seed = seedAfter(seed);
            int motion = drawn(seed, WORDS);
            int came = circle.outcome(seat, motion);
            if (came == motion) {
                circle.turnWind();
            } else {
                laws++;
                lastLaw = came;
            }
        }
        switch (what) {
            case 0:
                return laws;
            case 1:
                return lastLaw;
            default:
                return seed;
        }
    }

    private static int seedAfter(int seed) {
        return (int) ((1103515245L * seed + 12345L) % (1L << 31));
    }

    private static int drawn(int seed, int choices) {
        return choices > 0 ? seed / 65536 % choices : 0;
    }

    private static long mix(long h, long number) {
        return 31 * h + number;
    }

    private long withRook(long before, int rook) {
        long h = before;
        for (int what = 0; what <= 3; what++) {
            h = mix(h, about(rook, what));
        }
        for (int what = 10; what < 10 + WORDS; what++) {
            h = mix(h, about(rook, what));
        }
        return h;
    }

    private long withPlace(long before, int place) {
        long h = mix(before, seat(place));
        h = mix(h, comes(place, 0));
        h = mix(h, comes(place, 5));
        long guesses = guessesFor(place);
        h = mix(h, Long.bitCount(guesses));
        h = mix(h, leastOf(guesses));
        return mix(h, bestMotion(place, guesses));
    }

    /** THE PAGE: a RING's text as it is being written. */
    private static final class Page {
        private static final String KIND_LETTERS = "rtome";

        private final char[] letters = new char[MOST_LETTERS];
        private int length;

        int append(char letter) {
            if (length >= MOST_LETTERS) {
                return FULL;
            }
            letters[length] = letter;
            length++;
            return length;
        }

        int clear() {
            int before = length;
            length = 0;
            return before;
        }

        int firstFault() {
            int end = NONE;
            for (int place = 0; place < length; place++) {
                if (!fits(place, end)) {
                    return place;
                }
                if (letters[place] == ';') {
                    end = place;
                }
            }
            return length;
        }

        /** A text without a fault has its ";" only where the ROOKS end, so WIND stands behind it. */
        boolean isWhole() {
            return length >= 2 && letters[length - 2] == ';' && firstFault() == length;
        }

        int rooksTold() {
            return (length - 1) / 3;
        }

        int kindTold(int rook) {
            return KIND_LETTERS.indexOf(letters[3 * rook]);
        }

        int twigTold(int rook) {
            return letters[3 * rook + 1] - '0';
        }

        int windTold() {
            return letters[length - 1] - '0';
        }

        /** Whether a RING can have this letter here; end is the place of the ";" ahead, or NONE. */
        private boolean fits(int place, int end) {
            char letter = letters[place];
            if (end != NONE) {
                return place == end + 1 && (letter == '0' || letter == '1');
            }
            switch (place % 3) {
                case 0:
                    return KIND_LETTERS.indexOf(letter) >= 0;
                case 1:
                    return letter >= '0' && letter <= '7';
                default:
                    return fitsBehind((place + 1) / 3, letter);
            }
        }

        private static boolean fitsBehind(int rooks, char letter) {
            if (letter == ',') {
                return rooks < MOST_ROOKS;
            }
            return letter == ';' && rooks >= FEWEST_ROOKS;
        }
    }

    /** THE RING as it stands: what an IMAGE keeps, and the KINDS. No ROOKS: there is no RING. */
    private static final class Standing {
        private final int[] kinds = new int[MOST_ROOKS];
        private final int[] twigs = new int[MOST_ROOKS];
        private final int[] pecks = new int[MOST_ROOKS];
        private final int[] sitters = new int[MOST_ROOKS];
        private final int[] seenSeats = new int[MOST_OBSERVED];
        private final int[] seenMotions = new int[MOST_OBSERVED];
        private final int[] seenWords = new int[MOST_OBSERVED];
        private int rooks;
        private int wind;
        private int laws;
        private int lastLaw = NONE;
        private int seen;

        /** Only for a page that is whole. */
        void startFrom(Page text) {
            rooks = text.rooksTold();
            for (int rook = 0; rook < rooks; rook++) {
                kinds[rook] = text.kindTold(rook);
                twigs[rook] = text.twigTold(rook);
                pecks[rook] = 0;
                sitters[rook] = rook;
            }
            wind = text.windTold();
            laws = 0;
            lastLaw = NONE;
            seen = 0;
        }

        void copyOf(Standing other) {
            System.arraycopy(other.kinds, 0, kinds, 0, MOST_ROOKS);
            System.arraycopy(other.twigs, 0, twigs, 0, MOST_ROOKS);
            System.arraycopy(other.pecks, 0, pecks, 0, MOST_ROOKS);
            System.arraycopy(other.sitters, 0, sitters, 0, MOST_ROOKS);
            System.arraycopy(other.seenSeats, 0, seenSeats, 0, MOST_OBSERVED);
            System.arraycopy(other.seenMotions, 0, seenMotions, 0, MOST_OBSERVED);
            System.arraycopy(other.seenWords, 0, seenWords, 0, MOST_OBSERVED);
            rooks = other.rooks;
            wind = other.wind;
            laws = other.laws;
            lastLaw = other.lastLaw;
            seen = other.seen;
        }

        int placeOf(int rook) {
            for (int place = 0; place < rooks; place++) {
                if (sitters[place] == rook) {
                    return place;
                }
            }
            return NONE;
        }

        int allPecks() {
            int all = 0;
            for (int rook = 0; rook < rooks; rook++) {
                all += pecks[rook];
            }
            return all;
        }

        int note(int place, int motion, int came) {
            if (seen >= MOST_OBSERVED) {
                return FULL;
            }
            seenSeats[seen] = place;
            seenMotions[seen] = motion;
            seenWords[seen] = came;
            seen++;
            return seen;
        }

        boolean allSeenIn(Circle circle) {
            for (int i = 0; i < seen; i++) {
                if (circle.outcome(seenSeats[i], seenMotions[i]) != seenWords[i]) {
                    return false;
                }
            }
            return true;
        }
    }

    /** Sitters by SEAT, as they are or as they would be: changing it changes no RING. */
    private static final class Circle {
        private final int[] kinds = new int[MOST_ROOKS];
        private final int[] twigs = new int[MOST_ROOKS];
        private int size;
        private int wind;

        void seatAll(Standing ring) {
            size = ring.rooks;
            wind = ring.wind;
            for (int place = 0; place < size; place++) {
                int rook = ring.sitters[place];
                kinds[place] = ring.kinds[rook];
                twigs[place] = ring.twigs[rook];
            }
        }

        void put(int place, int kind, int twig) {
            kinds[place] = kind;
            twigs[place] = twig;
        }

        void swap(int a, int b) {
            int kind = kinds[a];
            int twig = twigs[a];
            put(a, kinds[b], twigs[b]);
            put(b, kind, twig);
        }

        void lend(int set, int turners) {
            for (int place = 0; place < size; place++) {
                if (((set >> place) & 1) != 0) {
                    boolean turns = ((turners >> place) & 1) != 0;
                    put(place, turns ? TURNER : PLAIN, NESTLING_TWIG);
                }
            }
        }

        void turnWind() {
            wind = 1 - wind;
        }

        int leftOf(int place) {
            return place + 1 < size ? place + 1 : 0;
        }

        /** What COMES; he who begins only speaks, so a MUTE there doubles nothing at first. */
        int outcome(int begun, int motion) {
            int word = motion;
            int times = 1;
            int hearer = begun;
            for (int heard = 0; heard < size; heard++) {
                hearer = leftOf(hearer);
                if (kinds[hearer] == MUTE) {
                    times *= 2;
                } else {
                    word = madeOften(hearer, word, times);
                    times = 1;
                }
            }
            return word;
        }

        private int madeOften(int hearer, int heard, int times) {
            int word = heard;
            for (int time = 0; time < times; time++) {
                word = made(kinds[hearer], twigs[hearer], wind, word);
            }
            return word;
        }

        static int made(int kind, int twig, int wind, int word) {
            int older = wind == 1 ? 2 * twig : twig;
            switch (kind) {
                case TURNER:
                    return word ^ twig;
                case OLD:
                    return (word + older) % WORDS;
                case ELDER:
                    return (word + older + 1) % WORDS;
                default:
                    return word;
            }
        }
    }
}

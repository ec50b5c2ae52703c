import java.util.ArrayList;
import java.util.HashMap;
import java.util.List;
import java.util.Map;
import java.util.function.Supplier;

/**
 * What is refused, call by call: each argument at its last allowed and first refused value on both sides,
 * each call before there is a RING, of several refusals the first as told, and that none changes anything.
 */
public final class RefusalTest {
    private static final Checks T = new Checks();
    private static final int LOW = Integer.MIN_VALUE, HIGH = Integer.MAX_VALUE;
    private static final String[] RINGS = {"r0,t5,o3;0", "m2,t5,o3,e1;1", "e7,m0,t5,o3,r6;0", "o1,m0,m7,t5,e3,r6;1"};

    private interface Call {
        int on(RookRing x);
    }

    private interface Open {
        int on(RookRing x, int number);
    }

    private record Bounds(String name, int from, int to, Open call) { }

    private record State(String name, Supplier<RookRing> made) { }

    private static final State NEW = new State("a new object", RookRing::new);
    private static final State WRITTEN = new State("a page and no ring", RefusalTest::written);
    private static final State BUSY = new State("a ring in use", RefusalTest::busy);
    private static final State PAGE_FULL = new State("a full page", RefusalTest::pageFull);
    private static final State ALL_SEEN = new State("eight observed", RefusalTest::allSeen);
    private static final State SEATED_OUT = new State("20 seatings", RefusalTest::seatedOut);
    private static final State OTHER_RING = new State("another ring since", RefusalTest::otherRing);

    private static final Map<String, String> TOLD_BEFORE = new HashMap<>();

    public static void main(String[] args) {
        seatsAndRooks();
        numbers();
        sets();
        whatAboutARook();
        beforeThereIsARing();
        beforeThereIsARingOrder();
        states();
        pagesThatAreNoRing();
        full();
        unknownFirst();
        outsideAheadOfStateAndFull();
        askingChangesNothing();
        T.end();
    }

    // ---- the states from which calls are refused

    private static RookRing written() {
        RookRing x = new RookRing();
        Checks.type(x, "r0,t5;");
        return x;
    }

    /** Five ROOKS; an IMAGE is kept that is unlike what stands, and there is some of all that is counted. */
    private static RookRing busy() {
        RookRing x = Checks.ringOf("r1,t6,o3,m4,e2;0");
        x.sit(0, 0);
        x.sit(1, 0);
        x.observe(0, 1, x.comes(0, 1));
        x.exchange(1, 4);
        x.image();
        x.exchange(0, 2);
        x.twig(2, 5);
        x.wind(1);
        for (int motion = 0; motion < 8; motion++) {
            x.sit(motion % 5, motion);
        }
        x.observe(3, 6, x.comes(3, 6));
        x.observe(4, 7, x.comes(4, 7));
        x.seating(0, 1, 0);
        Checks.type(x, "t0,");
        return x;
    }

    private static RookRing pageFull() {
        RookRing x = busy();
        Checks.type(x, "t1,o2,o3;0,,,,,,,,,");
        return x;
    }

    private static RookRing allSeen() {
        RookRing x = busy();
        for (int motion = 0; x.count(5) < 8; motion++) {
            x.observe(2, motion, x.comes(2, motion));
        }
        return x;
    }

    private static RookRing seatedOut() {
        RookRing x = busy();
        while (x.count(8) < 20) {
            x.seating(3, 4, 1);
        }
        return x;
    }

    private static RookRing otherRing() {
        RookRing x = busy();
        x.blank();
        Checks.type(x, "r1,t6,o3,m4,e2;0");
        x.ring();
        return x;
    }

    private static State fresh(String ring) {
        return new State(ring, () -> Checks.ringOf(ring));
    }

    // ---- how a refusal is looked at

    /** All that an object tells, also of what the digest hides: what exactly is OBSERVED, and the IMAGE. */
    private static String told(RookRing x) {
        StringBuilder all = new StringBuilder();
        all.append(x.digest()).append(' ').append(x.fault());
        for (int wind = 0; wind <= 1; wind++) {
            all.append(' ').append(x.wind(wind));
            for (int seat = 0; seat < x.count(0); seat++) {
                all.append(' ').append(x.guess(seat, 0)).append(' ').append(x.guess(seat, 1));
            }
        }
        all.append(" r ").append(x.restore()).append(' ').append(x.digest());
        all.append(" s ").append(x.seating(1, 2, 1)).append(' ').append(x.count(8));
        all.append(" p ").append(x.ring()).append(' ').append(x.blank());
        for (int more = 0; more < 9; more++) {
            all.append(' ').append(x.observe(0, 0, 0));
        }
        return all.toString();
    }

    private static void refused(State state, String call, Call refusal, int due) {
        RookRing x = state.made.get();
        String name = call + " on " + state.name;
        T.due(name, refusal.on(x), due);
        String before = TOLD_BEFORE.computeIfAbsent(state.name, key -> told(state.made.get()));
        String after = told(x);
        T.holds(name + " changed " + before + " to " + after, before.equals(after));
    }

    private static void allowed(State state, String call, Call asked) {
        int answer = asked.on(state.made.get());
        T.holds(call + " on " + state.name + " answered " + answer, answer >= RookRing.NONE);
    }

    // ---- UNKNOWN

    private static Map<String, Open> placed() {
        Map<String, Open> calls = new HashMap<>();
        calls.put("6 about(n, 0)", (x, n) -> x.about(n, 0));
        calls.put("6 about(n, 17)", (x, n) -> x.about(n, 17));
        calls.put("7 as(n, 0)", (x, n) -> x.as(n, 0));
        calls.put("7 as(n, 4)", (x, n) -> x.as(n, 4));
        calls.put("8 seat(n)", (x, n) -> x.seat(n));
        calls.put("9 exchange(n, 0)", (x, n) -> x.exchange(n, 0));
        calls.put("9 exchange(0, n)", (x, n) -> x.exchange(0, n));
        calls.put("9 exchange(n, n)", (x, n) -> x.exchange(n, n));
        calls.put("10 twig(n, 4)", (x, n) -> x.twig(n, 4));
        calls.put("12 comes(n, 0)", (x, n) -> x.comes(n, 0));
        calls.put("13 sit(n, 7)", (x, n) -> x.sit(n, 7));
        calls.put("16 endless(n, 0, 0)", (x, n) -> x.endless(n, 0, 0));
        calls.put("16 endless(n, 7, 1)", (x, n) -> x.endless(n, 7, 1));
        calls.put("16 endless(n, 3, 2)", (x, n) -> x.endless(n, 3, 2));
        calls.put("18 nestlings(0, n, 0, 0, 0)", (x, n) -> x.nestlings(0, n, 0, 0, 0));
        calls.put("18 nestlings(7, n, 7, 7, 1)", (x, n) -> x.nestlings(7, n, 7, 7, 1));
        calls.put("19 observe(n, 0, 7)", (x, n) -> x.observe(n, 0, 7));
        calls.put("21 guess(n, 0)", (x, n) -> x.guess(n, 0));
        calls.put("21 guess(n, 1)", (x, n) -> x.guess(n, 1));
        calls.put("22 caw(n)", (x, n) -> x.caw(n));
        return calls;
    }

    private static void seatsAndRooks() {
        placed().forEach((name, call) -> {
            for (String ring : RINGS) {
                int rooks = Checks.ringOf(ring).count(0);
                for (int n = 0; n < rooks; n++) {
                    int number = n;
                    allowed(fresh(ring), name + " n = " + n, x -> call.on(x, number));
                }
                for (int n : new int[] {-1, rooks, rooks + 1, 8, 64, LOW, HIGH}) {
                    refused(fresh(ring), name + " n = " + n, x -> call.on(x, n), RookRing.UNKNOWN);
                }
            }
            for (int n : new int[] {-1, 5, LOW, HIGH}) {
                refused(BUSY, name + " n = " + n, x -> call.on(x, n), RookRing.UNKNOWN);
            }
        });
    }

    // ---- OUTSIDE

    private static List<Bounds> words() {
        List<Bounds> all = new ArrayList<>();
        all.add(new Bounds("10 twig(1, n)", 0, 7, (x, n) -> x.twig(1, n)));
        all.add(new Bounds("12 comes(0, n)", 0, 7, (x, n) -> x.comes(0, n)));
        all.add(new Bounds("13 sit(4, n)", 0, 7, (x, n) -> x.sit(4, n)));
        all.add(new Bounds("14 where(n, 0)", 0, 7, (x, n) -> x.where(n, 0)));
        all.add(new Bounds("14 where(0, n)", 0, 7, (x, n) -> x.where(0, n)));
        all.add(new Bounds("16 endless(0, n, 2)", 0, 7, (x, n) -> x.endless(0, n, 2)));
        all.add(new Bounds("17 seating(n, 0, 0)", 0, 7, (x, n) -> x.seating(n, 0, 0)));
        all.add(new Bounds("17 seating(0, n, 1)", 0, 7, (x, n) -> x.seating(0, n, 1)));
        all.add(new Bounds("18 nestlings(3, 0, n, 0, 0)", 0, 7, (x, n) -> x.nestlings(3, 0, n, 0, 0)));
        all.add(new Bounds("18 nestlings(3, 0, 0, n, 1)", 0, 7, (x, n) -> x.nestlings(3, 0, 0, n, 1)));
        all.add(new Bounds("19 observe(0, n, 0)", 0, 7, (x, n) -> x.observe(0, n, 0)));
        all.add(new Bounds("19 observe(0, 0, n)", 0, 7, (x, n) -> x.observe(0, 0, n)));
        return all;
    }

    private static List<Bounds> others() {
        List<Bounds> all = new ArrayList<>();
        all.add(new Bounds("2 letter(n)", 1, 126, (x, n) -> x.letter(n)));
        all.add(new Bounds("7 as(1, n)", 0, 4, (x, n) -> x.as(1, n)));
        all.add(new Bounds("11 wind(n)", 0, 1, (x, n) -> x.wind(n)));
        all.add(new Bounds("16 endless(0, 0, n)", 0, 2, (x, n) -> x.endless(0, 0, n)));
        all.add(new Bounds("17 seating(0, 0, n)", 0, 1, (x, n) -> x.seating(0, 0, n)));
        all.add(new Bounds("18 nestlings(3, 0, 0, 0, n)", 0, 1, (x, n) -> x.nestlings(3, 0, 0, 0, n)));
        all.add(new Bounds("21 guess(0, n)", 0, 1, (x, n) -> x.guess(0, n)));
        all.add(new Bounds("23 years(n, 5, 0)", 1, 60, (x, n) -> x.years(n, 5, 0)));
        all.add(new Bounds("23 years(3, 5, n)", 0, 2, (x, n) -> x.years(3, 5, n)));
        all.add(new Bounds("26 count(n)", 0, 8, (x, n) -> x.count(n)));
        return all;
    }

    private static void numbers() {
        words().forEach(RefusalTest::bounded);
        others().forEach(RefusalTest::bounded);
        bounded(new Bounds("23 years(3, n, 2)", 0, 300, (x, n) -> x.years(3, n, 2)), -1, LOW);
        allowed(BUSY, "23 years(3, 2 to the 31 less 1, 2)", x -> x.years(3, HIGH, 2));
    }

    private static void bounded(Bounds bounds) {
        int[] wrong = {bounds.from - 1, bounds.to + 1, bounds.to + 256, -100, LOW, LOW + 1, HIGH};
        bounded(bounds, wrong);
    }

    private static void bounded(Bounds bounds, int... wrong) {
        for (int n = bounds.from; n <= bounds.to; n++) {
            int number = n;
            allowed(BUSY, bounds.name + " n = " + n, x -> bounds.call.on(x, number));
        }
        for (int n : wrong) {
            refused(BUSY, bounds.name + " n = " + n, x -> bounds.call.on(x, n), RookRing.OUTSIDE);
        }
    }

    private static void sets() {
        for (String ring : RINGS) {
            int rooks = Checks.ringOf(ring).count(0);
            int all = (1 << rooks) - 1;
            for (int set = 0; set <= all; set++) {
                int bits = set;
                allowed(fresh(ring), "18 set " + set, x -> x.nestlings(bits, 0, 3, 3, 0));
            }
            for (int set : new int[] {-1, all + 1, all + 2, 64, 1 << 30, LOW, HIGH}) {
                refused(fresh(ring), "18 set " + set, x -> x.nestlings(set, 0, 0, 0, 0), RookRing.OUTSIDE);
            }
        }
    }

    private static void whatAboutARook() {
        for (int what : new int[] {0, 1, 2, 3, 10, 11, 12, 13, 14, 15, 16, 17}) {
            allowed(BUSY, "6 about(4, " + what + ")", x -> x.about(4, what));
        }
        for (int what : new int[] {-1, 4, 5, 6, 7, 8, 9, 18, 100, LOW, HIGH}) {
            refused(BUSY, "6 about(4, " + what + ")", x -> x.about(4, what), RookRing.OUTSIDE);
        }
    }

    // ---- before there is a RING

    private static void beforeThereIsARing() {
        for (State state : new State[] {NEW, WRITTEN}) {
            placed().forEach((name, call) -> {
                for (int n : new int[] {0, -1, 2, 5, LOW, HIGH}) {
                    refused(state, name + " n = " + n, x -> call.on(x, n), RookRing.UNKNOWN);
                }
            });
            refused(state, "5 ring()", RookRing::ring, RookRing.STATE);
            refused(state, "11 wind(0)", x -> x.wind(0), RookRing.STATE);
            refused(state, "11 wind(1)", x -> x.wind(1), RookRing.STATE);
            refused(state, "14 where(0, 0)", x -> x.where(0, 0), RookRing.STATE);
            refused(state, "14 where(7, 7)", x -> x.where(7, 7), RookRing.STATE);
            refused(state, "15 can()", RookRing::can, RookRing.STATE);
            refused(state, "17 seating(0, 0, 0)", x -> x.seating(0, 0, 0), RookRing.STATE);
            refused(state, "17 seating(7, 7, 1)", x -> x.seating(7, 7, 1), RookRing.STATE);
            refused(state, "23 years(1, 0, 0)", x -> x.years(1, 0, 0), RookRing.STATE);
            refused(state, "23 years(60, 2 to the 31 less 1, 2)", x -> x.years(60, HIGH, 2), RookRing.STATE);
            refused(state, "24 image()", RookRing::image, RookRing.STATE);
            refused(state, "25 restore()", RookRing::restore, RookRing.STATE);
            refused(state, "20 forget()", RookRing::forget, 0);
        }
    }

    private static void beforeThereIsARingOrder() {
        for (State state : new State[] {NEW, WRITTEN}) {
            refused(state, "2 letter(0)", x -> x.letter(0), RookRing.OUTSIDE);
            refused(state, "6 about(0, 4)", x -> x.about(0, 4), RookRing.UNKNOWN);
            refused(state, "7 as(0, 5)", x -> x.as(0, 5), RookRing.UNKNOWN);
            refused(state, "10 twig(0, 8)", x -> x.twig(0, 8), RookRing.UNKNOWN);
            refused(state, "11 wind(2)", x -> x.wind(2), RookRing.OUTSIDE);
            refused(state, "11 wind(-1)", x -> x.wind(-1), RookRing.OUTSIDE);
            refused(state, "12 comes(0, 8)", x -> x.comes(0, 8), RookRing.UNKNOWN);
            refused(state, "13 sit(0, 8)", x -> x.sit(0, 8), RookRing.UNKNOWN);
            refused(state, "16 endless(0, 8, 3)", x -> x.endless(0, 8, 3), RookRing.UNKNOWN);
            refused(state, "18 nestlings(1, 0, 8, 8, 2)", x -> x.nestlings(1, 0, 8, 8, 2), RookRing.UNKNOWN);
            refused(state, "19 observe(0, 8, 8)", x -> x.observe(0, 8, 8), RookRing.UNKNOWN);
            refused(state, "21 guess(0, 2)", x -> x.guess(0, 2), RookRing.UNKNOWN);
            refused(state, "26 count(9)", x -> x.count(9), RookRing.OUTSIDE);
            outsideOfWhatWouldBe(state);
            outsideOfYears(state);
        }
    }

    private static void outsideOfWhatWouldBe(State state) {
        for (int wrong : new int[] {-1, 8, LOW, HIGH}) {
            refused(state, "14 where(" + wrong + ", 0)", x -> x.where(wrong, 0), RookRing.OUTSIDE);
            refused(state, "14 where(0, " + wrong + ")", x -> x.where(0, wrong), RookRing.OUTSIDE);
            refused(state, "17 seating(" + wrong + ", 0, 0)", x -> x.seating(wrong, 0, 0), RookRing.OUTSIDE);
            refused(state, "17 seating(0, " + wrong + ", 0)", x -> x.seating(0, wrong, 0), RookRing.OUTSIDE);
        }
        for (int wrong : new int[] {-1, 2, LOW, HIGH}) {
            refused(state, "17 seating(0, 0, " + wrong + ")", x -> x.seating(0, 0, wrong), RookRing.OUTSIDE);
        }
    }

    private static void outsideOfYears(State state) {
        for (int wrong : new int[] {0, -1, 61, LOW, HIGH}) {
            refused(state, "23 years(" + wrong + ", 0, 0)", x -> x.years(wrong, 0, 0), RookRing.OUTSIDE);
        }
        refused(state, "23 years(1, -1, 0)", x -> x.years(1, -1, 0), RookRing.OUTSIDE);
        refused(state, "23 years(1, lowest, 0)", x -> x.years(1, LOW, 0), RookRing.OUTSIDE);
        for (int wrong : new int[] {-1, 3, LOW, HIGH}) {
            refused(state, "23 years(1, 0, " + wrong + ")", x -> x.years(1, 0, wrong), RookRing.OUTSIDE);
        }
    }

    // ---- STATE

    private static void states() {
        refused(SEATED_OUT, "17 seating(0, 0, 0)", x -> x.seating(0, 0, 0), RookRing.STATE);
        refused(SEATED_OUT, "17 seating(7, 7, 1)", x -> x.seating(7, 7, 1), RookRing.STATE);
        for (String ring : RINGS) {
            refused(fresh(ring), "25 none was kept", RookRing::restore, RookRing.STATE);
        }
        refused(OTHER_RING, "25 another ring since", RookRing::restore, RookRing.STATE);
    }

    /** Neither without a RING nor beside another is anything read; THE PAGE and the IMAGE stay. */
    private static void pagesThatAreNoRing() {
        String[] pages = {"", "r", "r0", "r0,t1", "r0,t1;0", "r0,t1,", "r0,t1,o2", "r0,t1,o2,", "r0,t1,o2;",
            "r0,t1,o2;2", "r0,t1,o2;00", "r0,t1,o2;0;", "r0,t1,o2;0r", "r0,t1,o2,;0", ",r0,t1,o2;0", "r0,t1,o8;0",
            "r0,t1,o;0", "r0t1o2;0", "r0;t1;o2;0", "r0,t1,o2,m3,e4,r5", "r0,t1,o2,m3,e4,r5;", "r0,t1,o2,m3,e4,r5,t6;0",
            "r0,t1,o2,m3,e4,r5;0,,,", "R0,t1,o2;0", "r0,t1,k2;0"};
        for (String page : pages) {
            State alone = new State("page " + page, () -> withPage(new RookRing(), page));
            refused(alone, "5 ring()", RookRing::ring, RookRing.STATE);
            State beside = new State("page beside a ring " + page, () -> withPage(busy(), page));
            refused(beside, "5 ring()", RookRing::ring, RookRing.STATE);
        }
    }

    private static RookRing withPage(RookRing x, String page) {
        x.blank();
        Checks.type(x, page);
        return x;
    }

    // ---- FULL

    private static void full() {
        T.due("2 as many as there can be", PAGE_FULL.made.get().count(6), 22);
        for (int code : new int[] {1, ',', 'r', 126}) {
            refused(PAGE_FULL, "2 letter(" + code + ")", x -> x.letter(code), RookRing.FULL);
        }
        T.due("19 as many as there can be", ALL_SEEN.made.get().count(5), 8);
        refused(ALL_SEEN, "19 observe(0, 0, 0)", x -> x.observe(0, 0, 0), RookRing.FULL);
        refused(ALL_SEEN, "19 observe(4, 7, 7)", x -> x.observe(4, 7, 7), RookRing.FULL);
    }

    // ---- of several the first as told

    private static void unknownFirst() {
        for (int wrong : new int[] {-1, 5}) {
            refused(BUSY, "6 about", x -> x.about(wrong, 4), RookRing.UNKNOWN);
            refused(BUSY, "6 about", x -> x.about(wrong, 18), RookRing.UNKNOWN);
            refused(BUSY, "7 as", x -> x.as(wrong, 5), RookRing.UNKNOWN);
            refused(BUSY, "9 exchange", x -> x.exchange(wrong, wrong), RookRing.UNKNOWN);
            refused(BUSY, "10 twig", x -> x.twig(wrong, 8), RookRing.UNKNOWN);
            refused(BUSY, "12 comes", x -> x.comes(wrong, 8), RookRing.UNKNOWN);
            refused(BUSY, "13 sit", x -> x.sit(wrong, -1), RookRing.UNKNOWN);
            refused(BUSY, "16 endless", x -> x.endless(wrong, 8, 0), RookRing.UNKNOWN);
            refused(BUSY, "16 endless", x -> x.endless(wrong, 0, 3), RookRing.UNKNOWN);
            refused(BUSY, "18 nestlings, set", x -> x.nestlings(32, wrong, 0, 0, 0), RookRing.UNKNOWN);
            refused(BUSY, "18 nestlings, motion", x -> x.nestlings(0, wrong, 8, 0, 0), RookRing.UNKNOWN);
            refused(BUSY, "18 nestlings, word", x -> x.nestlings(0, wrong, 0, 8, 0), RookRing.UNKNOWN);
            refused(BUSY, "18 nestlings, part", x -> x.nestlings(0, wrong, 0, 0, 2), RookRing.UNKNOWN);
            refused(BUSY, "19 observe", x -> x.observe(wrong, 8, 0), RookRing.UNKNOWN);
            refused(BUSY, "19 observe", x -> x.observe(wrong, 0, 8), RookRing.UNKNOWN);
            refused(BUSY, "21 guess", x -> x.guess(wrong, 2), RookRing.UNKNOWN);
            refused(ALL_SEEN, "19 observe", x -> x.observe(wrong, 0, 0), RookRing.UNKNOWN);
            refused(ALL_SEEN, "19 observe", x -> x.observe(wrong, 8, 8), RookRing.UNKNOWN);
        }
    }

    private static void outsideAheadOfStateAndFull() {
        for (int wrong : new int[] {0, 127, -1, LOW, HIGH}) {
            refused(PAGE_FULL, "2 letter(" + wrong + ")", x -> x.letter(wrong), RookRing.OUTSIDE);
        }
        for (int wrong : new int[] {-1, 8, LOW, HIGH}) {
            refused(ALL_SEEN, "19 observe(0, " + wrong + ", 0)", x -> x.observe(0, wrong, 0), RookRing.OUTSIDE);
            refused(ALL_SEEN, "19 observe(0, 0, " + wrong + ")", x -> x.observe(0, 0, wrong), RookRing.OUTSIDE);
        }
        outsideOfWhatWouldBe(SEATED_OUT);
    }

    // ---- what would be is only asked

    private static void askingChangesNothing() {
        for (int seat = 0; seat < 5; seat++) {
            int place = seat;
            same("12 comes", x -> x.comes(place, 3));
            same("16 endless", x -> x.endless(place, 3, 0));
            same("18 nestlings", x -> x.nestlings(31, place, 3, 4, 1));
            same("21 guess", x -> x.guess(place, 0));
            same("22 caw", x -> x.caw(place));
            same("6 about", x -> x.about(place, 17));
            same("7 as", x -> x.as(place, 2));
            same("8 seat", x -> x.seat(place));
            same("9 exchange with himself", x -> x.exchange(place, place));
        }
        same("4 fault", RookRing::fault);
        same("14 where", x -> x.where(3, 4));
        same("15 can", RookRing::can);
        same("23 years", x -> x.years(60, 77, 0));
        same("26 count", x -> x.count(4));
        same("27 digest", x -> (int) x.digest());
        same("11 wind as it is", x -> x.wind(1));
        same("10 twig as it is", x -> x.twig(2, 5));
    }

    private static void same(String name, Call asked) {
        RookRing x = busy();
        asked.on(x);
        T.holds(name + " changes something", told(x).equals(told(busy())));
    }
}

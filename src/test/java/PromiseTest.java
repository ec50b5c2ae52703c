/** Each promise of the document by answers worked out by hand. */
public final class PromiseTest {
    private static final int[] WRONG_NUMBERS = {-1, Integer.MIN_VALUE, Integer.MAX_VALUE, 6, 64};
    private static final int[] WRONG_WORDS = {-1, 8, Integer.MIN_VALUE, Integer.MAX_VALUE};

    // Begun on SEAT 0 it is (m ^ 6) + 6, on 1 (m + 6) ^ 6, on 2 ((m + 3) ^ 6) + 3, on 3 as on 0.
    private static final String FOUR = "r1,t6,o3,e2;0";
    private static final int[][] FOUR_COMES = {
        {4, 5, 2, 3, 0, 1, 6, 7}, {0, 1, 6, 7, 4, 5, 2, 3}, {0, 5, 6, 3, 4, 1, 2, 7}, {4, 5, 2, 3, 0, 1, 6, 7}};

    private static final Checks T = new Checks();

    public static void main(String[] args) {
        newObject();
        letter();
        blank();
        fault();
        ring();
        ringForgets();
        about();
        as();
        seatAndExchange();
        twig();
        wind();
        comes();
        mutes();
        sit();
        where();
        can();
        endless();
        seating();
        seatingIsLimited();
        nestlings();
        observeAndForget();
        guess();
        caw();
        years();
        yearsTurnWind();
        image();
        imageKeepsWhoWasPecked();
        imageIsBoundToItsRing();
        count();
        digest();
        refusalsChangeNothing();
        T.end();
    }

    // 1
    private static void newObject() {
        RookRing x = new RookRing();
        int[] counts = {0, 0, 0, RookRing.NONE, 0, 0, 0, 0, 0};
        for (int what = 0; what < counts.length; what++) {
            T.due("1 count(" + what + ")", x.count(what), counts[what]);
        }
        T.due("1 about", x.about(0, 0), RookRing.UNKNOWN);
        T.due("1 as", x.as(0, 0), RookRing.UNKNOWN);
        T.due("1 seat", x.seat(0), RookRing.UNKNOWN);
        T.due("1 exchange", x.exchange(0, 0), RookRing.UNKNOWN);
        T.due("1 twig", x.twig(0, 0), RookRing.UNKNOWN);
        T.due("1 wind", x.wind(0), RookRing.STATE);
        T.due("1 comes", x.comes(0, 0), RookRing.UNKNOWN);
        T.due("1 sit", x.sit(0, 0), RookRing.UNKNOWN);
        T.due("1 where", x.where(0, 0), RookRing.STATE);
        T.due("1 can", x.can(), RookRing.STATE);
        T.due("1 endless", x.endless(0, 0, 0), RookRing.UNKNOWN);
        T.due("1 seating", x.seating(0, 0, 0), RookRing.STATE);
        T.due("1 nestlings", x.nestlings(0, 0, 0, 0, 0), RookRing.UNKNOWN);
        T.due("1 observe", x.observe(0, 0, 0), RookRing.UNKNOWN);
        T.due("1 forget", x.forget(), 0);
        T.due("1 guess", x.guess(0, 0), RookRing.UNKNOWN);
        T.due("1 caw", x.caw(0), RookRing.UNKNOWN);
        T.due("1 years", x.years(1, 0, 0), RookRing.STATE);
        T.due("1 image", x.image(), RookRing.STATE);
        T.due("1 restore", x.restore(), RookRing.STATE);
    }

    // 2
    private static void letter() {
        RookRing x = new RookRing();
        T.due("2 lowest", x.letter(1), 1);
        T.due("2 highest", x.letter(126), 2);
        for (int code : new int[] {0, 127, -1, 65536 + 'r', Integer.MIN_VALUE, Integer.MAX_VALUE}) {
            T.due("2 letter(" + code + ")", x.letter(code), RookRing.OUTSIDE);
        }
        for (int have = 2; have < 22; have++) {
            T.due("2 one more", x.letter('r'), have + 1);
        }
        T.due("2 above 22", x.letter('r'), RookRing.FULL);
        T.due("2 OUTSIDE ahead of FULL", x.letter(127), RookRing.OUTSIDE);
        T.due("2 still 22", x.count(6), 22);
    }

    // 3
    private static void blank() {
        RookRing x = new RookRing();
        T.due("3 empty", x.blank(), 0);
        Checks.type(x, "r0,");
        T.due("3 three", x.blank(), 3);
        T.due("3 gone", x.count(6), 0);
        T.due("3 again", x.blank(), 0);
        T.due("3 written anew", x.letter('t'), 1);
    }

    // 4
    private static void fault() {
        faultAt("", 0);
        faultAt("r", 1);
        faultAt("x", 0);
        faultAt("R", 0);
        faultAt("0", 0);
        faultAt("r8", 1);
        faultAt("rr", 1);
        faultAt("r0;", 2);
        faultAt("r0,r0;", 5);
        faultAt("r0,r0,r0;", 9);
        faultAt("r0 ,", 2);
        faultAt("r0,,", 3);
        faultAt("r7,t0,o3,m4,e5", 14);
        faultAt("r0,r0,r0;2", 9);
        faultAt("r0,r0,r0;0", 10);
        faultAt("r0,r0,r0;1", 10);
        faultAt("r0,r0,r0;00", 10);
        faultAt("r0,r0,r0;0,", 10);
        faultAt("r0,r0,r0;;", 9);
        faultAt("r0,r0,r0,r0,r0,r0", 17);
        faultAt("r0,r0,r0,r0,r0,r0,", 17);
        faultAt("r0,r0,r0,r0,r0,r0;1", 19);
        faultAt("r0,r0,r0,r0,r0,r0;1;", 19);
        faultAt("t9,x", 1);
    }

    private static void faultAt(String text, int place) {
        RookRing x = new RookRing();
        Checks.type(x, text);
        T.due("4 fault of " + text, x.fault(), place);
        T.due("4 nothing changes by it", x.count(6), text.length());
    }

    // 5
    private static void ring() {
        String[] none = {"", "r", "r0,r0;0", "r0,r0,r0", "r0,r0,r0;", "r0,r0,r0;2", "r0,r0,r0;01", "r0,r0,r0,;0",
            "r0,r0,r0,r0,r0,r0,r0;0", "r8,r0,r0;0", "R0,r0,r0;0"};
        for (String text : none) {
            RookRing x = new RookRing();
            Checks.type(x, text);
            T.due("5 " + text, x.ring(), RookRing.STATE);
            T.due("5 the page stays", x.count(6), text.length());
            T.due("5 none read", x.count(7), 0);
        }
        String text = "r0,t1,o2,m3,e4,t7";
        for (int rooks = 3; rooks <= 6; rooks++) {
            RookRing x = new RookRing();
            Checks.type(x, text.substring(0, 3 * rooks - 1) + ";1");
            T.due("5 rooks", x.ring(), rooks);
            T.due("5 the page is empty", x.count(6), 0);
            T.due("5 wind", x.count(1), 1);
            T.due("5 the last one's seat", x.seat(rooks - 1), rooks - 1);
            T.due("5 no more seats", x.seat(rooks), RookRing.UNKNOWN);
        }
    }

    private static void ringForgets() {
        RookRing x = Checks.ringOf(FOUR);
        x.sit(0, 0);
        x.sit(0, 2);
        x.observe(3, 1, 1);
        x.exchange(0, 1);
        x.wind(1);
        Checks.type(x, "o1,o2,o3;0");
        T.due("5 another", x.ring(), 3);
        int[] counts = {3, 0, 0, RookRing.NONE, 0, 0, 0, 2, 0};
        for (int what = 0; what < counts.length; what++) {
            T.due("5 count(" + what + ")", x.count(what), counts[what]);
        }
        T.due("5 seats by number", x.seat(0), 0);
        T.due("5 no pecks", x.about(0, 3), 0);
        T.due("5 kind", x.about(0, 0), 2);
        T.due("5 fewer rooks", x.about(3, 0), RookRing.UNKNOWN);
    }

    // 6
    private static void about() {
        RookRing x = Checks.ringOf("r4,t5,o3,m7,e2;0");
        int[][] makes = {
            {0, 1, 2, 3, 4, 5, 6, 7}, {5, 4, 7, 6, 1, 0, 3, 2}, {3, 4, 5, 6, 7, 0, 1, 2},
            {0, 1, 2, 3, 4, 5, 6, 7}, {3, 4, 5, 6, 7, 0, 1, 2}};
        int[] twigs = {4, 5, 3, 7, 2};
        int[] kinds = {0, 1, 2, 3, 4};
        for (int rook = 0; rook < 5; rook++) {
            T.due("6 kind", x.about(rook, 0), kinds[rook]);
            T.due("6 twig", x.about(rook, 1), twigs[rook]);
            T.due("6 seat", x.about(rook, 2), rook);
            T.due("6 pecked", x.about(rook, 3), 0);
            for (int word = 0; word < 8; word++) {
                T.due("6 makes", x.about(rook, 10 + word), makes[rook][word]);
            }
        }
        x.wind(1);
        T.due("6 old in the wind", x.about(2, 10), 6);
        T.due("6 elder in the wind", x.about(4, 17), 4);
        T.due("6 a turner minds no wind", x.about(1, 13), 6);
        x.exchange(1, 3);
        T.due("6 his seat", x.about(1, 2), 3);
        T.due("6 the other's", x.about(3, 2), 1);
        for (int what : new int[] {-1, 4, 9, 18, Integer.MIN_VALUE, Integer.MAX_VALUE}) {
            T.due("6 what " + what, x.about(0, what), RookRing.OUTSIDE);
        }
        for (int rook : new int[] {-1, 5, Integer.MIN_VALUE, Integer.MAX_VALUE}) {
            T.due("6 rook " + rook, x.about(rook, 99), RookRing.UNKNOWN);
        }
    }

    // 7
    private static void as() {
        RookRing x = Checks.ringOf("r0,t0,o0,m0,e0;0");
        String[] casts = {"10000", "11000", "10100", "10010", "10101"};
        for (int rook = 0; rook < 5; rook++) {
            for (int kind = 0; kind < 5; kind++) {
                int want = casts[rook].charAt(kind) == '1' ? rook : RookRing.NONE;
                T.due("7 as(" + rook + ", " + kind + ")", x.as(rook, kind), want);
            }
        }
        for (int wrong : new int[] {-1, 5, Integer.MIN_VALUE, Integer.MAX_VALUE}) {
            T.due("7 kind " + wrong, x.as(0, wrong), RookRing.OUTSIDE);
            T.due("7 rook " + wrong, x.as(wrong, wrong), RookRing.UNKNOWN);
        }
    }

    // 8, 9
    private static void seatAndExchange() {
        RookRing x = Checks.ringOf(FOUR);
        for (int seat = 0; seat < 4; seat++) {
            T.due("8 at first", x.seat(seat), seat);
        }
        T.due("9 exchange(0, 2)", x.exchange(0, 2), 2);
        T.due("9 exchange(2, 3)", x.exchange(2, 3), 3);
        int[] sitters = {2, 1, 3, 0};
        for (int seat = 0; seat < 4; seat++) {
            T.due("8 then", x.seat(seat), sitters[seat]);
        }
        T.due("9 the same", x.exchange(2, 2), 3);
        T.due("9 nothing moved", x.seat(2), 3);
        T.due("9 twigs go along", x.about(2, 1), 3);
        for (int wrong : WRONG_NUMBERS) {
            T.due("8 seat " + wrong, x.seat(wrong), RookRing.UNKNOWN);
            T.due("9 a " + wrong, x.exchange(wrong, 0), RookRing.UNKNOWN);
            T.due("9 b " + wrong, x.exchange(0, wrong), RookRing.UNKNOWN);
        }
        T.due("8 one too far", x.seat(4), RookRing.UNKNOWN);
    }

    // 10
    private static void twig() {
        RookRing x = Checks.ringOf(FOUR);
        x.exchange(1, 2);
        T.due("10 it was", x.twig(1, 7), 6);
        T.due("10 it is", x.about(1, 1), 7);
        T.due("10 turns by it", x.about(1, 10), 7);
        T.due("10 down", x.twig(1, 0), 7);
        T.due("10 others stay", x.about(2, 1), 3);
        for (int wrong : WRONG_WORDS) {
            T.due("10 v " + wrong, x.twig(1, wrong), RookRing.OUTSIDE);
        }
        T.due("10 UNKNOWN first", x.twig(4, 8), RookRing.UNKNOWN);
        T.due("10 refused", x.about(1, 1), 0);
    }

    // 11
    private static void wind() {
        RookRing x = Checks.ringOf("o3,r0,r0;0");
        T.due("11 it was", x.wind(1), 0);
        T.due("11 counts as two", x.comes(0, 0), 6);
        T.due("11 as it is", x.wind(1), 1);
        T.due("11 back", x.wind(0), 1);
        T.due("11 told", x.count(1), 0);
        for (int wrong : new int[] {-1, 2, Integer.MIN_VALUE, Integer.MAX_VALUE}) {
            T.due("11 v " + wrong, x.wind(wrong), RookRing.OUTSIDE);
            T.due("11 OUTSIDE ahead of STATE", new RookRing().wind(wrong), RookRing.OUTSIDE);
        }
    }

    // 12
    private static void comes() {
        RookRing x = Checks.ringOf(FOUR);
        for (int seat = 0; seat < 4; seat++) {
            for (int motion = 0; motion < 8; motion++) {
                T.due("12 comes(" + seat + ", " + motion + ")", x.comes(seat, motion), FOUR_COMES[seat][motion]);
            }
        }
        x.exchange(1, 2);
        // o3, t6, e2, r: (m + 3) ^ 6, and 3.
        T.due("12 by seats", x.comes(0, 0), 0);
        T.due("12 by seats", x.comes(0, 1), 5);
        for (int wrong : WRONG_WORDS) {
            T.due("12 motion " + wrong, x.comes(0, wrong), RookRing.OUTSIDE);
            T.due("12 UNKNOWN first", x.comes(4, wrong), RookRing.UNKNOWN);
        }
        T.due("12 no law by it", x.count(2), 0);
        T.due("12 no peck by it", x.count(4), 0);
    }

    private static void mutes() {
        // By a MUTE that begins nothing is said twice: o1 once.
        RookRing one = Checks.ringOf("m0,o1,r0;0");
        T.due("12 the mute begins", one.comes(0, 0), 1);
        T.due("12 o1 is behind the mute", one.comes(1, 0), 2);
        T.due("12 so he is", one.comes(2, 0), 2);
        RookRing turned = Checks.ringOf("m0,t5,r0;0");
        T.due("12 turned twice", turned.comes(2, 3), 3);
        T.due("12 turned once", turned.comes(0, 3), 6);
        RookRing many = Checks.ringOf("o1,m0,m0,r0;0");
        T.due("12 a rook hears them", many.comes(0, 0), 1);
        many.exchange(0, 3);
        T.due("12 behind two mutes four times", many.comes(3, 0), 4);
        T.due("12 behind one, for the other began", many.comes(1, 0), 2);
        T.due("12 the last mute says what he heard", many.comes(2, 0), 1);
        RookRing five = Checks.ringOf("e0,m0,m0,m0,m0,m0;0");
        T.due("12 32 times is none", five.comes(0, 3), 3);
        T.due("12 16 times is none", five.comes(1, 3), 3);
        T.due("12 eight times is none", five.comes(2, 3), 3);
        T.due("12 four times", five.comes(3, 3), 7);
        T.due("12 twice", five.comes(4, 3), 5);
        T.due("12 once", five.comes(5, 3), 4);
        RookRing all = Checks.ringOf("m0,m1,m2;1");
        T.due("12 mutes alone", all.comes(1, 6), 6);
    }

    // 13
    private static void sit() {
        RookRing x = Checks.ringOf(FOUR);
        x.exchange(0, 3);
        // Seats hold e2, t6, o3, r1: begun on 0 it is (m ^ 6) + 6, and he who began is rook 3.
        T.due("13 a law", x.sit(0, 0), 4);
        T.due("13 pecked", x.sit(0, 2), RookRing.NONE);
        T.due("13 pecked again", x.sit(0, 7), RookRing.NONE);
        T.due("13 who", x.about(3, 3), 2);
        T.due("13 not the others", x.about(0, 3), 0);
        T.due("13 laws", x.count(2), 1);
        T.due("13 the last law", x.count(3), 4);
        T.due("13 pecks", x.count(4), 2);
        T.due("13 a law", x.sit(0, 5), 1);
        T.due("13 the last law", x.count(3), 1);
        T.due("13 law 0", x.sit(0, 4), 0);
        T.due("13 the last law is 0", x.count(3), 0);
        T.due("13 laws", x.count(2), 3);
        T.due("13 wind stays", x.count(1), 0);
        for (int wrong : WRONG_WORDS) {
            T.due("13 motion " + wrong, x.sit(0, wrong), RookRing.OUTSIDE);
            T.due("13 UNKNOWN first", x.sit(4, wrong), RookRing.UNKNOWN);
        }
        T.due("13 refused", x.count(2), 3);
    }

    // 14
    private static void where() {
        RookRing x = Checks.ringOf(FOUR);
        for (int motion = 0; motion < 8; motion++) {
            for (int word = 0; word < 8; word++) {
                int bits = 0;
                for (int seat = 0; seat < 4; seat++) {
                    bits |= FOUR_COMES[seat][motion] == word ? 1 << seat : 0;
                }
                T.due("14 where(" + motion + ", " + word + ")", x.where(motion, word), bits);
            }
        }
        T.due("14 the first and the last", x.where(2, 2), 9);
        T.due("14 nowhere", x.where(0, 7), 0);
        for (int wrong : WRONG_WORDS) {
            T.due("14 motion " + wrong, x.where(wrong, 0), RookRing.OUTSIDE);
            T.due("14 word " + wrong, x.where(0, wrong), RookRing.OUTSIDE);
            T.due("14 OUTSIDE ahead of STATE", new RookRing().where(0, wrong), RookRing.OUTSIDE);
        }
    }

    // 15
    private static void can() {
        T.due("15 none", Checks.ringOf("r1,o0,m2;0").can(), 0);
        T.due("15 all", Checks.ringOf("r0,r0,e0;0").can(), 255);
        T.due("15 all by two seats", Checks.ringOf(FOUR).can(), 255);
        RookRing windy = Checks.ringOf("r0,o4,r0;1");
        T.due("15 none in the wind", windy.can(), 0);
        windy.wind(0);
        T.due("15 all without", windy.can(), 255);
        // Begun by the MUTE it is turned once, else twice.
        T.due("15 by the first seat alone", Checks.ringOf("m2,t2,r1;0").can(), 255);
        T.due("15 by the last seat alone", Checks.ringOf("t2,r1,m2;0").can(), 255);
        // SEATS 0 and 3 make law 2, 3, 6, 7; SEATS 1 and 2 make law 0, 3, 4, 7; so never 1 or 5.
        RookRing some = Checks.ringOf("t5,o1,t7,e6;0");
        T.due("15 some", some.can(), 221);
        T.due("15 nothing is made law", some.count(2), 0);
    }

    // 16
    private static void endless() {
        RookRing x = Checks.ringOf(FOUR);
        // (1, 2) COMES as 6, (2, 6) as 2, (3, 2) as 2.
        T.due("16 by the third", x.endless(1, 2, 2), 3);
        T.due("16 it ends", x.endless(1, 2, 0), RookRing.NONE);
        T.due("16 it ends", x.endless(1, 2, 1), RookRing.NONE);
        T.due("16 by the first", x.endless(0, 2, 2), 1);
        RookRing four = Checks.ringOf("e3,r0,r0,r0;0");
        T.due("16 ahead", four.endless(2, 1, 0), 4);
        T.due("16 between", four.endless(2, 1, 1), 4);
        T.due("16 endless", four.endless(2, 1, 2), RookRing.NONE);
        RookRing five = Checks.ringOf("e0,r0,r0,r0,r0;1");
        T.due("16 each seat with each word", five.endless(4, 7, 0), 40);
        T.due("16 each seat with each word", five.endless(4, 7, 1), 40);
        // o5 is heard behind the MUTE (10) but for SEAT 1 (5): 15 in a round of six, so eight rounds.
        RookRing six = Checks.ringOf("r0,m0,o5,r0,r0,r7;0");
        T.due("16 the longest", six.endless(3, 0, 0), 48);
        T.due("16 the longest", six.endless(3, 0, 1), 48);
        T.due("16 the longest", six.endless(3, 0, 2), RookRing.NONE);
        T.due("16 nothing is made law", five.count(2), 0);
        T.due("16 nobody is pecked", x.count(4), 0);
        for (int wrong : new int[] {-1, 3, Integer.MIN_VALUE, Integer.MAX_VALUE}) {
            T.due("16 what " + wrong, x.endless(0, 0, wrong), RookRing.OUTSIDE);
        }
        for (int wrong : WRONG_WORDS) {
            T.due("16 motion " + wrong, x.endless(0, wrong, 0), RookRing.OUTSIDE);
            T.due("16 UNKNOWN first", x.endless(4, wrong, 3), RookRing.UNKNOWN);
        }
    }

    // 17
    private static void seating() {
        // What matters for 0 is who is heard first: o1 then t1 is 0, t1 then o1 is 2.
        RookRing x = Checks.ringOf("r0,o1,t1;0");
        T.due("17 as they sit", x.seating(0, 0, 0), 0);
        T.due("17 one way", x.seating(0, 0, 1), 1);
        T.due("17 by one", x.seating(0, 2, 0), 1);
        T.due("17 two ways", x.seating(0, 2, 1), 2);
        T.due("17 never", x.seating(0, 5, 0), RookRing.NONE);
        T.due("17 never", x.seating(0, 5, 1), RookRing.NONE);
        T.due("17 they sit as before", x.seat(1), 1);
        x.exchange(0, 1);
        T.due("17 from there", x.seating(0, 2, 0), 0);
        T.due("17 and back", x.seating(0, 0, 0), 1);
        T.due("17 two ways back", x.seating(0, 0, 1), 2);
        T.due("17 done", x.count(8), 9);
        // It is 1 unless the MUTE is heard just ahead of o1: so after each exchange but (0, 1).
        RookRing alike = Checks.ringOf("r0,r0,m0,o1;0");
        T.due("17 twice by the mute", alike.seating(0, 2, 0), 0);
        T.due("17 once", alike.seating(0, 1, 0), 1);
        T.due("17 by all but that of the two alike", alike.seating(0, 1, 1), 5);
        // It is 2 only if the MUTE is heard just ahead of e0: no exchange alone does it.
        RookRing two = Checks.ringOf("m0,e0,r0;0");
        T.due("17 by two", two.seating(0, 2, 0), 2);
        T.due("17 both ways round", two.seating(0, 2, 1), 2);
        for (int wrong : WRONG_WORDS) {
            T.due("17 motion " + wrong, x.seating(wrong, 0, 0), RookRing.OUTSIDE);
            T.due("17 word " + wrong, x.seating(0, wrong, 0), RookRing.OUTSIDE);
            T.due("17 OUTSIDE ahead of STATE", new RookRing().seating(0, wrong, 0), RookRing.OUTSIDE);
        }
        for (int wrong : new int[] {-1, 2, Integer.MIN_VALUE, Integer.MAX_VALUE}) {
            T.due("17 what " + wrong, x.seating(0, 0, wrong), RookRing.OUTSIDE);
        }
        T.due("17 refused ones aren't done", x.count(8), 9);
    }

    private static void seatingIsLimited() {
        RookRing x = Checks.ringOf("r0,o1,t1;0");
        x.image();
        for (int done = 1; done <= 20; done++) {
            T.due("17 within 20", x.seating(0, 2, 1), 2);
            T.due("17 done", x.count(8), done);
        }
        T.due("17 above 20", x.seating(0, 2, 1), RookRing.STATE);
        T.due("17 OUTSIDE first", x.seating(0, 8, 1), RookRing.OUTSIDE);
        x.restore();
        T.due("17 an image doesn't keep it", x.seating(0, 2, 1), RookRing.STATE);
        Checks.type(x, "r0,o1,t1;0");
        x.ring();
        T.due("17 nor does a ring end it", x.seating(0, 2, 1), RookRing.STATE);
        T.due("17 still 20", x.count(8), 20);
    }

    // 18
    private static void nestlings() {
        RookRing x = Checks.ringOf("r0,r0,o1;0");
        // Of 0: 0 or 7; then 1 or 0; then 1 or 6, 0 or 7.
        likely("all four alike", x, 3, 0, 0, 1, 1, 4);
        likely("all four alike", x, 3, 0, 0, 7, 1, 4);
        likely("never", x, 3, 0, 0, 2, 0, 1);
        likely("nobody lent", x, 0, 0, 0, 1, 1, 1);
        likely("nobody lent", x, 0, 0, 0, 0, 0, 1);
        likely("all lent", x, 7, 2, 5, 5, 1, 2);
        likely("all lent", x, 7, 2, 5, 2, 1, 2);
        likely("all lent", x, 7, 2, 5, 3, 0, 1);
        RookRing mute = Checks.ringOf("r0,m1,o1;0");
        likely("a nestling is no mute", mute, 2, 0, 0, 1, 1, 2);
        likely("a nestling is no mute", mute, 2, 0, 0, 0, 1, 2);
        likely("a nestling is no mute", mute, 2, 0, 0, 2, 0, 1);
        T.due("18 only lent", mute.comes(0, 0), 2);
        mute.exchange(1, 2);
        likely("by seats", mute, 2, 0, 0, 0, 1, 2);
        likely("by seats", mute, 2, 0, 0, 7, 1, 2);
        T.due("18 bits of seats", x.nestlings(8, 0, 0, 0, 0), RookRing.OUTSIDE);
        for (int wrong : WRONG_WORDS) {
            T.due("18 set " + wrong, x.nestlings(wrong, 0, 0, 0, 0), RookRing.OUTSIDE);
            T.due("18 motion " + wrong, x.nestlings(0, 0, wrong, 0, 0), RookRing.OUTSIDE);
            T.due("18 word " + wrong, x.nestlings(0, 0, 0, wrong, 0), RookRing.OUTSIDE);
            T.due("18 part " + wrong, x.nestlings(0, 0, 0, 0, wrong), RookRing.OUTSIDE);
            T.due("18 UNKNOWN first", x.nestlings(wrong, 3, 0, 0, 0), RookRing.UNKNOWN);
        }
        T.due("18 part 2", x.nestlings(0, 0, 0, 0, 2), RookRing.OUTSIDE);
        RookRing six = Checks.ringOf("r0,r0,r0,r0,r0,r0;0");
        likely("all six", six, 63, 0, 0, 7, 1, 2);
        T.due("18 seven bits", six.nestlings(64, 0, 0, 0, 0), RookRing.OUTSIDE);
    }

    private static void likely(String what, RookRing x, int set, int seat, int motion, int word, int above, int below) {
        T.due("18 above: " + what, x.nestlings(set, seat, motion, word, 0), above);
        T.due("18 below: " + what, x.nestlings(set, seat, motion, word, 1), below);
    }

    // 19, 20
    private static void observeAndForget() {
        RookRing x = Checks.ringOf(FOUR);
        for (int wrong : WRONG_WORDS) {
            T.due("19 motion " + wrong, x.observe(0, wrong, 0), RookRing.OUTSIDE);
            T.due("19 came " + wrong, x.observe(0, 0, wrong), RookRing.OUTSIDE);
            T.due("19 UNKNOWN first", x.observe(4, wrong, 0), RookRing.UNKNOWN);
        }
        for (int seen = 1; seen <= 8; seen++) {
            T.due("19 one more", x.observe(3, 7, 7), seen);
        }
        T.due("19 a ninth", x.observe(3, 7, 7), RookRing.FULL);
        T.due("19 OUTSIDE ahead of FULL", x.observe(3, 7, 8), RookRing.OUTSIDE);
        T.due("19 UNKNOWN ahead of FULL", x.observe(4, 7, 7), RookRing.UNKNOWN);
        T.due("19 told", x.count(5), 8);
        T.due("20 forgotten", x.forget(), 8);
        T.due("20 none left", x.forget(), 0);
        T.due("20 told", x.count(5), 0);
        T.due("20 all could be", x.guess(0, 0), 40);
        T.due("19 room again", x.observe(3, 7, 7), 1);
    }

    // 21
    private static void guess() {
        RookRing x = Checks.ringOf("r0,o1,t1;0");
        T.due("21 nothing observed", x.guess(1, 0), 40);
        T.due("21 the least of all", x.guess(1, 1), 0);
        x.observe(0, 0, 2);
        // He makes 3 of 0: a TURNER of 3 (11), an OLD one of 3 (19), an ELDER of 2 (34).
        T.due("21 how many", x.guess(1, 0), 3);
        T.due("21 the least", x.guess(1, 1), 11);
        x.wind(1);
        // An OLD one makes even ones; an ELDER of 1 (33), of 5 (37).
        T.due("21 in the wind", x.guess(1, 0), 3);
        x.twig(2, 0);
        // He makes 2 of 0: t2, o1, o5; an ELDER makes odd ones.
        T.due("21 all others as they are", x.guess(1, 0), 3);
        T.due("21 all others as they are", x.guess(1, 1), 10);
        x.observe(0, 2, 4);
        T.due("21 by two", x.guess(1, 0), 2);
        T.due("21 by two", x.guess(1, 1), 17);
        x.observe(0, 2, 5);
        T.due("21 nobody", x.guess(1, 0), 0);
        T.due("21 nobody", x.guess(1, 1), RookRing.NONE);
        for (int wrong : new int[] {-1, 2, Integer.MIN_VALUE, Integer.MAX_VALUE}) {
            T.due("21 what " + wrong, x.guess(0, wrong), RookRing.OUTSIDE);
            T.due("21 UNKNOWN first", x.guess(3, wrong), RookRing.UNKNOWN);
        }
        RookRing mute = Checks.ringOf("r0,r0,o3;0");
        mute.observe(0, 0, 6);
        // On SEAT 1: a MUTE (24 to 31), or one who makes 3 of 0: 11, 19, 34.
        T.due("21 he may be a mute", mute.guess(1, 0), 11);
        T.due("21 the least", mute.guess(1, 1), 11);
        mute.observe(0, 1, 7);
        // He makes 4 of 1, or is a MUTE of any TWIG: t3 is out.
        T.due("21 a mute of any twig", mute.guess(1, 0), 10);
        T.due("21 the least", mute.guess(1, 1), 19);
        RookRing begun = Checks.ringOf("m2,t2,r1;0");
        begun.observe(1, 0, 2);
        // Behind the MUTE he makes 2 of 0 by twice: o1, o5, e0, e4.
        T.due("21 begun where it was", begun.guess(1, 0), 4);
        T.due("21 begun where it was", begun.guess(1, 1), 17);
    }

    // 22
    private static void caw() {
        RookRing x = Checks.ringOf("r0,o1,r0;0");
        x.observe(1, 0, 3);
        // t3, o3, e2 are left: by 0 all stay, by 1 two at worst (t3 makes 2, both others 4).
        T.due("22 not again", x.caw(1), 1);
        // On SEAT 0 t2, o2, e1 hear 1 more than the MOTION: of 1 all make 3, of 2 t2 makes 0.
        T.due("22 begun there", x.caw(0), 1);
        x.forget();
        // Of all 40, 19 say on what they hear, whatever it is.
        T.due("22 nothing observed", x.caw(1), 0);
        x.observe(1, 0, 3);
        x.observe(1, 0, 4);
        T.due("22 nobody could", x.caw(1), RookRing.NONE);
        for (int wrong : new int[] {-1, 3, Integer.MIN_VALUE, Integer.MAX_VALUE}) {
            T.due("22 seat " + wrong, x.caw(wrong), RookRing.UNKNOWN);
        }
        T.due("22 he is as he was", x.about(1, 0), 2);
    }

    // 23
    private static void years() {
        // From 0 the SEEDS are 12345, 1406932606, 654583775, 1449466924 and so on.
        RookRing x = Checks.ringOf("e0,r0,r0;0");
        T.due("23 laws", x.years(1, 0, 0), 1);
        T.due("23 of 4", x.years(1, 0, 1), 5);
        T.due("23 the seed then", x.years(1, 0, 2), 1406932606);
        T.due("23 of 5", x.years(2, 0, 1), 6);
        T.due("23 the seed then", x.years(2, 0, 2), 1449466924);
        T.due("23 the most", x.years(60, 0, 0), 60);
        T.due("23 the highest seed", x.years(1, Integer.MAX_VALUE, 2), 288979989);
        T.due("23 as they would be", x.count(2), 0);
        T.due("23 none", Checks.ringOf("r0,r0,r0;0").years(60, 5, 0), 0);
        T.due("23 none", Checks.ringOf("r0,r0,r0;0").years(60, 5, 1), RookRing.NONE);
        for (int wrong : new int[] {0, 61, -1, Integer.MIN_VALUE, Integer.MAX_VALUE}) {
            T.due("23 sittings " + wrong, x.years(wrong, 0, 0), RookRing.OUTSIDE);
        }
        for (int wrong : new int[] {-1, 3, Integer.MIN_VALUE, Integer.MAX_VALUE}) {
            T.due("23 what " + wrong, x.years(1, 0, wrong), RookRing.OUTSIDE);
            T.due("23 OUTSIDE ahead of STATE", new RookRing().years(1, 0, wrong), RookRing.OUTSIDE);
        }
        T.due("23 seed", x.years(1, -1, 0), RookRing.OUTSIDE);
        T.due("23 seed", x.years(1, Integer.MIN_VALUE, 0), RookRing.OUTSIDE);
    }

    private static void yearsTurnWind() {
        RookRing x = Checks.ringOf(FOUR);
        // SEAT 0 with 4 is 0, SEAT 0 with 5 is 1, SEAT 2 with 7 is pecked; then, in the wind,
        // SEAT 1 with 5 is (5 + 6 + 5) ^ 6.
        T.due("23 two laws", x.years(3, 0, 0), 2);
        T.due("23 the last of them", x.years(3, 0, 1), 1);
        T.due("23 in the wind", x.years(4, 0, 0), 3);
        T.due("23 in the wind", x.years(4, 0, 1), 6);
        T.due("23 the wind stays", x.count(1), 0);
        T.due("23 nobody is pecked", x.count(4), 0);
        RookRing windy = Checks.ringOf("r0,o4,r0;1");
        T.due("23 pecked at first, then never", windy.years(9, 77, 0), 8);
        T.due("23 the wind stays", windy.count(1), 1);
    }

    // 24, 25
    private static void image() {
        RookRing x = Checks.ringOf(FOUR);
        T.due("25 none was kept", x.restore(), RookRing.STATE);
        x.sit(0, 0);
        x.sit(0, 2);
        x.observe(3, 1, 5);
        x.exchange(1, 3);
        x.twig(2, 4);
        x.wind(1);
        T.due("24 laws", x.image(), 1);
        long before = x.digest();
        x.sit(0, 1);
        x.sit(1, 1);
        x.sit(2, 3);
        x.observe(0, 0, 0);
        x.exchange(0, 2);
        x.twig(2, 7);
        x.wind(0);
        x.forget();
        x.observe(2, 2, 2);
        T.holds("24 it goes on", x.digest() != before);
        T.due("25 laws there were", x.restore(), 1);
        T.due("25 as it was", x.digest(), before);
        T.due("25 the last law", x.count(3), 4);
        T.due("25 pecked", x.about(0, 3), 1);
        T.due("25 what was observed", x.observe(0, 0, 0), 2);
        x.sit(0, 1);
        T.due("25 once more", x.restore(), 1);
        T.due("25 as it was", x.digest(), before);
        x.forget();
        int laws = x.count(2) + (x.sit(0, 1) >= 0 ? 1 : 0);
        T.due("24 the latest", x.image(), laws);
        x.sit(2, 1);
        T.due("25 the latest", x.restore(), laws);
        T.due("25 the latest", x.count(5), 0);
        x.letter('r');
        x.restore();
        T.due("25 the page is not of it", x.count(6), 1);
    }

    private static void imageKeepsWhoWasPecked() {
        RookRing x = Checks.ringOf("r0,r0,r0;0");
        x.sit(1, 0);
        x.image();
        x.sit(1, 0);
        x.sit(2, 0);
        x.restore();
        T.due("24 pecked once", x.about(1, 3), 1);
        T.due("24 not yet pecked", x.about(2, 3), 0);
        T.due("24 pecks", x.count(4), 1);
    }

    private static void imageIsBoundToItsRing() {
        RookRing x = Checks.ringOf(FOUR);
        x.image();
        Checks.type(x, "r0");
        T.due("25 no ring was read", x.ring(), RookRing.STATE);
        T.due("25 so it goes on", x.restore(), 0);
        x.blank();
        Checks.type(x, FOUR);
        x.ring();
        T.due("25 another ring since", x.restore(), RookRing.STATE);
        T.due("24 of the new one", x.image(), 0);
        T.due("25 of the new one", x.restore(), 0);
        T.due("25 rings read", x.count(7), 2);
    }

    // 26
    private static void count() {
        RookRing x = Checks.ringOf("r1,t6,o3,e2;1");
        x.wind(0);
        x.sit(0, 0);
        x.sit(0, 1);
        x.sit(0, 2);
        x.sit(1, 0);
        x.sit(1, 1);
        x.observe(0, 0, 0);
        Checks.type(x, "rr");
        x.seating(0, 0, 0);
        x.seating(0, 0, 1);
        x.seating(0, 0, 2);
        int[] counts = {4, 0, 2, 5, 3, 1, 2, 1, 2};
        for (int what = 0; what < counts.length; what++) {
            T.due("26 count(" + what + ")", x.count(what), counts[what]);
        }
        x.wind(1);
        T.due("26 wind", x.count(1), 1);
        for (int wrong : new int[] {-1, 9, Integer.MIN_VALUE, Integer.MAX_VALUE}) {
            T.due("26 what " + wrong, x.count(wrong), RookRing.OUTSIDE);
        }
    }

    // 27
    private static void digest() {
        RookRing x = new RookRing();
        T.due("27 new", x.digest(), toldDigest(x, ""));
        // 797 times 31 to the 9, less 31 to the 5.
        T.due("27 new", x.digest(), 797L * 26439622160671L - 28629151L);
        Checks.type(x, "r~");
        T.due("27 a page", x.digest(), toldDigest(x, "r~"));
        x.blank();
        Checks.type(x, FOUR);
        x.ring();
        T.due("27 a ring", x.digest(), toldDigest(x, ""));
        x.sit(0, 2);
        x.sit(1, 2);
        x.exchange(1, 2);
        x.observe(0, 0, 0);
        x.observe(1, 3, 4);
        Checks.type(x, "t0,");
        x.seating(1, 1, 1);
        long told = toldDigest(x, "t0,");
        T.due("27 all of it", x.digest(), told);
        T.due("27 nothing changes by it", x.digest(), told);
    }

    private static long toldDigest(RookRing x, String page) {
        long h = 797;
        int rooks = x.count(0);
        for (int rook = 0; rook < rooks; rook++) {
            for (int what : new int[] {0, 1, 2, 3, 10, 11, 12, 13, 14, 15, 16, 17}) {
                h = 31 * h + x.about(rook, what);
            }
        }
        for (int seat = 0; seat < rooks; seat++) {
            int[] told = {x.seat(seat), x.comes(seat, 0), x.comes(seat, 5), x.guess(seat, 0), x.guess(seat, 1),
                x.caw(seat)};
            for (int number : told) {
                h = 31 * h + number;
            }
        }
        if (rooks > 0) {
            h = 31 * h + x.can();
        }
        for (int i = 0; i < page.length(); i++) {
            h = 31 * h + page.charAt(i);
        }
        for (int what = 0; what <= 8; what++) {
            h = 31 * h + x.count(what);
        }
        return h;
    }

    private static void refusalsChangeNothing() {
        RookRing x = Checks.ringOf(FOUR);
        x.sit(0, 2);
        Checks.type(x, "r0,");
        for (int seen = 0; seen < 8; seen++) {
            x.observe(0, 0, 4);
        }
        long before = x.digest();
        x.letter(0);
        x.letter(127);
        x.ring();
        x.exchange(0, 4);
        x.exchange(4, 0);
        x.twig(0, 8);
        x.twig(4, 0);
        x.wind(2);
        x.sit(4, 0);
        x.sit(0, 8);
        x.seating(0, 0, 2);
        x.seating(8, 0, 0);
        x.observe(0, 0, 0);
        x.observe(0, 0, 9);
        x.restore();
        x.years(61, 0, 0);
        x.nestlings(16, 0, 0, 0, 0);
        T.due("refusals change nothing", x.digest(), before);
    }
}

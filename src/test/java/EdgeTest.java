/** The edges that the document names (empty, full, first, last, wrap-around, none), by answers worked out by hand. */
public final class EdgeTest {
    private static final Checks T = new Checks();
    private static final String SIX = "r0,t1,o2,m3,e4,t7";

    public static void main(String[] args) {
        everySignAtEveryPlace();
        lettersBehindARing();
        threeToSixRooks();
        everyKindTwigAndWind();
        pageIsFilledAndEmptied();
        ringStartsAnew();
        wordsWrapAround();
        asEachKind();
        leftOfTheLastSeat();
        exchangeOfFirstAndLast();
        mutesAroundTheEnd();
        mutesInARow();
        onlyHeWhoBeganIsPecked();
        usedFor512Calls();
        whereFirstLastAllAndNone();
        canAllAndNone();
        endlessAtItsEdges();
        seatingNearAndFar();
        seatingTwentyTimes();
        nestlingsAtTheirEdges();
        eightObserved();
        observedIsHeldAgainstWhatIs();
        guessAllOneAndNone();
        cawAtItsEdges();
        yearsOneAndSixty();
        yearsBySeeds();
        yearsOfWind();
        yearsOneByOne();
        imageOfNothingYet();
        imageKeepsTheLatest();
        imageKeepsNoneOfTheRest();
        imageAndRings();
        countsBeforeAndAfter();
        digestOfLittle();
        T.end();
    }

    private static void counts(String when, RookRing x, int... due) {
        for (int what = 0; what < due.length; what++) {
            T.due("26 " + when + ": count(" + what + ")", x.count(what), due[what]);
        }
    }

    // ---- 2 to 5: THE PAGE and THE RING

    /** Behind letters without a fault each sign from 1 to 126 either goes on or is the fault. */
    private static void everySignAtEveryPlace() {
        String ring = SIX + ";1";
        for (int place = 0; place < ring.length(); place++) {
            String fits;
            if (place == 18) {
                fits = "01";
            } else if (place == 17) {
                fits = ";";
            } else if (place % 3 == 0) {
                fits = "rtome";
            } else if (place % 3 == 1) {
                fits = "01234567";
            } else {
                fits = place < 8 ? "," : ",;";
            }
            signsBehind(ring.substring(0, place), fits);
        }
        for (int rooks = 3; rooks <= 6; rooks++) {
            String told = SIX.substring(0, 3 * rooks - 1);
            signsBehind(told + ";", "01");
            signsBehind(told + ";0", "");
            signsBehind(told + ";1", "");
        }
    }

    private static void signsBehind(String ahead, String fits) {
        for (int code = 1; code <= 126; code++) {
            RookRing x = new RookRing();
            Checks.type(x, ahead);
            T.due("4 none in " + ahead, x.fault(), ahead.length());
            x.letter(code);
            int due = fits.indexOf(code) >= 0 ? ahead.length() + 1 : ahead.length();
            T.due("4 letter " + code + " behind " + ahead, x.fault(), due);
        }
    }

    private static void lettersBehindARing() {
        RookRing x = new RookRing();
        T.due("4 the empty page", x.fault(), 0);
        Checks.type(x, SIX + ";1");
        T.due("4 the longest ring", x.fault(), 19);
        Checks.type(x, "r0,");
        T.due("4 the full page", x.count(6), 22);
        T.due("4 the first of what is behind", x.fault(), 19);
        T.due("5 more than a ring", x.ring(), RookRing.STATE);
        x.blank();
        Checks.type(x, "x" + SIX + ";1");
        T.due("4 the first letter", x.fault(), 0);
        x.blank();
        Checks.type(x, "r0,t1,o2;9;1;0");
        T.due("4 the first of several", x.fault(), 9);
        x.blank();
        Checks.type(x, "r0,r0,r0,r0,r0,r0,r0;0");
        T.due("4 the seventh rook's sign", x.fault(), 17);
        T.due("5 seven rooks", x.ring(), RookRing.STATE);
        T.due("5 the page stays", x.count(6), 22);
    }

    private static void threeToSixRooks() {
        T.due("5 two", readAs("r0,t1;0"), RookRing.STATE);
        for (int rooks = 3; rooks <= 6; rooks++) {
            String text = SIX.substring(0, 3 * rooks - 1) + ";0";
            T.due("5 " + text, readAs(text), rooks);
            RookRing x = Checks.ringOf(text);
            T.due("26 rooks", x.count(0), rooks);
            T.due("8 the last seat", x.seat(rooks - 1), rooks - 1);
            T.due("6 the last rook", x.about(rooks - 1, 2), rooks - 1);
            T.due("8 no seat behind it", x.seat(rooks), RookRing.UNKNOWN);
            T.due("6 no rook behind him", x.about(rooks, 0), RookRing.UNKNOWN);
        }
        T.due("5 seven", readAs(SIX + ",r0;0"), RookRing.STATE);
    }

    private static int readAs(String text) {
        RookRing x = new RookRing();
        Checks.type(x, text);
        return x.ring();
    }

    private static void everyKindTwigAndWind() {
        String kinds = "rtome";
        for (int kind = 0; kind < 5; kind++) {
            for (int twig = 0; twig <= 7; twig++) {
                for (int wind = 0; wind <= 1; wind++) {
                    RookRing x = Checks.ringOf("r0,r0,r0,r0,r0," + kinds.charAt(kind) + twig + ";" + wind);
                    T.due("6 kind", x.about(5, 0), kind);
                    T.due("6 twig", x.about(5, 1), twig);
                    T.due("26 wind", x.count(1), wind);
                }
            }
        }
    }

    private static void pageIsFilledAndEmptied() {
        RookRing x = new RookRing();
        T.due("3 the empty page", x.blank(), 0);
        for (int have = 1; have <= 22; have++) {
            T.due("2 up to 22", x.letter(have % 2 == 0 ? 1 : 126), have);
        }
        T.due("2 the 23rd", x.letter('r'), RookRing.FULL);
        T.due("26 the full page", x.count(6), 22);
        T.due("3 the full page", x.blank(), 22);
        T.due("26 the page", x.count(6), 0);
        T.due("2 room again", x.letter('r'), 1);
        T.due("3 one letter", x.blank(), 1);
        Checks.type(x, "r0,t1,o2;0");
        x.ring();
        T.due("5 the page is empty", x.blank(), 0);
        T.due("4 nor has it a fault", x.fault(), 0);
        T.due("5 it is no ring", x.ring(), RookRing.STATE);
        for (int have = 1; have <= 22; have++) {
            T.due("2 room behind a ring", x.letter('r'), have);
        }
        T.due("2 full behind a ring", x.letter('r'), RookRing.FULL);
    }

    /** From six to three and back: nothing of the ring that is gone shows. */
    private static void ringStartsAnew() {
        RookRing x = Checks.ringOf("e0,e0,e0,e0,e0,m7;1");
        x.exchange(0, 5);
        x.twig(1, 7);
        for (int seat = 0; seat < 6; seat++) {
            x.sit(seat, 1);
            x.observe(seat, 7, 0);
        }
        x.wind(0);
        Checks.type(x, "r0,r1,r2;0");
        T.due("5 three", x.ring(), 3);
        counts("another ring", x, 3, 0, 0, RookRing.NONE, 0, 0, 0, 2, 0);
        T.due("21 nothing is observed", x.guess(0, 0), 40);
        x.sit(2, 0);
        Checks.type(x, "r0,r1,r2,r3,r4,r5;1");
        T.due("5 six", x.ring(), 6);
        counts("a third ring", x, 6, 1, 0, RookRing.NONE, 0, 0, 0, 3, 0);
        for (int rook = 0; rook < 6; rook++) {
            T.due("5 his kind", x.about(rook, 0), 0);
            T.due("5 his twig", x.about(rook, 1), rook);
            T.due("5 his seat", x.about(rook, 2), rook);
            T.due("5 not pecked", x.about(rook, 3), 0);
        }
    }

    // ---- 6, 7: what a ROOK MAKES of a WORD, and what he is

    private static void wordsWrapAround() {
        RookRing x = Checks.ringOf("r7,t7,o7,m7,e7,o4;0");
        makes("a rook minds no twig", x, 0, 0, 7);
        makes("all bits", x, 1, 7, 0);
        makes("7 more", x, 2, 7, 6);
        makes("a mute", x, 3, 0, 7);
        makes("8 more", x, 4, 0, 7);
        makes("4 more", x, 5, 4, 3);
        x.wind(1);
        makes("a rook in the wind", x, 0, 0, 7);
        makes("all bits in the wind", x, 1, 7, 0);
        makes("14 more", x, 2, 6, 5);
        makes("a mute in the wind", x, 3, 0, 7);
        makes("15 more", x, 4, 7, 6);
        makes("8 more in the wind", x, 5, 0, 7);
        RookRing none = Checks.ringOf("t0,o0,e0;1");
        makes("no bits", none, 0, 0, 7);
        makes("none more", none, 1, 0, 7);
        makes("1 more", none, 2, 1, 0);
        RookRing turner = Checks.ringOf("t5,r0,r0;0");
        for (int word = 0; word < 8; word++) {
            T.due("6 each bit for itself", turner.about(0, 10 + word), word ^ 5);
        }
    }

    private static void makes(String what, RookRing x, int rook, int of0, int of7) {
        T.due("6 of 0: " + what, x.about(rook, 10), of0);
        T.due("6 of 7: " + what, x.about(rook, 17), of7);
    }

    private static void asEachKind() {
        RookRing x = Checks.ringOf("e1,m1,o1,t1,r1;0");
        int[][] are = {
            {0, -1, 0, -1, 0}, {1, -1, -1, 1, -1}, {2, -1, 2, -1, -1}, {3, 3, -1, -1, -1}, {4, -1, -1, -1, -1}};
        for (int rook = 0; rook < 5; rook++) {
            for (int kind = 0; kind < 5; kind++) {
                T.due("7 as(" + rook + ", " + kind + ")", x.as(rook, kind), are[rook][kind]);
            }
        }
        x.exchange(0, 4);
        T.due("7 by rook, not by seat", x.as(0, 4), 0);
        T.due("7 by rook, not by seat", x.as(4, 4), RookRing.NONE);
    }

    // ---- 8 to 13: SEATS and SITTINGS

    /** t7 is heard right ahead of o1 or behind it, by where it begins: 0 comes as 0 or as 6. */
    private static void leftOfTheLastSeat() {
        for (int rooks = 3; rooks <= 6; rooks++) {
            String between = ",r0,r0,r0,r0".substring(0, 3 * (rooks - 2));
            RookRing x = Checks.ringOf("t7" + between + ",o1;0");
            T.due("12 the last seat: t7 of seat 0 is heard first", x.comes(rooks - 1, 0), 0);
            for (int seat = 0; seat < rooks - 1; seat++) {
                T.due("12 seat 0 is heard behind the last one", x.comes(seat, 0), 6);
            }
            T.due("14 all but the last", x.where(0, 6), (1 << (rooks - 1)) - 1);
            T.due("14 the last", x.where(0, 0), 1 << (rooks - 1));
        }
    }

    private static void exchangeOfFirstAndLast() {
        RookRing x = Checks.ringOf(SIX + ";0");
        T.due("9 first and last", x.exchange(0, 5), 5);
        T.due("8 first", x.seat(0), 5);
        T.due("8 last", x.seat(5), 0);
        T.due("6 his seat", x.about(5, 2), 0);
        T.due("6 his seat", x.about(0, 2), 5);
        T.due("9 back", x.exchange(5, 0), 5);
        T.due("9 with himself", x.exchange(0, 0), 0);
        T.due("9 with himself", x.exchange(5, 5), 5);
        for (int seat = 0; seat < 6; seat++) {
            T.due("8 as at first", x.seat(seat), seat);
        }
    }

    /** The MUTE on the last SEAT is heard on SEAT 0. */
    private static void mutesAroundTheEnd() {
        RookRing x = Checks.ringOf("o3,r0,m1;0");
        T.due("12 he who began hears a mute", x.comes(0, 0), 6);
        T.due("12 twice, and then r0 once", x.comes(1, 0), 6);
        T.due("12 a mute begins: nothing is heard of him", x.comes(2, 0), 3);
        RookRing last = Checks.ringOf("m1,r0,o3;0");
        T.due("12 a mute begins and is last", last.comes(0, 7), 2);
        T.due("12 a rook is between", last.comes(2, 7), 2);
        RookRing elder = Checks.ringOf("e1,r0,m1;1");
        T.due("12 an elder in the wind, twice", elder.comes(0, 7), 5);
        RookRing turner = Checks.ringOf("t5,r0,m1;0");
        T.due("12 turned over and back", turner.comes(0, 7), 7);
        T.due("13 so he is pecked", turner.sit(0, 7), RookRing.NONE);
        T.due("13 a law by the mute", turner.sit(2, 7), 2);
    }

    private static void mutesInARow() {
        // e0 makes 1 more each time: behind k MUTES 2 to the k more.
        RookRing x = Checks.ringOf("m0,m0,m0,m0,m0,e0;0");
        // Begun on SEAT 0 four MUTES are ahead of e0, on 1 three, on 2 two, on 3 one, on 4 none, on 5 five.
        int[] of5 = {5, 5, 1, 7, 6, 5};
        for (int seat = 0; seat < 6; seat++) {
            T.due("12 five mutes, begun on " + seat, x.comes(seat, 5), of5[seat]);
        }
        for (int rooks = 3; rooks <= 6; rooks++) {
            RookRing mutes = Checks.ringOf("m1,m2,m3,m4,m5,m6".substring(0, 3 * rooks - 1) + ";1");
            T.due("12 all are mutes", mutes.comes(rooks - 1, 7), 7);
            T.due("13 all are mutes", mutes.sit(0, 0), RookRing.NONE);
            T.due("15 no law can be", mutes.can(), 0);
        }
        // Two MUTES apart are heard by one each: o1 twice, e0 twice.
        RookRing apart = Checks.ringOf("m0,o1,m0,e0,r0;0");
        T.due("12 each is heard for himself", apart.comes(4, 0), 4);
        T.due("12 the first one begins", apart.comes(0, 0), 3);
        T.due("12 the second one begins", apart.comes(2, 0), 3);
    }

    private static void onlyHeWhoBeganIsPecked() {
        RookRing x = Checks.ringOf("r0,r0,r0,r0,r0,r0;0");
        x.exchange(0, 5);
        T.due("13 no law", x.sit(0, 0), RookRing.NONE);
        T.due("13 no law", x.sit(0, 7), RookRing.NONE);
        T.due("13 no law", x.sit(3, 7), RookRing.NONE);
        int[] pecked = {0, 0, 0, 1, 0, 2};
        for (int rook = 0; rook < 6; rook++) {
            T.due("6 pecked", x.about(rook, 3), pecked[rook]);
        }
        counts("pecked", x, 6, 0, 0, RookRing.NONE, 3, 0, 0, 1, 0);
        x.exchange(0, 1);
        T.due("6 that stays with the rook", x.about(5, 3), 2);
    }

    private static void usedFor512Calls() {
        RookRing laws = Checks.ringOf("e0,r0,r0;0");
        for (int sitting = 0; sitting < 500; sitting++) {
            T.due("13 a law", laws.sit(sitting % 3, sitting % 8), (sitting + 1) % 8);
        }
        T.due("26 500 laws, by the 512th call", laws.count(2), 500);
        RookRing pecks = Checks.ringOf("r0,r0,r0;0");
        for (int sitting = 0; sitting < 500; sitting++) {
            T.due("13 pecked", pecks.sit(2, 7), RookRing.NONE);
        }
        T.due("6 pecked 500 times, by the 512th call", pecks.about(2, 3), 500);
    }

    // ---- 14 to 18: what would be

    private static void whereFirstLastAllAndNone() {
        for (int rooks = 3; rooks <= 6; rooks++) {
            RookRing same = Checks.ringOf("r0,r0,r0,r0,r0,r0".substring(0, 3 * rooks - 1) + ";0");
            for (int word = 0; word < 8; word++) {
                T.due("14 everywhere", same.where(word, word), (1 << rooks) - 1);
                T.due("14 nowhere", same.where(word, 7 - word), 0);
            }
        }
        // Only he who begins as a MUTE lets t2 turn once.
        T.due("14 the first alone", Checks.ringOf("m2,t2,r1;0").where(7, 5), 1);
        T.due("14 the last alone", Checks.ringOf("t2,r1,m2;0").where(7, 5), 4);
    }

    private static void canAllAndNone() {
        T.due("15 none", Checks.ringOf("r7,t0,o0,m7,r0,e7;0").can(), 0);
        T.due("15 all but in the wind", Checks.ringOf("r7,t0,o0,m7,r0,e7;1").can(), 255);
        // t1 turns one bit over: no WORD comes as itself.
        T.due("15 all by one bit", Checks.ringOf("r0,r0,t1;0").can(), 255);
        // (w ^ 1) + 1: 2 of 0, 1 of 1, 4 of 2, 3 of 3: the odd ones come of themselves alone;
        // begun on SEAT 1 it is (w + 1) ^ 1: 0 of 0, 3 of 1, 2 of 2, 5 of 3.
        T.due("15 by any seat", Checks.ringOf("r0,t1,o1;0").can(), 255);
        // By twice o4 and twice t1 nothing changes; begun by either MUTE one of them is heard once.
        T.due("15 by the mutes alone", Checks.ringOf("m0,t1,m0,o4;0").can(), 255);
    }

    private static void endlessAtItsEdges() {
        RookRing none = Checks.ringOf("r0,r0,r0;0");
        T.due("16 it ends by the first", none.endless(2, 7, 2), 1);
        T.due("16 it ends", none.endless(2, 7, 0), RookRing.NONE);
        T.due("16 it ends", none.endless(2, 7, 1), RookRing.NONE);
        // On the last SEAT a MUTE begins and t2 turns once; on SEAT 0 it is turned twice.
        RookRing around = Checks.ringOf("t2,r1,m2;0");
        T.due("16 a law on the last seat, then seat 0", around.endless(2, 0, 2), 2);
        T.due("16 it ends", around.endless(2, 0, 0), RookRing.NONE);
        T.due("16 seat 1", around.endless(1, 0, 2), 1);
        // Each SITTING turns the first bit: two WORDS, on as many SEATS as there are.
        RookRing three = Checks.ringOf("t1,r0,r0;0");
        tellsEndless("two words on three seats", three, 2, 7, 6);
        RookRing four = Checks.ringOf("t1,r0,r0,r0;0");
        tellsEndless("two words on four seats", four, 3, 0, 4);
        RookRing five = Checks.ringOf("e0,r0,r0,r0,r0;0");
        tellsEndless("eight words on five seats", five, 4, 7, 40);
        RookRing six = Checks.ringOf("e0,r0,r0,r0,r0,r0;0");
        tellsEndless("24 sittings come round on six seats", six, 5, 7, 24);
        T.due("16 as it would be", six.count(2), 0);
        T.due("16 as it would be", none.count(4), 0);
    }

    private static void tellsEndless(String what, RookRing x, int seat, int motion, int sittings) {
        T.due("16 ahead: " + what, x.endless(seat, motion, 0), sittings);
        T.due("16 between: " + what, x.endless(seat, motion, 1), sittings);
        T.due("16 endless: " + what, x.endless(seat, motion, 2), RookRing.NONE);
    }

    private static void seatingNearAndFar() {
        // Nobody makes anything: as they sit, by no exchange, and that is one way.
        RookRing none = Checks.ringOf("r0,r0,r0;0");
        T.due("17 none needed", none.seating(7, 7, 0), 0);
        T.due("17 the one way", none.seating(7, 7, 1), 1);
        T.due("17 there is none", none.seating(7, 0, 0), RookRing.NONE);
        T.due("17 there is none", none.seating(7, 0, 1), RookRing.NONE);
        // Heard are SEATS 1, 2, 0: 0 comes as 2 only if the MUTE is heard just ahead of e0.
        RookRing two = Checks.ringOf("m0,e0,r0;0");
        T.due("17 as far as three go", two.seating(0, 2, 0), 2);
        T.due("17 both ways", two.seating(0, 2, 1), 2);
        // Heard are SEATS 1, 2, 3, 0. By e1, 2 more each, 0 comes as 2 (once), 4 (twice) or 0 (four times).
        RookRing four = Checks.ringOf("e1,m0,m0,r0;0");
        T.due("17 as they sit r0 is between", four.seating(0, 2, 0), 0);
        T.due("17 e1 behind both", four.seating(0, 0, 0), 1);
        // They are heard as m, m, e1, r0 or as r0, m, m, e1.
        T.due("17 the exchanges (0, 3) and (1, 3)", four.seating(0, 0, 1), 2);
        T.due("17 e1 behind one", four.seating(0, 4, 0), 1);
        // They are heard as m, e1, r0, m or as m, r0, m, e1.
        T.due("17 the exchanges (0, 2) and (2, 3)", four.seating(0, 4, 1), 2);
        T.due("17 they sit as they sat", four.seat(0), 0);
        T.due("26 done", four.count(8), 5);
    }

    private static void seatingTwentyTimes() {
        RookRing x = Checks.ringOf("r0,r0,r0;0");
        for (int done = 0; done < 20; done++) {
            T.due("26 done so far", x.count(8), done);
            T.due("17 a refused one is not done", x.seating(0, 8, 0), RookRing.OUTSIDE);
            // One that finds no way is done, too.
            T.due("17 up to 20", x.seating(0, done % 2, 0), done % 2 == 0 ? 0 : RookRing.NONE);
        }
        T.due("17 the 21st", x.seating(0, 0, 0), RookRing.STATE);
        T.due("17 the 22nd", x.seating(0, 0, 1), RookRing.STATE);
        T.due("26 done", x.count(8), 20);
    }

    private static void nestlingsAtTheirEdges() {
        RookRing three = Checks.ringOf("o1,o1,o1;0");
        likely("nobody is lent: it comes", three, 0, 0, 7, 2, 1, 1);
        likely("nobody is lent: it doesn't", three, 0, 0, 7, 3, 0, 1);
        likely("all are lent", three, 7, 2, 0, 7, 1, 2);
        likely("all are lent", three, 7, 2, 0, 0, 1, 2);
        likely("all are lent: no other word", three, 7, 2, 0, 1, 0, 1);
        // The first SEAT alone: 0 + 2, then 2 or 5. The last alone: 0 + 1, 1 or 6, then + 1.
        likely("seat 0", three, 1, 0, 0, 5, 1, 2);
        likely("the last seat", three, 4, 1, 0, 1, 1, 2);
        likely("the last seat", three, 4, 0, 0, 7, 1, 2);
        // 0 or 7, and 1; these or turned over, and 2; these or turned over, and 4: each WORD once.
        RookRing six = Checks.ringOf("r0,o1,r0,o2,r0,o4;0");
        for (int word = 0; word < 8; word++) {
            likely("each word", six, 21, 5, 0, word, 1, 8);
        }
        likely("all six", six, 63, 5, 0, 7, 1, 2);
        likely("all six", six, 63, 0, 0, 1, 0, 1);
        // A NESTLING behind a MUTE turns over twice; in place of one he is heard once.
        RookRing mute = Checks.ringOf("r0,m5,r0;0");
        likely("behind a mute", mute, 4, 0, 3, 3, 1, 1);
        likely("in place of the mute", mute, 2, 0, 3, 4, 1, 2);
        likely("both", mute, 6, 0, 3, 4, 1, 2);
    }

    private static void likely(String what, RookRing x, int set, int seat, int motion, int word, int above, int below) {
        T.due("18 above: " + what, x.nestlings(set, seat, motion, word, 0), above);
        T.due("18 below: " + what, x.nestlings(set, seat, motion, word, 1), below);
    }

    // ---- 19 to 23: what is OBSERVED

    private static void eightObserved() {
        RookRing x = Checks.ringOf("o1,r0,r0,r0,r0,r0;0");
        T.due("20 none were", x.forget(), 0);
        for (int seen = 1; seen <= 8; seen++) {
            T.due("19 up to eight", x.observe(5, seen - 1, seen % 8), seen);
            T.due("26 observed", x.count(5), seen);
        }
        T.due("19 the ninth", x.observe(5, 0, 1), RookRing.FULL);
        // By all eight only o1 and e0 are left.
        T.due("21 all eight are looked at", x.guess(0, 0), 2);
        T.due("21 the least", x.guess(0, 1), 17);
        T.due("20 eight were", x.forget(), 8);
        T.due("20 none are", x.forget(), 0);
        T.due("21 all could be", x.guess(0, 0), 40);
        T.due("19 room again", x.observe(0, 7, 0), 1);
        T.due("19 the same once more", x.observe(0, 7, 0), 2);
        // Eight alike tell no more than one: he makes 0 of 7, so t7 (15), o1 (17), e0 (32).
        for (int seen = 3; seen <= 8; seen++) {
            x.observe(0, 7, 0);
        }
        T.due("21 eight alike", x.guess(0, 0), 3);
        T.due("21 eight alike", x.guess(0, 1), 15);
        // The eighth alone is unlike.
        x.forget();
        for (int seen = 1; seen <= 7; seen++) {
            x.observe(0, 7, 0);
        }
        x.observe(0, 7, 1);
        T.due("21 the eighth counts", x.guess(0, 0), 0);
    }

    /** What was OBSERVED is not made anew: SEATS, TWIGS and WIND are as they are when it is asked. */
    private static void observedIsHeldAgainstWhatIs() {
        RookRing x = Checks.ringOf("o1,r0,r0;0");
        x.observe(2, 0, 1);
        // He says 1 on: any r, t0, o0, any m, e7.
        T.due("21 so it is", x.guess(1, 0), 19);
        x.twig(0, 2);
        // Now he makes 1 of 2: t3, o7 or e6.
        T.due("21 by another twig he makes 1 of 2", x.guess(1, 0), 3);
        T.due("21 t3 is the least", x.guess(1, 1), 11);
        x.twig(0, 1);
        x.wind(1);
        // Again he makes 1 of 2, now in the wind: t3, e3 and e7 (7 more).
        T.due("21 in the wind", x.guess(1, 0), 3);
        T.due("21 in the wind", x.guess(1, 1), 11);
        x.wind(0);
        x.exchange(0, 1);
        T.due("21 o1 may be anybody who makes 1 of 0", x.guess(1, 0), 3);
        T.due("21 t1 is the least", x.guess(1, 1), 9);
        T.due("26 still observed", x.count(5), 1);
    }

    private static void guessAllOneAndNone() {
        for (int rooks = 3; rooks <= 6; rooks++) {
            RookRing x = Checks.ringOf(SIX.substring(0, 3 * rooks - 1) + ";0");
            T.due("21 nothing is observed, the first seat", x.guess(0, 0), 40);
            T.due("21 nothing is observed, the last seat", x.guess(rooks - 1, 0), 40);
            T.due("21 the least of all", x.guess(rooks - 1, 1), 0);
        }
        // Of 0 he makes 5, of 1 he makes 4: t5 alone.
        RookRing one = Checks.ringOf("r0,r0,t5;0");
        one.observe(1, 0, 5);
        one.observe(1, 1, 4);
        T.due("21 one alone", one.guess(2, 0), 1);
        T.due("21 he is t5", one.guess(2, 1), 13);
        // Without a MUTE beside him whatever says it on is alike: r, t0, o0, m, e7.
        RookRing same = Checks.ringOf("r0,r0,r0;0");
        same.observe(0, 3, 3);
        same.observe(1, 0, 0);
        T.due("21 all who say it on", same.guess(2, 0), 19);
        T.due("21 the least", same.guess(2, 1), 0);
        same.observe(2, 0, 1);
        same.observe(2, 0, 2);
        T.due("21 nobody", same.guess(2, 0), 0);
        T.due("21 nobody", same.guess(2, 1), RookRing.NONE);
        T.due("22 nobody", same.caw(2), RookRing.NONE);
        // In the wind e makes 1, 3, 5 or 7 more, and o an even number: 7 more are e3, e7 alone.
        RookRing windy = Checks.ringOf("r0,r0,e7;1");
        windy.observe(0, 1, 0);
        windy.observe(0, 0, 7);
        T.due("21 the highest kind", windy.guess(2, 0), 2);
        T.due("21 e3", windy.guess(2, 1), 35);
    }

    private static void cawAtItsEdges() {
        RookRing x = Checks.ringOf("r0,r0,t2;0");
        for (int seat = 0; seat < 3; seat++) {
            T.due("22 of like ones the least", x.caw(seat), 0);
        }
        x.observe(2, 0, 2);
        // t2, o2, e1: by 0 and by 1 all three stay, by 2 two at worst; by 3, 6, 7 too.
        T.due("22 the least of those that help", x.caw(2), 2);
        x.observe(2, 2, 0);
        T.due("22 one is left: all are alike", x.guess(2, 0), 1);
        T.due("22 the least", x.caw(2), 0);
        x.observe(2, 2, 1);
        T.due("22 nobody could sit there", x.caw(2), RookRing.NONE);
        x.forget();
        x.observe(2, 1, 2);
        // t3, o1, e0: by 0 t3 makes 3, both others 1; by 1 all make 2.
        T.due("22 motion 0 helps", x.caw(2), 0);
        T.due("22 he is as he was", x.about(2, 1), 2);
    }

    private static void yearsOneAndSixty() {
        RookRing laws = Checks.ringOf("e0,r0,r0;0");
        T.due("23 one", laws.years(1, 0, 0), 1);
        T.due("23 sixty", laws.years(60, 0, 0), 60);
        T.due("23 one is not sixty", laws.years(59, 0, 0), 59);
        RookRing none = Checks.ringOf("r0,r0,r0;0");
        for (int sittings = 1; sittings <= 60; sittings += 59) {
            T.due("23 no laws", none.years(sittings, 1, 0), 0);
            T.due("23 no last one", none.years(sittings, 1, 1), RookRing.NONE);
        }
        counts("as they would be", laws, 3, 0, 0, RookRing.NONE, 0, 0, 0, 1, 0);
        counts("as they would be", none, 3, 0, 0, RookRing.NONE, 0, 0, 0, 1, 0);
        none.sit(0, 0);
        laws.sit(0, 3);
        T.due("23 the ring's own laws are not of these", laws.years(1, 0, 0), 1);
        T.due("23 nor is its last one", none.years(9, 9, 1), RookRing.NONE);
    }

    private static void yearsBySeeds() {
        RookRing x = Checks.ringOf("e0,r0,r0;0");
        T.due("23 from 0", x.years(1, 0, 2), 1406932606);
        // From the highest one it is 12345 less 1103515245, and 2 to the 31: 1043980748; then 288979989.
        T.due("23 from the highest", x.years(1, Integer.MAX_VALUE, 2), 288979989);
        T.due("23 two draws each", x.years(2, 0, 2), x.years(1, 1406932606, 2));
        T.due("23 of 7 comes 0", x.years(1, seedFor(7), 1), 0);
        for (int seed = 0; seed < 20; seed++) {
            long then = seed * 107374182L;
            for (int draw = 0; draw < 120; draw++) {
                then = nextSeed(then);
            }
            T.due("23 a seed is 0 at least", x.years(60, (int) (seed * 107374182L), 2), then);
        }
    }

    /** A SEED whose second DRAW of 8 is the told MOTION. */
    private static int seedFor(int motion) {
        for (int seed = 0; seed < 1000; seed++) {
            if (nextSeed(nextSeed(seed)) / 65536 % 8 == motion) {
                return seed;
            }
        }
        return -1;
    }

    private static void yearsOfWind() {
        // In the wind o4 says it on, so the first one is pecked, and then there is none.
        RookRing windy = Checks.ringOf("o4,r0,r0;1");
        T.due("23 the first one makes none", windy.years(1, 3, 0), 0);
        T.due("23 nor a last one", windy.years(1, 3, 1), RookRing.NONE);
        T.due("23 from then on", windy.years(60, 3, 0), 59);
        T.due("23 the wind is as it was", windy.count(1), 1);
        // Without wind o4 makes 4 more, so all are laws and the wind never turns.
        RookRing still = Checks.ringOf("o4,r0,r0;0");
        T.due("23 never turned", still.years(60, 3, 0), 60);
        T.due("23 the wind is as it was", still.count(1), 0);
        T.due("23 it goes on from the same wind", windy.years(60, 3, 0), 59);
    }

    /**
     * YEARS are as the same SITTINGS asked for one by one. With t3 and e2 some are PECKED in either wind,
     * so it turns and turns back.
     */
    private static void yearsOneByOne() {
        int most = 0;
        for (int seed = 1; seed <= 12; seed++) {
            RookRing x = Checks.ringOf("r0,t3,e2,r0;" + seed % 2);
            int laws = 0;
            int last = RookRing.NONE;
            long then = seed;
            int turned = 0;
            for (int sittings = 1; sittings <= 60; sittings++) {
                then = nextSeed(then);
                int seat = (int) (then / 65536 % 4);
                then = nextSeed(then);
                int motion = (int) (then / 65536 % 8);
                int came = x.comes(seat, motion);
                if (came == motion) {
                    x.wind(1 - x.count(1));
                    turned++;
                } else {
                    laws++;
                    last = came;
                }
                RookRing asked = Checks.ringOf("r0,t3,e2,r0;" + seed % 2);
                T.due("23 laws by " + seed + " in " + sittings, asked.years(sittings, seed, 0), laws);
                T.due("23 the last one by " + seed + " in " + sittings, asked.years(sittings, seed, 1), last);
                T.due("23 the seed by " + seed + " in " + sittings, asked.years(sittings, seed, 2), then);
            }
            most = Math.max(most, turned);
        }
        T.holds("23 the wind turns often enough to tell", most >= 4);
    }

    private static long nextSeed(long seed) {
        return (1103515245L * seed + 12345L) % 2147483648L;
    }

    // ---- 24, 25: the IMAGE

    private static void imageOfNothingYet() {
        RookRing x = Checks.ringOf("e0,r0,r0;0");
        T.due("25 none was kept", x.restore(), RookRing.STATE);
        T.due("24 no laws yet", x.image(), 0);
        x.sit(0, 0);
        x.sit(1, 7);
        T.due("25 no laws yet", x.restore(), 0);
        counts("restored", x, 3, 0, 0, RookRing.NONE, 0, 0, 0, 1, 0);
        T.due("24 keeping changes nothing", x.image(), 0);
        T.due("25 nor does restoring that", x.restore(), 0);
    }

    private static void imageKeepsTheLatest() {
        RookRing x = Checks.ringOf("e0,r0,r0;0");
        x.sit(0, 0);
        T.due("24 one law", x.image(), 1);
        x.sit(0, 3);
        T.due("24 two laws", x.image(), 2);
        x.sit(0, 6);
        T.due("25 the latest", x.restore(), 2);
        T.due("25 the latest one's law", x.count(3), 4);
        x.sit(0, 6);
        T.due("25 and again", x.restore(), 2);
        T.due("25 and again", x.count(3), 4);
        T.due("25 and at once", x.restore(), 2);
    }

    /** THE PAGE, how often a RING was read and how often seating() was done go on. */
    private static void imageKeepsNoneOfTheRest() {
        RookRing x = Checks.ringOf("e0,r0,r0;0");
        for (int seen = 0; seen < 8; seen++) {
            x.observe(0, seen, (seen + 1) % 8);
        }
        x.image();
        Checks.type(x, "r0");
        x.seating(0, 1, 0);
        x.forget();
        x.observe(1, 1, 1);
        T.due("25 laws", x.restore(), 0);
        T.due("26 all eight are observed again", x.count(5), 8);
        T.due("19 so it is full", x.observe(0, 0, 0), RookRing.FULL);
        T.due("21 by all eight", x.guess(0, 0), 2);
        T.due("26 the page", x.count(6), 2);
        T.due("26 rings", x.count(7), 1);
        T.due("26 seatings", x.count(8), 1);
        T.due("4 its letters", x.fault(), 2);
    }

    private static void imageAndRings() {
        RookRing x = Checks.ringOf("e0,r0,r0;0");
        x.sit(0, 0);
        x.image();
        Checks.type(x, "e0,r0,r0;2");
        T.due("5 none", x.ring(), RookRing.STATE);
        T.due("25 no other ring since", x.restore(), 1);
        x.blank();
        Checks.type(x, "e0,r0,r0;0");
        T.due("25 a page is not yet a ring", x.restore(), 1);
        T.due("5 one like it", x.ring(), 3);
        T.due("25 another ring, though like it", x.restore(), RookRing.STATE);
        T.due("26 its laws", x.count(2), 0);
        T.due("24 of this one", x.image(), 0);
        x.sit(0, 0);
        T.due("25 of this one", x.restore(), 0);
    }

    // ---- 26, 27

    private static void countsBeforeAndAfter() {
        RookRing x = new RookRing();
        counts("a new object", x, 0, 0, 0, RookRing.NONE, 0, 0, 0, 0, 0);
        T.due("26 what 9", x.count(9), RookRing.OUTSIDE);
        T.due("26 what -1", x.count(-1), RookRing.OUTSIDE);
        Checks.type(x, "o4,r0,r0;1");
        counts("a page", x, 0, 0, 0, RookRing.NONE, 0, 0, 10, 0, 0);
        x.ring();
        counts("a ring", x, 3, 1, 0, RookRing.NONE, 0, 0, 0, 1, 0);
        x.sit(2, 4);
        counts("pecked", x, 3, 1, 0, RookRing.NONE, 1, 0, 0, 1, 0);
        x.wind(0);
        x.sit(2, 4);
        counts("the last law is 0", x, 3, 0, 1, 0, 1, 0, 0, 1, 0);
        x.sit(2, 3);
        counts("the last law is 7", x, 3, 0, 2, 7, 1, 0, 0, 1, 0);
        x.sit(1, 0);
        x.observe(0, 0, 0);
        x.seating(0, 4, 0);
        x.letter('r');
        counts("all of it", x, 3, 0, 3, 4, 1, 1, 1, 1, 1);
    }

    private static void digestOfLittle() {
        RookRing x = new RookRing();
        // 797, then 0, 0, 0, -1, 0, 0, 0, 0, 0.
        T.due("27 a new object", x.digest(), mixed(797, 0, 0, 0, -1, 0, 0, 0, 0, 0));
        x.letter(1);
        x.letter(126);
        T.due("27 letters", x.digest(), mixed(797, 1, 126, 0, 0, 0, -1, 0, 0, 2, 0, 0));
        x.blank();
        Checks.type(x, "r0,r0,r0;0");
        x.ring();
        long h = 797;
        for (int rook = 0; rook < 3; rook++) {
            h = mixed(h, 0, 0, rook, 0, 0, 1, 2, 3, 4, 5, 6, 7);
        }
        for (int seat = 0; seat < 3; seat++) {
            h = mixed(h, seat, 0, 5, 40, 0, 0);
        }
        T.due("27 three rooks", x.digest(), mixed(h, 0, 3, 0, 0, -1, 0, 0, 0, 1, 0));
    }

    private static long mixed(long from, int... numbers) {
        long h = from;
        for (int number : numbers) {
            h = 31 * h + number;
        }
        return h;
    }
}

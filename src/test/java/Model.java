import java.math.BigInteger;
import java.util.ArrayDeque;
import java.util.ArrayList;
import java.util.Collections;
import java.util.HashMap;
import java.util.List;
import java.util.Map;
import java.util.TreeMap;
import java.util.TreeSet;
import java.util.regex.Matcher;
import java.util.regex.Pattern;

/**
 * The document once more, by other means than the program's (birds as objects, texts by a pattern,
 * seatings by search, chances by fractions), so that ModelTest can hold one against the other.
 */
final class Model {
    private static final int NONE = -1, UNKNOWN = -101, OUTSIDE = -102, STATE = -103, FULL = -104;
    private static final Pattern RING = Pattern.compile("[rtome][0-7](,[rtome][0-7]){2,5};[01]");

    static class Bird {
        int twig;

        int makes(int word, int wind) {
            return word;
        }

        int kind() {
            return 0;
        }
    }

    static class Turner extends Bird {
        @Override int makes(int word, int wind) {
            int turned = 0;
            for (int bit = 1; bit <= 4; bit *= 2) {
                boolean in = word / bit % 2 == 1;
                boolean turn = twig / bit % 2 == 1;
                turned += in != turn ? bit : 0;
            }
            return turned;
        }

        @Override int kind() {
            return 1;
        }
    }

    static class OldOne extends Bird {
        @Override int makes(int word, int wind) {
            return Math.floorMod(word + twig * (1 + wind), 8);
        }

        @Override int kind() {
            return 2;
        }
    }

    static class Mute extends Bird {
        @Override int kind() {
            return 3;
        }
    }

    static class Elder extends OldOne {
        @Override int makes(int word, int wind) {
            return Math.floorMod(super.makes(word, wind) + 1, 8);
        }

        @Override int kind() {
            return 4;
        }
    }

    private record Seen(int seat, int motion, int came) { }

    private record Fraction(BigInteger above, BigInteger below) {
        Fraction plusHalfOf(Fraction a, Fraction b) {
            BigInteger above = a.above.multiply(b.below).add(b.above.multiply(a.below));
            BigInteger below = a.below.multiply(b.below).multiply(BigInteger.TWO);
            BigInteger shared = above.gcd(below);
            return new Fraction(above.divide(shared), below.divide(shared));
        }
    }

    private record Image(List<Integer> seats, List<Integer> twigs, List<Integer> pecks, List<Seen> seen, int wind,
        List<Integer> laws) { }

    private String page = "";
    private List<Bird> birds = new ArrayList<>();
    private List<Integer> seats = new ArrayList<>();
    private List<Integer> pecks = new ArrayList<>();
    private List<Seen> seen = new ArrayList<>();
    private List<Integer> laws = new ArrayList<>();
    private int wind;
    private int rings;
    private int seatings;
    private Image image;

    static Bird bird(int kind, int twig) {
        Bird[] kinds = {new Bird(), new Turner(), new OldOne(), new Mute(), new Elder()};
        kinds[kind].twig = twig;
        return kinds[kind];
    }

    private static boolean in(int number, int from, int to) {
        return from <= number && number <= to;
    }

    private boolean noPlace(int number) {
        return !in(number, 0, birds.size() - 1);
    }

    private static boolean noWord(int... numbers) {
        for (int number : numbers) {
            if (!in(number, 0, 7)) {
                return true;
            }
        }
        return false;
    }

    private List<Bird> round() {
        List<Bird> round = new ArrayList<>();
        for (int rook : seats) {
            round.add(birds.get(rook));
        }
        return round;
    }

    /** Those who hear, in their order; each makes something 2 to the so-manieth of mutes just ahead. */
    private static int outcome(List<Bird> round, int seat, int motion, int wind) {
        List<Bird> hearers = new ArrayList<>(round);
        Collections.rotate(hearers, -(seat + 1));
        int word = motion;
        for (int i = 0; i < hearers.size(); i++) {
            int mutes = 0;
            while (i - mutes - 1 >= 0 && hearers.get(i - mutes - 1) instanceof Mute) {
                mutes++;
            }
            for (int time = 0; time < Math.pow(2, mutes); time++) {
                word = hearers.get(i).makes(word, wind);
            }
        }
        return word;
    }

    private int outcome(int seat, int motion) {
        return outcome(round(), seat, motion, wind);
    }

    int letter(int code) {
        if (!in(code, 1, 126)) {
            return OUTSIDE;
        }
        if (page.length() == 22) {
            return FULL;
        }
        page += (char) code;
        return page.length();
    }

    int blank() {
        int had = page.length();
        page = "";
        return had;
    }

    int fault() {
        for (int end = 1; end <= page.length(); end++) {
            Matcher matcher = RING.matcher(page.substring(0, end));
            if (!matcher.matches() && !matcher.hitEnd()) {
                return end - 1;
            }
        }
        return page.length();
    }

    int ring() {
        if (!RING.matcher(page).matches()) {
            return STATE;
        }
        String[] halves = page.split(";");
        birds = new ArrayList<>();
        seats = new ArrayList<>();
        pecks = new ArrayList<>();
        for (String told : halves[0].split(",")) {
            seats.add(birds.size());
            pecks.add(0);
            birds.add(bird("rtome".indexOf(told.charAt(0)), Integer.parseInt(told.substring(1))));
        }
        wind = Integer.parseInt(halves[1]);
        seen = new ArrayList<>();
        laws = new ArrayList<>();
        image = null;
        rings++;
        page = "";
        return birds.size();
    }

    int about(int rook, int what) {
        if (noPlace(rook)) {
            return UNKNOWN;
        }
        Bird bird = birds.get(rook);
        if (in(what, 10, 17)) {
            return bird.makes(what - 10, wind);
        }
        Map<Integer, Integer> told = Map.of(0, bird.kind(), 1, bird.twig, 2, seats.indexOf(rook), 3, pecks.get(rook));
        return told.getOrDefault(what, OUTSIDE);
    }

    int as(int rook, int kind) {
        if (noPlace(rook)) {
            return UNKNOWN;
        }
        if (!in(kind, 0, 4)) {
            return OUTSIDE;
        }
        return bird(kind, 0).getClass().isInstance(birds.get(rook)) ? rook : NONE;
    }

    int seat(int seat) {
        return noPlace(seat) ? UNKNOWN : seats.get(seat);
    }

    int exchange(int a, int b) {
        if (noPlace(a) || noPlace(b)) {
            return UNKNOWN;
        }
        Collections.swap(seats, a, b);
        return seats.get(a);
    }

    int twig(int rook, int v) {
        if (noPlace(rook)) {
            return UNKNOWN;
        }
        if (noWord(v)) {
            return OUTSIDE;
        }
        int was = birds.get(rook).twig;
        birds.get(rook).twig = v;
        return was;
    }

    int wind(int v) {
        if (!in(v, 0, 1)) {
            return OUTSIDE;
        }
        if (birds.isEmpty()) {
            return STATE;
        }
        int was = wind;
        wind = v;
        return was;
    }

    int comes(int seat, int motion) {
        return noPlace(seat) ? UNKNOWN : noWord(motion) ? OUTSIDE : outcome(seat, motion);
    }

    int sit(int seat, int motion) {
        if (noPlace(seat)) {
            return UNKNOWN;
        }
        if (noWord(motion)) {
            return OUTSIDE;
        }
        int came = outcome(seat, motion);
        if (came == motion) {
            int rook = seats.get(seat);
            pecks.set(rook, pecks.get(rook) + 1);
            return NONE;
        }
        laws.add(came);
        return came;
    }

    int where(int motion, int word) {
        if (noWord(motion, word)) {
            return OUTSIDE;
        }
        if (birds.isEmpty()) {
            return STATE;
        }
        int bits = 0;
        for (int seat = 0; seat < birds.size(); seat++) {
            bits += outcome(seat, motion) == word ? (int) Math.pow(2, seat) : 0;
        }
        return bits;
    }

    int can() {
        if (birds.isEmpty()) {
            return STATE;
        }
        TreeSet<Integer> words = new TreeSet<>();
        for (int seat = 0; seat < birds.size(); seat++) {
            for (int motion = 0; motion < 8; motion++) {
                int came = outcome(seat, motion);
                if (came != motion) {
                    words.add(came);
                }
            }
        }
        return words.stream().mapToInt(word -> (int) Math.pow(2, word)).sum();
    }

    int endless(int seat, int motion, int what) {
        if (noPlace(seat)) {
            return UNKNOWN;
        }
        if (noWord(motion) || !in(what, 0, 2)) {
            return OUTSIDE;
        }
        List<String> sittings = new ArrayList<>();
        int at = seat;
        int word = motion;
        while (!sittings.contains(at + ":" + word)) {
            sittings.add(at + ":" + word);
            int came = outcome(at, word);
            if (came == word) {
                return what == 2 ? sittings.size() : NONE;
            }
            word = came;
            at = (at + 1) % birds.size();
        }
        int first = sittings.indexOf(at + ":" + word);
        return what == 0 ? sittings.size() : what == 1 ? sittings.size() - first : NONE;
    }

    int seating(int motion, int word, int what) {
        if (noWord(motion, word) || !in(what, 0, 1)) {
            return OUTSIDE;
        }
        if (birds.isEmpty() || seatings == 20) {
            return STATE;
        }
        seatings++;
        TreeMap<Integer, Integer> ways = new TreeMap<>();
        for (Map.Entry<List<Integer>, Integer> reached : byExchanges().entrySet()) {
            List<Bird> round = new ArrayList<>();
            for (int rook : reached.getKey()) {
                round.add(birds.get(rook));
            }
            if (outcome(round, 0, motion, wind) == word) {
                ways.merge(reached.getValue(), 1, Integer::sum);
            }
        }
        if (ways.isEmpty()) {
            return NONE;
        }
        return what == 0 ? ways.firstKey() : ways.firstEntry().getValue();
    }

    private Map<List<Integer>, Integer> byExchanges() {
        Map<List<Integer>, Integer> steps = new HashMap<>();
        ArrayDeque<List<Integer>> open = new ArrayDeque<>();
        steps.put(List.copyOf(seats), 0);
        open.add(List.copyOf(seats));
        while (!open.isEmpty()) {
            List<Integer> from = open.poll();
            for (int a = 0; a < from.size(); a++) {
                for (int b = a + 1; b < from.size(); b++) {
                    List<Integer> to = new ArrayList<>(from);
                    Collections.swap(to, a, b);
                    if (steps.putIfAbsent(to, steps.get(from) + 1) == null) {
                        open.add(to);
                    }
                }
            }
        }
        return steps;
    }

    int nestlings(int set, int seat, int motion, int word, int part) {
        if (noPlace(seat)) {
            return UNKNOWN;
        }
        if (!in(set, 0, (int) Math.pow(2, birds.size()) - 1) || noWord(motion, word) || !in(part, 0, 1)) {
            return OUTSIDE;
        }
        Fraction chance = chance(round(), set, 0, seat, motion, word);
        return (part == 0 ? chance.above : chance.below).intValueExact();
    }

    private Fraction chance(List<Bird> round, int set, int next, int seat, int motion, int word) {
        if (next == round.size()) {
            boolean does = outcome(round, seat, motion, wind) == word;
            return new Fraction(does ? BigInteger.ONE : BigInteger.ZERO, BigInteger.ONE);
        }
        if (set / (int) Math.pow(2, next) % 2 == 0) {
            return chance(round, set, next + 1, seat, motion, word);
        }
        List<Bird> same = new ArrayList<>(round);
        same.set(next, bird(0, 0));
        List<Bird> turned = new ArrayList<>(round);
        turned.set(next, bird(1, 7));
        Fraction a = chance(same, set, next + 1, seat, motion, word);
        return a.plusHalfOf(a, chance(turned, set, next + 1, seat, motion, word));
    }

    int observe(int seat, int motion, int came) {
        if (noPlace(seat)) {
            return UNKNOWN;
        }
        if (noWord(motion, came)) {
            return OUTSIDE;
        }
        if (seen.size() == 8) {
            return FULL;
        }
        seen.add(new Seen(seat, motion, came));
        return seen.size();
    }

    int forget() {
        int were = seen.size();
        seen = new ArrayList<>();
        return were;
    }

    private List<Bird> with(int seat, Bird bird) {
        List<Bird> round = round();
        round.set(seat, bird);
        return round;
    }

    private TreeSet<Integer> guesses(int seat) {
        TreeSet<Integer> guesses = new TreeSet<>();
        for (int kind = 0; kind < 5; kind++) {
            for (int twig = 0; twig < 8; twig++) {
                List<Bird> round = with(seat, bird(kind, twig));
                if (seen.stream().allMatch(s -> outcome(round, s.seat, s.motion, wind) == s.came)) {
                    guesses.add(8 * kind + twig);
                }
            }
        }
        return guesses;
    }

    int guess(int seat, int what) {
        if (noPlace(seat)) {
            return UNKNOWN;
        }
        if (!in(what, 0, 1)) {
            return OUTSIDE;
        }
        TreeSet<Integer> guesses = guesses(seat);
        return what == 0 ? guesses.size() : guesses.isEmpty() ? NONE : guesses.first();
    }

    int caw(int seat) {
        if (noPlace(seat)) {
            return UNKNOWN;
        }
        TreeMap<Integer, Integer> leastByWorst = new TreeMap<>();
        TreeSet<Integer> guesses = guesses(seat);
        for (int motion = 0; motion < 8; motion++) {
            Map<Integer, Integer> left = new HashMap<>();
            for (int guess : guesses) {
                List<Bird> round = with(seat, bird(guess / 8, guess % 8));
                left.merge(outcome(round, seat, motion, wind), 1, Integer::sum);
            }
            if (!left.isEmpty()) {
                leastByWorst.putIfAbsent(Collections.max(left.values()), motion);
            }
        }
        return leastByWorst.isEmpty() ? NONE : leastByWorst.firstEntry().getValue();
    }

    int years(int sittings, int seed, int what) {
        if (!in(sittings, 1, 60) || seed < 0 || !in(what, 0, 2)) {
            return OUTSIDE;
        }
        if (birds.isEmpty()) {
            return STATE;
        }
        BigInteger now = BigInteger.valueOf(seed);
        List<Integer> made = new ArrayList<>();
        int blowing = wind;
        for (int sitting = 0; sitting < sittings; sitting++) {
            now = next(now);
            int seat = drawn(now, birds.size());
            now = next(now);
            int motion = drawn(now, 8);
            int came = outcome(round(), seat, motion, blowing);
            if (came == motion) {
                blowing = blowing == 0 ? 1 : 0;
            } else {
                made.add(came);
            }
        }
        return what == 0 ? made.size() : what == 1 ? last(made) : now.intValueExact();
    }

    private static int last(List<Integer> words) {
        return words.isEmpty() ? NONE : words.get(words.size() - 1);
    }

    private static BigInteger next(BigInteger seed) {
        BigInteger times = seed.multiply(BigInteger.valueOf(1103515245)).add(BigInteger.valueOf(12345));
        return times.mod(BigInteger.TWO.pow(31));
    }

    private static int drawn(BigInteger seed, int of) {
        return seed.divide(BigInteger.valueOf(65536)).mod(BigInteger.valueOf(of)).intValueExact();
    }

    int image() {
        if (birds.isEmpty()) {
            return STATE;
        }
        List<Integer> twigs = birds.stream().map(bird -> bird.twig).toList();
        image = new Image(List.copyOf(seats), twigs, List.copyOf(pecks), List.copyOf(seen), wind, List.copyOf(laws));
        return laws.size();
    }

    int restore() {
        if (image == null) {
            return STATE;
        }
        seats = new ArrayList<>(image.seats);
        pecks = new ArrayList<>(image.pecks);
        seen = new ArrayList<>(image.seen);
        laws = new ArrayList<>(image.laws);
        wind = image.wind;
        for (int rook = 0; rook < birds.size(); rook++) {
            birds.get(rook).twig = image.twigs.get(rook);
        }
        return laws.size();
    }

    int count(int what) {
        int pecked = pecks.stream().mapToInt(Integer::intValue).sum();
        int[] told = {birds.size(), wind, laws.size(), last(laws), pecked, seen.size(), page.length(), rings, seatings};
        return in(what, 0, told.length - 1) ? told[what] : OUTSIDE;
    }

    long digest() {
        List<Integer> numbers = new ArrayList<>();
        for (int rook = 0; rook < birds.size(); rook++) {
            for (int what = 0; what < 18; what++) {
                if (what < 4 || what > 9) {
                    numbers.add(about(rook, what));
                }
            }
        }
        for (int seat = 0; seat < birds.size(); seat++) {
            Collections.addAll(numbers, seat(seat), comes(seat, 0), comes(seat, 5), guess(seat, 0), guess(seat, 1),
                caw(seat));
        }
        if (!birds.isEmpty()) {
            numbers.add(can());
        }
        page.chars().forEach(numbers::add);
        for (int what = 0; what < 9; what++) {
            numbers.add(count(what));
        }
        BigInteger h = BigInteger.valueOf(797);
        for (int number : numbers) {
            h = h.multiply(BigInteger.valueOf(31)).add(BigInteger.valueOf(number));
        }
        return h.longValue();
    }
}

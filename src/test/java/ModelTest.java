import java.util.Random;

/** Runs of calls by seeds, each answered by the program and by the model; the first unlike one ends its run. */
public final class ModelTest {
    private static final int RUNS = 600;
    private static final int CALLS = 512;
    private static final int[] ODD = {-1, -2, 7, 8, 9, 18, 22, 60, 61, 63, 64, 126, 127, Integer.MIN_VALUE,
        Integer.MAX_VALUE};

    private final Random random;
    private final RookRing x = new RookRing();
    private final Model m = new Model();
    private final Checks checks;
    private final int run;
    private int calls;

    private ModelTest(int run, Checks checks) {
        this.run = run;
        // Random's first draws hardly differ for seeds close together.
        this.random = new Random(run * 0x9E3779B97F4A7C15L);
        this.checks = checks;
    }

    public static void main(String[] args) {
        Checks checks = new Checks();
        for (int run = 1; run <= RUNS; run++) {
            new ModelTest(run, checks).go();
        }
        checks.end();
    }

    private void go() {
        int before = checks.wrongSoFar();
        if (random.nextInt(8) != 0) {
            typeRing();
        }
        while (calls < CALLS - 25 && checks.wrongSoFar() == before) {
            step();
        }
        same("digest()", x.digest(), m.digest());
    }

    private void same(String call, long got, long want) {
        calls++;
        checks.due("run " + run + ", call " + calls + ": " + call, got, want);
    }

    private void step() {
        int dice = random.nextInt(100);
        if (dice < 2) {
            typeRing();
        } else if (dice < 4) {
            typeFaulty();
        } else if (dice < 30) {
            change();
        } else if (dice < 70) {
            wouldBe();
        } else if (dice < 90) {
            observed();
        } else {
            told();
        }
    }

    private String ringText() {
        StringBuilder text = new StringBuilder();
        int rooks = 3 + random.nextInt(4);
        String kinds = random.nextBoolean() ? "rtome" : random.nextBoolean() ? "mmmoe" : "rrtom";
        for (int rook = 0; rook < rooks; rook++) {
            text.append(rook == 0 ? "" : ",").append(kinds.charAt(random.nextInt(5))).append(random.nextInt(8));
        }
        return text.append(';').append(random.nextInt(2)).toString();
    }

    private void typeRing() {
        same("blank()", x.blank(), m.blank());
        type(ringText());
        same("fault()", x.fault(), m.fault());
        same("ring()", x.ring(), m.ring());
    }

    private void typeFaulty() {
        StringBuilder text = new StringBuilder(ringText());
        int place = random.nextInt(text.length());
        char letter = "rtome01278,; RAx~".charAt(random.nextInt(17));
        switch (random.nextInt(4)) {
            case 0 -> text.setCharAt(place, letter);
            case 1 -> text.insert(place, letter);
            case 2 -> text.deleteCharAt(place);
            default -> text.append(letter);
        }
        if (random.nextInt(3) != 0) {
            same("blank()", x.blank(), m.blank());
        }
        type(text.toString());
        same("fault()", x.fault(), m.fault());
        same("ring()", x.ring(), m.ring());
    }

    private void type(String text) {
        for (int i = 0; i < text.length(); i++) {
            int code = text.charAt(i);
            same("letter(" + code + ")", x.letter(code), m.letter(code));
        }
    }

    /** Mostly below the bound, now and then just at it, rarely far off. */
    private int number(int bound) {
        int dice = random.nextInt(30);
        return dice == 0 ? ODD[random.nextInt(ODD.length)] : dice == 1 ? bound : random.nextInt(bound);
    }

    private int place() {
        return number(Math.max(1, x.count(0)));
    }

    private void change() {
        int a = place();
        int b = place();
        int v = number(8);
        switch (random.nextInt(9)) {
            case 0 -> same("exchange(" + a + ", " + b + ")", x.exchange(a, b), m.exchange(a, b));
            case 1 -> same("twig(" + a + ", " + v + ")", x.twig(a, v), m.twig(a, v));
            case 2 -> same("wind(" + v % 3 + ")", x.wind(v % 3), m.wind(v % 3));
            case 3 -> same("image()", x.image(), m.image());
            case 4 -> same("restore()", x.restore(), m.restore());
            case 5 -> same("letter(" + v + ")", x.letter(v), m.letter(v));
            default -> same("sit(" + a + ", " + v + ")", x.sit(a, v), m.sit(a, v));
        }
    }

    private void wouldBe() {
        int a = place();
        int v = number(8);
        int w = number(8);
        int what = number(3);
        int set = number(1 << x.count(0));
        switch (random.nextInt(7)) {
            case 0 -> same("comes(" + a + ", " + v + ")", x.comes(a, v), m.comes(a, v));
            case 1 -> same("where(" + v + ", " + w + ")", x.where(v, w), m.where(v, w));
            case 2 -> same("can()", x.can(), m.can());
            case 3 -> same("endless(" + a + ", " + v + ", " + what + ")", x.endless(a, v, what), m.endless(a, v, what));
            case 4 -> same("seating(" + v + ", " + w + ", " + what + ")", x.seating(v, w, what), m.seating(v, w, what));
            default -> same("nestlings(" + set + ", " + a + ", " + v + ", " + w + ", " + what + ")",
                x.nestlings(set, a, v, w, what), m.nestlings(set, a, v, w, what));
        }
    }

    private void observed() {
        int a = place();
        int v = number(8);
        int what = number(2);
        // What came is mostly what would, or nobody could ever sit there.
        int came = random.nextInt(4) == 0 ? number(8) : m.comes(a, v);
        int seed = random.nextInt(20) == 0 ? ODD[random.nextInt(ODD.length)] : random.nextInt(Integer.MAX_VALUE);
        int sittings = 1 + number(60);
        switch (random.nextInt(12)) {
            case 0 -> same("forget()", x.forget(), m.forget());
            case 1, 2, 3 -> same("observe(" + a + ", " + v + ", " + came + ")", x.observe(a, v, came),
                m.observe(a, v, came));
            case 4, 5, 6 -> same("guess(" + a + ", " + what + ")", x.guess(a, what), m.guess(a, what));
            case 7, 8, 9 -> same("caw(" + a + ")", x.caw(a), m.caw(a));
            default -> same("years(" + sittings + ", " + seed + ", " + v % 4 + ")", x.years(sittings, seed, v % 4),
                m.years(sittings, seed, v % 4));
        }
    }

    private void told() {
        int a = place();
        int kind = number(5);
        int what = number(18);
        int which = number(9);
        switch (random.nextInt(6)) {
            case 0 -> same("about(" + a + ", " + what + ")", x.about(a, what), m.about(a, what));
            case 1 -> same("as(" + a + ", " + kind + ")", x.as(a, kind), m.as(a, kind));
            case 2 -> same("seat(" + a + ")", x.seat(a), m.seat(a));
            case 3 -> same("count(" + which + ")", x.count(which), m.count(which));
            case 4 -> same("fault()", x.fault(), m.fault());
            default -> same("digest()", x.digest(), m.digest());
        }
    }
}

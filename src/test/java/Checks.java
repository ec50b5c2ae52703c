/** Counts answers that are not as due; every test of the project ends with its end(). */
final class Checks {
    private int wrong;
    private int checked;

    void due(String what, long got, long want) {
        checked++;
        if (got != want) {
            tell(what + " answered " + got + ", due is " + want);
        }
    }

    void holds(String what, boolean truth) {
        checked++;
        if (!truth) {
            tell(what);
        }
    }

    int wrongSoFar() {
        return wrong;
    }

    private void tell(String line) {
        wrong++;
        System.out.println(line);
    }

    void end() {
        System.out.println(checked + " checked, " + wrong + " wrong");
        if (wrong > 0) {
            System.exit(1);
        }
    }

    static void type(RookRing x, String text) {
        for (int i = 0; i < text.length(); i++) {
            x.letter(text.charAt(i));
        }
    }

    static RookRing ringOf(String text) {
        RookRing x = new RookRing();
        type(x, text);
        x.ring();
        return x;
    }
}

import java.util.NoSuchElementException;

/** What the tests share: answers against what is due, texts as bytes, runs of calls written shortly. */
final class Due {
    static final int NONE = DiceLaw.NONE;
    static final int HIDDEN = DiceLaw.HIDDEN;

    private static int asked = 0;
    private static int wrong = 0;
    private static int typed = 0;

    private Due() {
    }

    static void is(String what, long got, long want) {
        asked++;
        if (got != want) {
            wrong++;
            System.out.println(what + ": answered " + got + ", due is " + want);
        }
    }

    /** How many calls were made so far, if each answer was asked for by one: an object is used for 512 at most. */
    static int calls() {
        return asked + typed;
    }

    static void is(String what, boolean got, boolean want) {
        is(what, got ? 1 : 0, want ? 1 : 0);
    }

    static void throwsNoSuchElement(String what, DiceLaw x, int law, int face) {
        boolean thrown = false;
        try {
            x.clause(law, face);
        } catch (NoSuchElementException e) {
            thrown = true;
        }
        is(what + " throws NoSuchElementException", thrown, true);
    }

    /** Puts these bytes, none of them 0, on the emptied TAPE. */
    static void type(DiceLaw x, String text) {
        x.end(0);
        typed++;
        for (int i = 0; i < text.length(); i += 20) {
            typed++;
            String piece = text.substring(i, Math.min(text.length(), i + 20));
            x.feed(number(piece, 0), number(piece, 4), number(piece, 8), number(piece, 12), number(piece, 16));
        }
    }

    private static int number(String text, int from) {
        int number = 0;
        for (int i = from; i < from + 4; i++) {
            number = number << 8 | (i < text.length() ? text.charAt(i) : 0);
        }
        return number;
    }

    static DiceLaw with(String... laws) {
        DiceLaw x = new DiceLaw();
        for (String law : laws) {
            type(x, law);
            if (x.text(0) == NONE) {
                throw new AssertionError("no LAW: " + law);
            }
        }
        return x;
    }

    static int rule(DiceLaw x, String rule) {
        type(x, rule);
        typed++;
        return x.text(1);
    }

    /** The FAULT of a text as a LAW (0) or a RULE (1). */
    static int fault(int sort, String text) {
        DiceLaw x = new DiceLaw();
        type(x, text);
        return x.fault(sort);
    }

    static void fraction(String what, long above, long below, long wantAbove, long wantBelow) {
        is(what + " above", above, wantAbove);
        is(what + " below", below, wantBelow);
    }

    static void close(String test) {
        System.out.println(test + ": " + asked + " answers, " + wrong + " not as due");
        if (wrong != 0) {
            System.exit(1);
        }
    }
}

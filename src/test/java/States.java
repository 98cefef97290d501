import java.util.function.Supplier;

/**
 * Objects in several states, always made alike, and all that can be asked of one. An object is used for at most 512
 * calls: making one of these and asking it either half takes fewer.
 */
final class States {
    /** Nothing was ever told. */
    static final Supplier<DiceLaw> FRESH = DiceLaw::new;
    /** Two LAWS, nothing else, no IMAGE. */
    static final Supplier<DiceLaw> TWO_LAWS = () -> Due.with("ma,na,oa,y,t1,c1", "na,ob,ma,t0,.,mb");
    /** Something of everything; four DAWNS, another state in the IMAGE. */
    static final Supplier<DiceLaw> BUSY = States::busy;
    /** Everything to the brim: five LAWS, four RULES, 120 bytes, 40 DAWNS, 60 DEEDS. */
    static final Supplier<DiceLaw> FULL = States::full;

    private static final String BRIM = "y:1;y:2;y:3;y:4;y:5;";

    private States() {
    }

    private static DiceLaw busy() {
        DiceLaw x = TWO_LAWS.get();
        x.weigh(0, 1, 3, 2, 2, 2, 2);
        x.weigh(1, 1, 1, 1, 1, 1, 7);
        Due.rule(x, "y:l=1&w>1?1;y:d");
        Due.rule(x, "y:t-1");
        x.suspect(6, 2, 2, 2, 0, 0);
        x.seed(7);
        x.dawn();
        x.act(3, 3, 0);
        x.image();
        x.weigh(0, 2, 2, 2, 2, 2, 2);
        x.amend(1, 3, 30);
        x.dawn();
        x.told(6 * 2 + 0);
        x.told(6 * 2 + 3);
        x.act(0, 0, 2);
        x.act(5, 1, 3);
        Due.type(x, "y:1;y");
        return x;
    }

    private static DiceLaw full() {
        DiceLaw x = Due.with("ma,na,oa,.,mb,y", "na,ob,ma,t0,.,mb", "oc,nc,mc,.,y,t4", ".,.,na,nb,ma,c0",
                "mb,.,.,of,od,nf");
        for (int law = 0; law < 5; law++) {
            x.weigh(law, 1, 2, 3, 1, 2, 3);
        }
        String[] rules = {"y:l", "y:w-1", "y:m>n?1;y:0", "y:!t=3?d"};
        for (String rule : rules) {
            Due.rule(x, rule);
        }
        x.suspect(6, 2, 1, 1, 1, 1);
        x.seed(-5);
        for (int day = 0; day < 20; day++) {
            x.dawn();
        }
        x.image();
        for (int day = 20; day < 40; day++) {
            x.told(389 * (day - 20));
        }
        for (int i = 0; i < 60; i++) {
            x.act(i % 6, i / 10, i % 40);
        }
        for (int i = 0; i < 6; i++) {
            x.feed(0x793A313B, 0x793A323B, 0x793A333B, 0x793A343B, 0x793A353B);
        }
        return x;
    }

    /** The bytes that stand on the TAPE of FULL. */
    static String brim() {
        return BRIM.repeat(6);
    }

    /**
     * The answers of calls of every kind: the first half those that only ask, the second one those that change
     * something; the object is of no use then.
     */
    static String answers(DiceLaw x, int half) {
        StringBuilder s = new StringBuilder();
        if (half == 0) {
            counts(x, s);
            laws(x, s);
            diary(x, s);
            suits(x, s);
            tomorrow(x, s);
            return s.toString();
        }
        if (x.count(0) > 0) {
            asked(x, s);
            draws(x, s);
        }
        acts(x, s);
        image(x, s);
        return s.toString();
    }

    private static void note(StringBuilder s, String what, long answer) {
        s.append(what).append(" is ").append(answer).append('\n');
    }

    private static void counts(DiceLaw x, StringBuilder s) {
        for (int what = 0; what < 5; what++) {
            note(s, "count " + what, x.count(what));
        }
        note(s, "FAULT as a LAW", x.fault(0));
        note(s, "FAULT as a RULE", x.fault(1));
    }

    private static void laws(DiceLaw x, StringBuilder s) {
        int cells = 6 * x.count(0);
        for (int cell = 0; cell < cells; cell++) {
            note(s, "clause " + cell, x.clause(cell / 6, cell % 6));
            note(s, "weight " + cell, x.weight(cell / 6, cell % 6));
        }
    }

    private static void diary(DiceLaw x, StringBuilder s) {
        int laws = x.count(0);
        int days = x.count(3);
        int rules = x.count(1);
        for (int day = 0; day < days; day++) {
            note(s, "day " + day, x.day(day, 0));
            note(s, "again on " + day, x.day(day, 1));
            note(s, "held on " + day, x.held(day % laws, day));
        }
        for (int rule = 0; rule < rules; rule++) {
            for (int what = 0; what < 3; what++) {
                note(s, "follow " + rule + " " + what, x.follow(rule, 0, what));
            }
        }
        note(s, "peace", x.peace(0));
        note(s, "busiest", x.busiest());
    }

    private static void suits(DiceLaw x, StringBuilder s) {
        for (int person = 0; person < 6; person++) {
            int many = x.suit(person, -1);
            note(s, "suits of " + person, many);
            note(s, "the last suit of " + person, x.suit(person, many - 1));
            note(s, "idle " + person, x.idle(person));
        }
    }

    private static void tomorrow(DiceLaw x, StringBuilder s) {
        for (int deed = 0; deed < 6; deed++) {
            note(s, "odds of " + deed, x.odds(deed, 0, 0));
            note(s, "odds below of " + deed, x.odds(deed, 0, 1));
        }
        note(s, "free", x.free(0));
    }

    /** The WEIGHTS that are asked: by a DAWN as told on each FACE of DIE 0. */
    private static void asked(DiceLaw x, StringBuilder s) {
        int latest = x.day(x.count(3) - 1, 0);
        boolean full = x.count(3) == 40;
        if (full) {
            x.undo();
        }
        int laws = x.count(0);
        int one = 1;
        for (int law = 1; law < laws; law++) {
            one *= 6;
        }
        for (int face = 0; face < 6; face++) {
            x.told(face * one);
            note(s, "asked " + face, x.named(0, 1, 1) * 100 + x.named(0, 1, 2) * 10 + x.named(0, 1, 3));
            x.undo();
        }
        if (full) {
            x.told(latest);
        }
    }

    /** Where the draws stand: two DAWNS tell. */
    private static void draws(DiceLaw x, StringBuilder s) {
        if (x.count(3) == 40) {
            x.undo();
            x.undo();
        }
        for (int i = 0; i < 2; i++) {
            int days = x.dawn();
            note(s, "dawn", days);
            note(s, "drawn", x.day(days - 1, 0));
        }
        note(s, "undo", x.undo());
        note(s, "undo", x.undo());
        // and where they stood ahead of the latest DAWN
        note(s, "undo one more", x.undo());
        int days = x.dawn();
        note(s, "drawn again", x.day(days - 1, 0));
        note(s, "thrown again", x.day(days - 1, 1));
    }

    /** Which DEEDS were done: those are not done once more. */
    private static void acts(DiceLaw x, StringBuilder s) {
        for (int i = 0; i < 36; i++) {
            note(s, "act " + i, x.act(i % 6, i / 6, i % 4));
        }
    }

    private static void image(DiceLaw x, StringBuilder s) {
        int days = x.back();
        note(s, "back", days);
        counts(x, s);
        if (days > 0) {
            note(s, "weight then", x.weight(0, 0));
            note(s, "the last day then", x.day(days - 1, 0));
            note(s, "dawn then", x.dawn());
            note(s, "drawn then", x.day(days, 0));
        }
    }
}

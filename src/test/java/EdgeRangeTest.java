import java.util.Arrays;
import java.util.function.Supplier;

/**
 * How far each number of each call may go: the least and the greatest are taken, those beyond them are refused as
 * told, and a refused call changes nothing; nor does one that only asks. In several states.
 */
public final class EdgeRangeTest {
    private static final int NONE = DiceLaw.NONE;
    private static final int HIDDEN = DiceLaw.HIDDEN;
    private static final int[] LAW = {0, 1};
    private static final int[] FACE = {0, 5};
    private static final int[] DEED = {0, 5};
    private static final int[] PERSON = {0, 5};
    private static final int[] DAY = {0, 3};
    private static final int[] PART = {0, 1};
    private static final int[] TWO = {0, 1};
    private static final Supplier<DiceLaw> BUSY = States.BUSY;
    private static final Supplier<DiceLaw> FULL = States.FULL;

    private static int[] row(int... v) {
        return v;
    }

    private static void texts() {
        Edge.of("P3", "False: n.");
        Edge.does("end", BUSY, 0, (x, v) -> x.end(v[0]) ? 1 : 0, row(2), row(0, 5));
        Edge.does("end", FULL, 0, (x, v) -> x.end(v[0]) ? 1 : 0, row(2), row(0, 120));
        Edge.does("end", States.FRESH, 0, (x, v) -> x.end(v[0]) ? 1 : 0, row(0), row(0, 0));
        Edge.of("P4", "-2: no such sort.");
        Edge.asks("fault", BUSY, -2, (x, v) -> x.fault(v[0]), row(0), row(0, 1));
        Edge.asks("fault", FULL, -2, (x, v) -> x.fault(v[0]), row(0), row(0, 1));
        Edge.asks("fault", States.FRESH, -2, (x, v) -> x.fault(v[0]), row(0), row(0, 1));
        Edge.of("P6", "NoSuchElementException: no such ones.");
        Edge.asks("clause", BUSY, Edge.THROWS, (x, v) -> Edge.clause(x, v[0], v[1]), row(1, 2), LAW, FACE);
        Edge.asks("clause", FULL, Edge.THROWS, (x, v) -> Edge.clause(x, v[0], v[1]), row(1, 2), row(0, 4), FACE);
        Edge.refused("clause without LAWS", States.FRESH, Edge.THROWS, x -> Edge.clause(x, 0, 0));
        Edge.of("P8", "NONE: no such ones.");
        Edge.asks("weight", BUSY, NONE, (x, v) -> x.weight(v[0], v[1]), row(1, 2), LAW, FACE);
        Edge.asks("weight", FULL, NONE, (x, v) -> x.weight(v[0], v[1]), row(1, 2), row(0, 4), FACE);
        Edge.refused("weight without LAWS", States.FRESH, NONE, x -> x.weight(0, 0));
    }

    private static long weigh(DiceLaw x, int[] v) {
        return x.weigh(v[0], v[1], v[2], v[3], v[4], v[5], v[6]) ? 1 : 0;
    }

    private static long suspect(DiceLaw x, int[] v) {
        return x.suspect(v[0], v[1], v[2], v[3], v[4], v[5]) ? 1 : 0;
    }

    private static void weights() {
        Edge.of("P7", "False: no such one, out of bounds, not 12 together.");
        Edge.does("weigh", BUSY, 0, EdgeRangeTest::weigh, row(0, 2, 2, 2, 2, 2, 2), LAW);
        Edge.does("weigh", FULL, 0, EdgeRangeTest::weigh, row(0, 2, 2, 2, 2, 2, 2), row(0, 4));
        Edge.refused("weigh without LAWS", States.FRESH, 0, x -> weigh(x, row(0, 2, 2, 2, 2, 2, 2)));
        for (int face = 0; face < 6; face++) {
            weighed(face);
        }
        Edge.of("P26", "False: out of bounds, not 12 together.");
        for (int face = 0; face < 6; face++) {
            suspected(face);
        }
    }

    private static int[] sixWith(int face, int weight, int next) {
        int[] v = new int[6];
        v[face] = weight;
        v[(face + 1) % 6] = next;
        return v;
    }

    /** No more than 12 each and 12 together, but one is below 0. */
    private static int[] minusOne(int face) {
        int[] v = sixWith(face, -1, 12);
        v[(face + 2) % 6] = 1;
        return v;
    }

    /** 12 on one FACE is taken; 13 there is not, nor is it less than 0, nor are 11 or 13 together. */
    private static int[][] wrongOn(int face) {
        return new int[][] {sixWith(face, 13, -1), sixWith(face, -1, 13), sixWith(face, 11, 0), sixWith(face, 12, 1),
            sixWith(face, 13, 0), sixWith(face, -1, 12), minusOne(face),
            sixWith(face, Integer.MAX_VALUE, -Integer.MAX_VALUE + 12),
            sixWith(face, Integer.MIN_VALUE, Integer.MIN_VALUE + 12)};
    }

    private static void weighed(int face) {
        int[][] taken = {sixWith(face, 12, 0), sixWith(face, 11, 1)};
        for (int[] w : taken) {
            DiceLaw x = BUSY.get();
            Edge.is("all on FACE " + face, x.weigh(1, w[0], w[1], w[2], w[3], w[4], w[5]), true);
            for (int i = 0; i < 6; i++) {
                Edge.is("then on FACE " + i, x.weight(1, i), w[i]);
            }
        }
        for (int[] w : wrongOn(face)) {
            int[] v = {1, w[0], w[1], w[2], w[3], w[4], w[5]};
            Edge.refused("weigh " + Arrays.toString(v), BUSY, 0, x -> weigh(x, v));
        }
    }

    private static void suspected(int face) {
        int[][] taken = {sixWith(face, 12, 0), sixWith(face, 11, 1)};
        for (int[] w : taken) {
            DiceLaw x = Due.with(".,.,.,.,.,.");
            Edge.is("all on FACE " + face, suspect(x, w) == 1, true);
            x.told(face);
            Edge.is("so much on FACE " + face, x.named(0, 1, w[face] / 2), 1);
            Edge.is("no more on FACE " + face, x.named(0, 1, w[face] / 2 + 1), 0);
        }
        for (int[] w : wrongOn(face)) {
            Edge.refused("suspect " + Arrays.toString(w), BUSY, 0, x -> suspect(x, w));
        }
        Edge.refused("suspect", States.FRESH, 0, x -> suspect(x, sixWith(face, 13, -1)));
    }

    private static void days() {
        Edge.of("P11", "NONE: no such FACES, no LAWS, there are 40.");
        Edge.does("told", BUSY, NONE, (x, v) -> x.told(v[0]), row(1), row(0, 35));
        Edge.does("told", () -> Due.with(".,.,.,.,.,."), NONE, (x, v) -> x.told(v[0]), row(1), row(0, 5));
        Edge.outside("told", States.FRESH, NONE, (x, v) -> x.told(v[0]), row(1), row(0, 35));
        Edge.refused("told without LAWS", States.FRESH, NONE, x -> x.told(0));
        Edge.of("P13", "NONE: no such ones.");
        Edge.asks("day", BUSY, NONE, (x, v) -> x.day(v[0], v[1]), row(1, 0), DAY, TWO);
        Edge.asks("day", FULL, NONE, (x, v) -> x.day(v[0], v[1]), row(1, 0), row(0, 39), TWO);
        Edge.refused("day without DAWNS", States.TWO_LAWS, NONE, x -> x.day(0, 0));
        Edge.refused("day without LAWS", States.FRESH, NONE, x -> x.day(0, 1));
        Edge.of("P14", "NONE: no such ones.");
        Edge.asks("held", BUSY, NONE, (x, v) -> x.held(v[0], v[1]), row(1, 1), LAW, DAY);
        Edge.asks("held", FULL, NONE, (x, v) -> x.held(v[0], v[1]), row(1, 1), row(0, 4), row(0, 39));
        Edge.refused("held without DAWNS", States.TWO_LAWS, NONE, x -> x.held(0, 0));
        Edge.of("P15", "NONE: no such ones.");
        Edge.Asked deed = (x, v) -> x.deed(v[0], v[1], v[2]);
        Edge.asks("deed", BUSY, NONE, deed, row(1, 1, 1), DEED, DAY, row(0, 4));
        Edge.asks("deed", FULL, NONE, deed, row(1, 1, 1), DEED, row(0, 39), row(0, 4));
        Edge.refused("deed without DAWNS", States.TWO_LAWS, NONE, x -> x.deed(0, 0, 0));
    }

    private static void odds() {
        Edge.of("P16", "NONE: no such ones, no LAWS.");
        Edge.Asked odds = (x, v) -> x.odds(v[0], v[1], v[2]);
        Edge.asks("odds", BUSY, NONE, odds, row(1, 1, 1), DEED, row(0, 2), PART);
        Edge.refused("odds without LAWS", States.FRESH, NONE, x -> x.odds(0, 0, 0));
        Edge.of("P17", "NONE likewise, alike.");
        Edge.Asked both = (x, v) -> x.both(v[0], v[1], v[2]);
        Edge.asks("both", BUSY, NONE, both, row(2, 3, 0), DEED, DEED, PART);
        Edge.refused("both without LAWS", States.FRESH, NONE, x -> x.both(0, 1, 0));
        for (int deed = 0; deed < 6; deed++) {
            int d = deed;
            Edge.refused("both of " + d + " and itself", BUSY, NONE, x -> x.both(d, d, 0));
        }
        Edge.of("P18", "NONE: no LAWS, no such part.");
        Edge.asks("free", BUSY, NONE, (x, v) -> x.free(v[0]), row(0), PART);
        Edge.refused("free without LAWS", States.FRESH, NONE, x -> x.free(1));
        Edge.of("P19", "NONE: no such ones.");
        Edge.Asked holds = (x, v) -> x.holds(v[0], v[1], v[2]);
        Edge.asks("holds", BUSY, NONE, holds, row(1, 10, 0), LAW, row(10, 15), PART);
        Edge.asks("holds", BUSY, NONE, holds, row(1, 20, 0), LAW, row(20, 25), PART);
        Edge.asks("holds", BUSY, NONE, holds, row(1, 30, 0), LAW, row(30, 35), PART);
        Edge.asks("holds", BUSY, NONE, holds, row(1, 0, 0), LAW, row(0, 0), PART);
        Edge.refused("holds without LAWS", States.FRESH, NONE, x -> x.holds(0, 0, 0));
        Edge.of("P20", "NONE: no LAWS, no such ones.");
        Edge.asks("again", BUSY, NONE, (x, v) -> x.again(v[0], v[1]), row(1, 1), row(0, 3), PART);
        Edge.refused("again without LAWS", States.FRESH, NONE, x -> x.again(0, 1));
        Edge.of("P21", "NONE: no LAWS, no such what.");
        Edge.asks("sure", BUSY, NONE, (x, v) -> x.sure(v[0]), row(0), TWO);
        Edge.refused("sure without LAWS", States.FRESH, NONE, x -> x.sure(0));
    }

    private static void waiting() {
        Edge.of("P22", "NONE: no such ones, no LAWS.");
        Edge.asks("waits", BUSY, NONE, (x, v) -> x.waits(v[0], v[1]), row(1, 1), DEED, row(1, 60));
        Edge.refused("waits without LAWS", States.FRESH, NONE, x -> x.waits(0, 1));
        Edge.of("P23", "HIDDEN: no such ones, no LAWS.");
        Edge.Asked value = (x, v) -> x.value(v[0], v[1], v[2], v[3]);
        Edge.asks("value", BUSY, HIDDEN, value, row(1, 1, 1, 1), DEED, row(1, 60), row(0, 999), row(0, 99));
        Edge.refused("value without LAWS", States.FRESH, HIDDEN, x -> x.value(0, 1, 0, 0));
    }

    private static void deeds() {
        Edge.of("P24", "NONE: no such ones, it did, there are 60.");
        Edge.does("act", BUSY, NONE, (x, v) -> x.act(v[0], v[1], v[2]), row(1, 2, 3), PERSON, DEED, DAY);
        Edge.refused("act without DAWNS", States.TWO_LAWS, NONE, x -> x.act(0, 0, 0));
        Edge.refused("act without LAWS", States.FRESH, NONE, x -> x.act(0, 0, 0));
        Edge.of("P25", "NONE: no such ones.");
        int many = BUSY.get().suit(2, NONE);
        Edge.is("there are some", many > 1, true);
        Edge.asks("suit", BUSY, NONE, (x, v) -> x.suit(v[0], v[1]), row(2, 0), PERSON, row(NONE, many - 1));
        Edge.asks("suit", States.FRESH, NONE, (x, v) -> x.suit(v[0], v[1]), row(2, NONE), PERSON, row(NONE, NONE));
        Edge.of("P27", "NONE: no such ones (more than there are DAWNS, too).");
        Edge.Asked named = (x, v) -> x.named(v[0], v[1], v[2]);
        Edge.asks("named", BUSY, NONE, named, row(1, 1, 1), LAW, row(1, 4), row(1, 1000));
        Edge.asks("named", FULL, NONE, named, row(1, 1, 1), row(0, 4), row(1, 15), row(1, 1000));
        Edge.refused("named without DAWNS", States.TWO_LAWS, NONE, x -> x.named(0, 1, 1));
        Edge.refused("named without LAWS", States.FRESH, NONE, x -> x.named(0, 1, 1));
        Edge.of("P28", "NONE: none to 15, no such ones.");
        Edge.asks("enough", EdgeRangeTest::named, NONE, (x, v) -> x.enough(v[0], v[1]), row(1, 1), LAW, row(1, 1000));
        Edge.refused("enough without DAWNS", States.TWO_LAWS, NONE, x -> x.enough(0, 1));
        Edge.refused("enough without LAWS", States.FRESH, NONE, x -> x.enough(0, 1));
        Edge.of("P41", "NONE: no such one.");
        Edge.asks("idle", BUSY, NONE, (x, v) -> x.idle(v[0]), row(1), PERSON);
        Edge.asks("idle", States.FRESH, NONE, (x, v) -> x.idle(v[0]), row(1), PERSON);
    }

    /** Both DICE are named by four DAWNS at a DOUBT of 1,000. */
    private static DiceLaw named() {
        DiceLaw x = States.TWO_LAWS.get();
        x.suspect(12, 0, 0, 0, 0, 0);
        for (int i = 0; i < 4; i++) {
            x.told(0);
        }
        return x;
    }

    private static void amendments() {
        Edge.of("P29", "False: no such ones.");
        Edge.does("amend", BUSY, 0, (x, v) -> x.amend(v[0], v[1], v[2]) ? 1 : 0, row(1, 1, 60), LAW, FACE);
        Edge.refused("amend without LAWS", States.FRESH, 0, x -> x.amend(0, 0, 0) ? 1 : 0);
        Edge.of("P30", "HIDDEN: no such ones.");
        Edge.Asked amended = (x, v) -> x.amended(v[0], v[1], v[2], v[3]);
        Edge.asks("amended", BUSY, HIDDEN, amended, row(1, 1, 60, 1), LAW, FACE, row(60, 60), DEED);
        Edge.refused("amended without LAWS", States.FRESH, HIDDEN, x -> x.amended(0, 0, 0, 0));
        for (int clause = -1; clause <= 70; clause++) {
            clause(clause);
        }
        Edge.of("P31", "HIDDEN: no LAWS, no such ones.");
        Edge.asks("help", BUSY, HIDDEN, (x, v) -> x.help(v[0], v[1]), row(1, 1), DEED, TWO);
        Edge.refused("help without LAWS", States.FRESH, HIDDEN, x -> x.help(0, 0));
        Edge.of("P32", "NONE: no such ones.");
        Edge.Asked follow = (x, v) -> x.follow(v[0], v[1], v[2]);
        Edge.asks("follow", BUSY, NONE, follow, row(1, 1, 1), row(0, 1), DEED, row(0, 2));
        Edge.asks("follow", FULL, NONE, follow, row(1, 1, 1), row(0, 3), DEED, row(0, 2));
        Edge.refused("follow without RULES", States.TWO_LAWS, NONE, x -> x.follow(0, 0, 0));
        Edge.of("P38", "HIDDEN: no such ones, alike, there is no WEIGHT on the first.");
        Edge.Asked change = (x, v) -> x.change(v[0], v[1], v[2], v[3]);
        Edge.asks("change", BUSY, HIDDEN, change, row(1, 2, 3, 1), LAW, FACE, FACE, DEED);
        Edge.refused("change without LAWS", States.FRESH, HIDDEN, x -> x.change(0, 0, 1, 0));
        for (int face = 0; face < 6; face++) {
            int f = face;
            Edge.refused("change of " + f + " and itself", BUSY, HIDDEN, x -> x.change(1, f, f, 0));
        }
    }

    private static boolean thereIs(int clause) {
        int of = clause % 10;
        boolean deeds = clause >= 10 && clause < 40 && of < 6;
        boolean laws = clause >= 40 && clause < 60 && of < 5;
        return clause == 0 || clause == 60 || deeds || laws;
    }

    /** Each number as a CLAUSE: taken, if there is such a one, else refused by all calls that take one. */
    private static void clause(int clause) {
        if (thereIs(clause)) {
            DiceLaw x = BUSY.get();
            Edge.of("P29", "A FACE has another CLAUSE (as clause(), all that there are).");
            Edge.is("amend to " + clause, x.amend(1, 2, clause), true);
            Edge.is("it is " + clause, x.clause(1, 2), clause);
            Edge.of("P30", "AMENDED so, apart: by how many (may be below 0).");
            Edge.is("amended to " + clause, BUSY.get().amended(1, 2, clause, 0) != HIDDEN, true);
        } else {
            Edge.of("P29", "False: no such ones.");
            Edge.refused("amend to " + clause, BUSY, 0, x -> x.amend(1, 2, clause) ? 1 : 0);
            Edge.of("P30", "HIDDEN: no such ones.");
            Edge.refused("amended to " + clause, BUSY, HIDDEN, x -> x.amended(1, 2, clause, 0));
        }
        if (thereIs(clause) && clause < 40) {
            Edge.of("P19", "HOLDS (clause as clause(): 0, 10 .. 35 those that there are).");
            Edge.is("holds " + clause, BUSY.get().holds(1, clause, 1) != NONE, true);
        } else {
            Edge.of("P19", "NONE: no such ones.");
            Edge.refused("holds " + clause, BUSY, NONE, x -> x.holds(1, clause, 1));
        }
    }

    private static void farClauses() {
        int[] far = {Integer.MIN_VALUE, Integer.MAX_VALUE, -10, -20, -40, 100, 110, 256, 1000};
        for (int clause : far) {
            Edge.of("P19", "NONE: no such ones.");
            Edge.refused("holds " + clause, BUSY, NONE, x -> x.holds(1, clause, 0));
            Edge.of("P29", "False: no such ones.");
            Edge.refused("amend to " + clause, BUSY, 0, x -> x.amend(1, 2, clause) ? 1 : 0);
            Edge.of("P30", "HIDDEN: no such ones.");
            Edge.refused("amended to " + clause, BUSY, HIDDEN, x -> x.amended(1, 2, clause, 0));
        }
    }

    private static void given() {
        Edge.of("P33", "NONE: no such ones, it never lies so in the end.");
        Edge.Asked given = (x, v) -> x.given(v[0], v[1], v[2], v[3]);
        Edge.asks("given", BUSY, NONE, given, row(1, 1, 1, 1), LAW, FACE, DEED, PART);
        Edge.refused("given without LAWS", States.FRESH, NONE, x -> x.given(0, 0, 0, 0));
        Edge.of("P34", "NONE: no LAWS, no such DEED.");
        Edge.asks("harm", BUSY, NONE, (x, v) -> x.harm(v[0]), row(1), DEED);
        Edge.refused("harm without LAWS", States.FRESH, NONE, x -> x.harm(0));
        Edge.of("P35", "NONE: no LAWS, no such what.");
        Edge.asks("likeliest", BUSY, NONE, (x, v) -> x.likeliest(v[0]), row(1), TWO);
        Edge.refused("likeliest without LAWS", States.FRESH, NONE, x -> x.likeliest(1));
        Edge.of("P36", "NONE: no LAWS, no such ones, alike.");
        Edge.asks("apart", BUSY, NONE, (x, v) -> x.apart(v[0], v[1]), row(2, 3), DEED, DEED);
        Edge.refused("apart without LAWS", States.FRESH, NONE, x -> x.apart(0, 1));
        for (int deed = 0; deed < 6; deed++) {
            int d = deed;
            Edge.refused("apart of " + d + " and itself", BUSY, NONE, x -> x.apart(d, d));
        }
        Edge.of("P37", "NONE: no LAWS, no such part.");
        Edge.asks("mean", BUSY, NONE, (x, v) -> x.mean(v[0]), row(1), PART);
        Edge.refused("mean without LAWS", States.FRESH, NONE, x -> x.mean(0));
    }

    private static void told() {
        Edge.of("P39", "HIDDEN: no such ones.");
        Edge.asks("run", BUSY, HIDDEN, (x, v) -> x.run(v[0], v[1]), row(1, 0), DEED, TWO);
        Edge.asks("run", States.FRESH, HIDDEN, (x, v) -> x.run(v[0], v[1]), row(1, 0), DEED, TWO);
        Edge.of("P40", "HIDDEN: no such what.");
        Edge.asks("peace", BUSY, HIDDEN, (x, v) -> x.peace(v[0]), row(0), TWO);
        Edge.asks("peace", States.FRESH, HIDDEN, (x, v) -> x.peace(v[0]), row(0), TWO);
        Edge.of("P45", "HIDDEN for others.");
        Edge.asks("count", BUSY, HIDDEN, (x, v) -> x.count(v[0]), row(0), row(0, 4));
        Edge.asks("count", FULL, HIDDEN, (x, v) -> x.count(v[0]), row(0), row(0, 4));
        Edge.asks("count", States.FRESH, HIDDEN, (x, v) -> x.count(v[0]), row(0), row(0, 4));
    }

    private static int not(long want, long... answers) {
        int other = 0;
        for (long answer : answers) {
            other += answer == want ? 0 : 1;
        }
        return other;
    }

    private static long bit(boolean done) {
        return done ? 1 : 0;
    }

    /** Refused calls of every kind, one behind the other, of which none leaves a trace: how many are not refused. */
    private static int manyRefused(DiceLaw x, int far) {
        int other = not(NONE, x.text(far), x.weight(far, 0), x.told(far), x.day(far, 0), x.held(far, 0),
                x.deed(far, 0, 0), x.odds(far, 0, 0), x.both(0, far, 0), x.free(far), x.holds(far, 0, 0),
                x.again(far, 0), x.sure(far), x.waits(0, far), x.act(far, 0, 0), x.act(0, far, 0), x.act(0, 0, far),
                x.named(0, far, 1), x.enough(0, far), x.follow(far, 0, 0), x.given(0, far, 0, 0), x.harm(far),
                x.likeliest(far), x.apart(far, 0), x.mean(far), x.idle(far));
        other += not(HIDDEN, x.value(0, 1, far, 0), x.amended(0, 0, far, 0), x.help(far, 0), x.change(0, far, 0, 0),
                x.run(far, 0), x.peace(far), x.count(far));
        other += not(0, bit(x.end(far)), bit(x.weigh(far, 2, 2, 2, 2, 2, 2)), bit(x.weigh(0, 12, 1, far, 0, 0, 0)),
                bit(x.suspect(12, 1, far, 0, 0, 0)), bit(x.amend(far, 0, 0)), bit(x.amend(0, far, 0)),
                bit(x.amend(0, 0, far)));
        return other + not(-2, x.fault(far)) + not(Edge.THROWS, Edge.clause(x, far, 0));
    }

    private static void refused() {
        Edge.of("P45", "What is refused answers as told and changes nothing.");
        for (int far : row(-2, Integer.MIN_VALUE, Integer.MAX_VALUE)) {
            Edge.refused("all kinds of calls with " + far, BUSY, 0, x -> manyRefused(x, far));
        }
    }

    public static void main(String[] args) {
        texts();
        weights();
        days();
        odds();
        waiting();
        deeds();
        amendments();
        farClauses();
        given();
        told();
        refused();
        Due.close("EdgeRangeTest");
    }
}

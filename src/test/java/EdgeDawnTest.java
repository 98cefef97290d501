import java.math.BigInteger;
import java.util.Arrays;

/** Edges of draws, of DAWNS by draws and as told, of what HELD and what was LAWFUL: P9 to P15. */
public final class EdgeDawnTest {
    private static final String SIX = ".,.,.,.,.,.";
    private static final long FACTOR = 6364136223846793005L;
    private static final long MORE = 1442695040888963407L;
    private static final BigInteger ROUND = BigInteger.TWO.pow(64);

    /** Draws reckoned apart, by numbers without bound. */
    private static final class Draws {
        private BigInteger x;

        Draws(long seed) {
            x = BigInteger.valueOf(seed).mod(ROUND);
        }

        int next() {
            x = x.multiply(BigInteger.valueOf(FACTOR)).add(BigInteger.valueOf(MORE)).mod(ROUND);
            return x.shiftRight(33).mod(BigInteger.valueOf(12)).intValue();
        }
    }

    /** A seed of which the first draw is this one. */
    private static long seedOf(int draw) {
        long seed = 0;
        while (new Draws(seed).next() != draw) {
            seed++;
        }
        return seed;
    }

    private static void seeds() {
        Edge.of("P9", "The seed of throws from now on.");
        DiceLaw x = Due.with(SIX);
        x.dawn();
        x.seed(4);
        x.seed(seedOf(2));
        x.dawn();
        x.seed(seedOf(8));
        x.dawn();
        Edge.is("the first stays", x.day(0, 0), 5);
        Edge.is("by the latest seed", x.day(1, 0), 1);
        Edge.is("by another one", x.day(2, 0), 4);
        Edge.of("P9", "x, at first the seed told (0 at first), becomes x times 6364136223846793005 and "
                + "1442695040888963407 (64 bits, going round)");
        DiceLaw untold = Due.with(SIX);
        Draws zero = new Draws(0);
        for (int day = 0; day < 40; day++) {
            untold.dawn();
            Edge.is("0 at first, day " + day, untold.day(day, 0), zero.next() / 2);
        }
        long[] seeds = {0, 1, -1, 2, Long.MIN_VALUE, Long.MAX_VALUE, Long.MIN_VALUE + 1, 1L << 32, 1L << 33, -FACTOR};
        for (long seed : seeds) {
            DiceLaw y = Due.with(SIX, SIX, SIX, SIX, SIX);
            y.seed(seed);
            Draws draws = new Draws(seed);
            for (int day = 0; day < 40; day++) {
                y.dawn();
                int want = 0;
                for (int law = 0; law < 5; law++) {
                    want = 6 * want + draws.next() / 2;
                }
                Edge.is("seed " + seed + ", day " + day, y.day(day, 0), want);
            }
        }
    }

    private static void withoutSign() {
        Edge.of("P10", "then (x shifted right by 33, without sign) modulo 12 is v");
        int found = 0;
        for (long seed = 0; found < 24; seed++) {
            long x = seed * FACTOR + MORE;
            // a sign, or 32 places, or 34, would make another FACE of it
            boolean tells = x < 0 && Math.floorMod(x >> 33, 12L) / 2 != new Draws(seed).next() / 2
                    && (x >>> 32) % 12 / 2 != (x >>> 33) % 12 / 2 && (x >>> 34) % 12 / 2 != (x >>> 33) % 12 / 2;
            if (tells) {
                DiceLaw y = Due.with(SIX);
                y.seed(seed);
                y.dawn();
                Edge.is("seed " + seed, y.day(0, 0), new Draws(seed).next() / 2);
                found++;
            }
        }
    }

    private static void facesByWeights() {
        Edge.of("P10", "the lowest FACE for which all WEIGHTS up to it are together more than v");
        int[] due = {0, 1, 1, 2, 2, 2, 4, 4, 4, 4, 5, 5};
        for (int draw = 0; draw < 12; draw++) {
            DiceLaw x = Due.with(SIX);
            x.weigh(0, 1, 2, 3, 0, 4, 2);
            x.seed(seedOf(draw));
            x.dawn();
            Edge.is("draw " + draw, x.day(0, 0), due[draw]);
            for (int face = 0; face < 6; face++) {
                int[] w = new int[6];
                w[face] = 12;
                x.weigh(0, w[0], w[1], w[2], w[3], w[4], w[5]);
                x.seed(seedOf(draw));
                x.dawn();
                Edge.is("draw " + draw + " with all on FACE " + face, x.day(face + 1, 0), face);
            }
        }
    }

    private static DiceLaw dawned(int many, String... laws) {
        DiceLaw x = Due.with(laws);
        for (int i = 0; i < many; i++) {
            x.dawn();
        }
        return x;
    }

    private static void drawn() {
        Edge.of("P10", "A DAWN by draws: how many there are.");
        DiceLaw x = Due.with(SIX);
        for (int day = 1; day <= 40; day++) {
            Edge.is("day " + day, x.dawn(), day);
        }
        Edge.of("P10", "NONE: no LAWS, there are 40.");
        Edge.refused("a DAWN without LAWS", States.FRESH, -1, DiceLaw::dawn);
        Edge.refused("a DAWN after 40", States.FULL, -1, DiceLaw::dawn);
        Edge.refused("a DAWN after 40 by draws", () -> dawned(40, SIX), -1, DiceLaw::dawn);
        Edge.is("the 40th", dawned(39, SIX).dawn(), 40);
        DiceLaw y = new DiceLaw();
        y.dawn();
        Due.type(y, SIX);
        y.text(0);
        y.dawn();
        Edge.is("a refused one draws nothing", y.day(0, 0), 5);
        Edge.of("P10", "(in a DIARY; 40 at most, no more then)");
        Edge.is("40 there are", dawned(41, SIX).count(3), 40);
        Edge.is("one more when one is undone", undone(x), 40);
    }

    private static int undone(DiceLaw x) {
        x.undo();
        return x.dawn();
    }

    /** How often a DIE is thrown again, when the LAWS show nothing but these CLAUSES. */
    private static void again(int want, String... clauses) {
        String[] laws = new String[clauses.length];
        for (int i = 0; i < laws.length; i++) {
            laws[i] = (clauses[i] + ",").repeat(5) + clauses[i];
        }
        DiceLaw x = dawned(1, laws);
        String all = String.join(" ", clauses);
        Edge.is(all, x.day(0, 1), want);
        Edge.is("ODDS with " + all, x.again(want, 0), x.again(want, 1));
    }

    private static void thrownAgain() {
        Edge.of("P10", "(LAW k there is)");
        again(0, "t1");
        again(0, "t4");
        again(1, "t1", ".");
        again(0, "t2", ".");
        again(1, "t2", ".", ".");
        again(1, "t3", ".", ".", ".");
        again(0, "t4", ".", ".", ".");
        again(1, "t4", ".", ".", ".", ".");
        again(1, ".", ".", ".", ".", "t0");
        Edge.of("P10", "it has not done so since its own DIE last fell");
        again(1, "t1", "ma");
        again(1, ".", "t0");
        again(2, "t2", "t2", ".");
        again(2, "t1", "t2", ".");
        again(1, "c1", "t0");
        Edge.of("P10", "(itself, too)");
        again(3, "t0");
        again(3, ".", "t1");
        again(3, "t0", "t0");
        again(3, "t1", "t0");
        Edge.of("P10", "3 times at most in a DAWN.");
        again(3, "t3", "t3", "t3", ".");
        again(3, "t4", "t4", "t4", "t4", ".");
        again(3, "t4", "t4", "t4", "t4", "t4");
        again(0, ".");
        again(0, ".", ".", ".", ".", ".");
    }

    /** The draws of seed 0 show 5, 0, 0, 2, 2, 4 where WEIGHTS are even. */
    private static void order() {
        Edge.of("P10", "all DICE are thrown by numbers.");
        Edge.is("five DICE", dawned(1, SIX, SIX, SIX, SIX, SIX).day(0, 0), ((5 * 6 * 6 + 0) * 6 + 2) * 6 + 2);
        Edge.of("P10", "the lowest such LAW has DIE k thrown again");
        // LAW 0 shows t1 and LAW 1 t0: DIE 1 falls on t0 again, then DIE 0 on 2
        Edge.is("LAW 0 first", dawned(1, ".,.,.,.,.,t1", "t0,.,.,.,.,.").day(0, 0), 6 * 2 + 0);
        // LAW 1 alone shows t: DIE 0 falls on 0, which has DIE 1 fall on 2
        Edge.is("LAW 1 first", dawned(1, "t1,.,.,.,.,.", "t0,.,.,.,.,.").day(0, 0), 6 * 0 + 2);
        Edge.is("twice", dawned(1, "t1,.,.,.,.,.", "t0,.,.,.,.,.").day(0, 1), 2);
        // itself: 5, then 0, 0, 2
        Edge.is("itself, three times", dawned(1, "t0,.,.,.,.,t0").day(0, 0), 2);
        Edge.is("the last throw shows t and stays", dawned(1, "t0,t0,t0,.,.,t0").day(0, 0), 2);
        Edge.is("which HOLDS nothing", dawned(1, "t0,t0,t0,.,.,t0").held(0, 0), 0);
        Edge.is("itself, twice", dawned(1, "t0,.,.,.,.,t0", "t1,.,.,.,.,.").day(0, 0), 6 * 2 + 2);
    }

    private static void told() {
        Edge.of("P11", "A DAWN as told (FACES as they lie in the end, digits to the base 6, LAW 0 the highest): how "
                + "many there are.");
        DiceLaw x = Due.with("ma,na,oa,t0,.,y", "mb,nb,ob,t0,.,y", "mc,nc,oc,t1,.,y");
        int[] told = {0, 1, 5, 6, 35, 36, 215, 3 * 36 + 3 * 6 + 3};
        for (int day = 0; day < told.length; day++) {
            Edge.is("told " + told[day], x.told(told[day]), day + 1);
            Edge.is("it lies so", x.day(day, 0), told[day]);
            Edge.is("none is thrown again", x.day(day, 1), 0);
        }
        Edge.is("LAW 0 is the highest", x.held(0, 5), 20);
        Edge.is("LAW 1 is not", x.held(1, 5), 11);
        Edge.is("LAW 2 is the lowest", x.held(2, 1), 22);
        int six = 1;
        String[] laws = {SIX};
        for (int many = 1; many <= 5; many++) {
            six *= 6;
            int above = six;
            String[] all = laws;
            Edge.is("the last of " + many + " LAWS", Due.with(all).told(six - 1), 1);
            Edge.is("it lies so", toldOnce(six - 1, all).day(0, 0), six - 1);
            Edge.refused("above the last of " + many, () -> Due.with(all), -1, y -> y.told(above));
            laws = Arrays.copyOf(laws, many + 1);
            laws[many] = SIX;
        }
        Edge.of("P11", "NONE: no such FACES, no LAWS, there are 40.");
        DiceLaw y = Due.with(SIX);
        for (int day = 1; day <= 40; day++) {
            Edge.is("day " + day, y.told(day % 6), day);
        }
        Edge.is("the 41st", y.told(0), -1);
        Edge.refused("told after 40", States.FULL, -1, z -> z.told(0));
        Edge.refused("no such FACES after 40", States.FULL, -1, z -> z.told(-1));
        y.undo();
        Edge.is("one more when one is undone", y.told(3), 40);
        DiceLaw w = Due.with(SIX);
        w.weigh(0, 12, 0, 0, 0, 0, 0);
        Edge.is("a FACE without WEIGHT, too", w.told(5), 1);
    }

    private static DiceLaw toldOnce(int faces, String... laws) {
        DiceLaw x = Due.with(laws);
        x.told(faces);
        return x;
    }

    private static void undone() {
        Edge.of("P12", "The latest DAWN is UNDONE (DEEDS of that day, too): how many there are.");
        DiceLaw x = dawned(40, SIX);
        for (int i = 0; i < 6; i++) {
            x.act(i, 5 - i, 39);
            x.act(i, i, 0);
        }
        Edge.is("12 DEEDS", x.count(4), 12);
        Edge.is("of 40", x.undo(), 39);
        Edge.is("DEEDS of that day, too", x.count(4), 6);
        Edge.is("that day is gone", x.day(39, 0), -1);
        for (int left = 38; left >= 0; left--) {
            Edge.is("down to " + left, x.undo(), left);
        }
        Edge.is("no DEEDS", x.count(4), 0);
        Edge.is("no day", x.day(0, 0), -1);
        Edge.is("what it did is undone", x.dawn() == 1 && x.act(0, 0, 0) == 1, true);
        Edge.of("P12", "NONE: none.");
        Edge.refused("a new object", States.FRESH, -1, DiceLaw::undo);
        Edge.refused("no DAWNS", States.TWO_LAWS, -1, DiceLaw::undo);
        Edge.refused("no DAWNS any more", () -> back(dawned(2, SIX, SIX)), -1, DiceLaw::undo);
        DiceLaw y = Due.with(SIX);
        y.seed(seedOf(8));
        y.undo();
        y.dawn();
        Edge.is("the draws stay", y.day(0, 0), 4);
        Edge.of("P12", "The latest DAWN can be UNDONE (x, too).");
        // each DAWN takes four draws
        DiceLaw z = dawned(1, "t0,t0,t0,t0,t0,t0");
        Draws draws = new Draws(0);
        for (int day = 0; day < 12; day++) {
            draws.next();
            draws.next();
            draws.next();
            int face = draws.next() / 2;
            Edge.is("day " + day, z.day(day, 0), face);
            z.undo();
            z.dawn();
            Edge.is("day " + day + " once more", z.day(day, 0), face);
            z.dawn();
        }
        while (z.undo() > 0) {
            Edge.is("one less", z.count(3) >= 0, true);
        }
        z.dawn();
        Edge.is("all undone: the first draws again", z.day(0, 0), 2);
        DiceLaw full = dawned(40, "t0,t0,t0,t0,t0,t0");
        int last = full.day(39, 0);
        int ahead = full.day(38, 0);
        full.undo();
        full.dawn();
        Edge.is("the 40th once more", full.day(39, 0), last);
        full.undo();
        full.undo();
        full.dawn();
        Edge.is("the 39th once more", full.day(38, 0), ahead);
        full.dawn();
        Edge.is("and the 40th", full.day(39, 0), last);
        DiceLaw t = dawned(1, SIX);
        t.told(3);
        t.undo();
        t.dawn();
        Edge.is("a DAWN as told draws nothing and undoes nothing", t.day(1, 0), 0);
    }

    private static DiceLaw back(DiceLaw x) {
        while (x.count(3) > 0) {
            x.undo();
        }
        return x;
    }

    private static void days() {
        Edge.of("P13", "Of a day: 0 FACES (as digits), 1 how many DICE were thrown again (a DAWN as told: 0).");
        DiceLaw x = dawned(40, SIX);
        Edge.is("the first of 40", x.day(0, 0), 5);
        Edge.is("the last of 40", x.day(39, 0) >= 0, true);
        Edge.is("none behind it", x.day(40, 0), -1);
        Edge.is("none was thrown again", x.day(39, 1), 0);
        Edge.is("three were", dawned(1, "t0,t0,t0,t0,t0,t0").day(0, 1), 3);
        Edge.is("as told: 0", toldOnce(0, "t0,t0,t0,t0,t0,t0").day(0, 1), 0);
        DiceLaw each = dawned(40, "t0,t0,t0,t0,t0,t0");
        for (int day = 0; day < 40; day++) {
            Edge.is("three on each of 40 days", each.day(day, 1), 3);
        }
        each.undo();
        each.undo();
        for (int face = 0; face < 6; face++) {
            each.amend(0, face, 0);
        }
        each.dawn();
        each.told(4);
        Edge.is("none on the day behind them", each.day(38, 1), 0);
        Edge.is("none on the last day", each.day(39, 1), 0);
        DiceLaw both = dawned(1, "t0,t0,t0,t0,t0,t0");
        both.undo();
        both.told(1);
        Edge.is("as told where three were: 0", both.day(0, 1), 0);
    }

    private static void heldBy(int want, String... clauses) {
        String[] laws = new String[clauses.length];
        for (int i = 0; i < laws.length; i++) {
            laws[i] = clauses[i] + ",.,.,.,.,.";
        }
        Edge.is(String.join(" ", clauses), toldOnce(0, laws).held(0, 0), want);
    }

    private static void held() {
        Edge.of("P14", "What HELD of a LAW on a day (as clause(); 0 nothing).");
        heldBy(0, ".");
        heldBy(10, "ma");
        heldBy(15, "mf");
        heldBy(20, "na");
        heldBy(25, "nf");
        heldBy(30, "oa");
        heldBy(35, "of");
        Edge.of("P14", "of c k: what HOLDS of LAW k, and so on (nothing, if there is no LAW k, or it goes round)");
        heldBy(0, "c1");
        heldBy(0, "c4");
        heldBy(31, "c1", "ob");
        heldBy(0, "c2", "ob");
        heldBy(0, "c3", "ob", "ob");
        heldBy(31, "c4", "ma", "ma", "ma", "ob");
        heldBy(0, "c4", "ma", "ma", "ma");
        heldBy(31, "c1", "c2", "c3", "c4", "ob");
        heldBy(31, "c4", "ob", "c1", "c2", "c3");
        heldBy(0, "c0");
        heldBy(0, "c1", "c1");
        heldBy(0, "c1", "c0");
        heldBy(0, "c1", "c2", "c3", "c4", "c0");
        heldBy(0, "c1", "c2", "c3", "c4", "c4");
        heldBy(0, "c1", "c2", "c3", "c4");
        heldBy(0, "c1", "c2", "c3", "c4", "y");
        DiceLaw far = toldOnce(0, "ob,.,.,.,.,.", SIX, SIX, SIX, "c0,.,.,.,.,.");
        Edge.is("the last LAW's of the first one", far.held(4, 0), 31);
        DiceLaw twice = toldOnce(0, "c2,.,.,.,.,.", "c0,.,.,.,.,.", "ob,.,.,.,.,.");
        Edge.is("of one that is a COPY itself", twice.held(1, 0), 31);
        Edge.of("P14", "t is nothing");
        heldBy(0, "t0");
        heldBy(0, "t4");
        heldBy(0, "t1", "ob");
        heldBy(0, "c1", "t2", "ob");
        Edge.of("P14", "of y: what HELD of it at the DAWN ahead (nothing without)");
        heldBy(0, "y");
        heldBy(0, "c1", "y");
        yesterdays();
    }

    /** Five LAWS on forty days: each LAW of each day has its own, whatever came ahead and behind. */
    private static void eachDay() {
        Edge.of("P14", "What HELD of a LAW on a day (as clause(); 0 nothing).");
        DiceLaw x = Due.with("ma,na,oa,.,.,.", "mb,nb,ob,.,.,.", "mc,nc,oc,.,.,.", "md,nd,od,.,.,.", "me,ne,oe,.,.,.");
        for (int day = 0; day < 40; day++) {
            x.told(day * 199);
        }
        for (int day = 0; day < 40; day++) {
            int digits = day * 199;
            Edge.is("FACES of day " + day, x.day(day, 0), digits);
            for (int law = 4; law >= 0; law--) {
                int face = digits % 6;
                digits /= 6;
                int want = face < 3 ? 10 * face + 10 + law : 0;
                Edge.is("of LAW " + law + " on day " + day, x.held(law, day), want);
                if (day % 3 == 0) {
                    int by = x.deed(law, day, 2) + x.deed(law, day, 3) * 10 + x.deed(law, day, 4) * 100;
                    Edge.is("so many LAWS on day " + day, by, want == 0 ? 0 : face == 0 ? 1 : face == 1 ? 10 : 100);
                }
            }
        }
        DiceLaw two = Due.with("na,.,.,.,.,.", SIX, SIX, SIX, SIX);
        two.told(7775);
        two.told(0);
        Edge.is("the day behind does not count", two.deed(0, 0, 3), 0);
        two.undo();
        Edge.is("nor one that is undone", two.deed(0, 0, 3), 0);
    }

    private static void yesterdays() {
        DiceLaw x = Due.with("ma,y,c1,c0,t0,.", "nb,y,c0,c1,t1,.");
        x.told(0);
        for (int day = 1; day < 39; day++) {
            x.told(7);
        }
        Edge.is("over 38 days", x.held(0, 38), 10);
        Edge.is("over 38 days, of the other LAW", x.held(1, 38), 21);
        x.told(6 * 2 + 1);
        Edge.is("a COPY of YESTERDAY is the other LAW's", x.held(0, 39), 21);
        Edge.is("YESTERDAY stays its own", x.held(1, 39), 21);
        x.undo();
        x.undo();
        x.told(6 * 5 + 4);
        x.told(7);
        Edge.is("YESTERDAY of nothing", x.held(0, 39), 0);
        Edge.is("YESTERDAY of THROW AGAIN", x.held(1, 39), 0);
        x.undo();
        x.undo();
        x.told(7);
        Edge.is("at the DAWN ahead of an undone one", x.held(0, 38), 10);
        x.told(6 * 3 + 1);
        Edge.is("what goes round", x.held(0, 39), 0);
        back(x);
        x.told(7);
        Edge.is("no DAWN ahead any more", x.held(0, 0), 0);
        Edge.is("no DAWN ahead any more, of the other LAW", x.held(1, 0), 0);
    }

    /** All ways for five LAWS to say MAY, MUST NOT, MUST or nothing of one DEED. */
    private static void lawful() {
        for (int faces = 0; faces < 7776; faces++) {
            int[] many = new int[6];
            int digits = faces;
            boolean upward = true;
            for (int i = 0, last = 0; i < 5; i++, digits /= 6) {
                many[digits % 6]++;
                upward &= digits % 6 >= last;
                last = digits % 6;
            }
            // one order of the LAWS stands for all
            if (!upward || many[4] + many[5] > 0) {
                continue;
            }
            lawful(faces, many[0], many[1], many[2]);
        }
    }

    private static void lawful(int faces, int allowed, int forbidden, int due) {
        String law = "ma,na,oa,.,.,.";
        DiceLaw x = toldOnce(faces, law, law, law, law, law);
        String what = "ALLOWED by " + allowed + ", FORBIDDEN by " + forbidden + ", DUE by " + due;
        boolean lawful = forbidden == 0 || allowed > forbidden;
        Edge.of("P15", "It is LAWFUL, if it is FORBIDDEN by none, or ALLOWED by more than FORBIDDEN.");
        Edge.is(what, x.deed(0, 0, 0), lawful ? 1 : 0);
        Edge.of("P15", "It MUST be done, if it is DUE by one at least and LAWFUL.");
        Edge.is(what, x.deed(0, 0, 1), lawful && due > 0 ? 1 : 0);
        Edge.of("P15", "Of a DEED on a day: 0 LAWFUL, 1 MUST (1, 0), 2 ALLOWED by, 3 FORBIDDEN by, 4 DUE by how many.");
        Edge.is(what, x.deed(0, 0, 2), allowed);
        Edge.is(what, x.deed(0, 0, 3), forbidden);
        Edge.is(what, x.deed(0, 0, 4), due);
        Edge.of("P15", "A DEED is ALLOWED by so many LAWS of which m HOLDS with it, FORBIDDEN by so many with n, DUE "
                + "by so many with o.");
        Edge.is("of another DEED nothing is told", x.deed(5, 0, 0) * 10 + x.deed(5, 0, 1), 10);
        Edge.is("by none", x.deed(1, 0, 2) + x.deed(1, 0, 3) + x.deed(1, 0, 4), 0);
    }

    /** Of each DEED its own CLAUSES count, and no others. */
    private static void eachDeed() {
        Edge.of("P15", "Of a DEED on a day: 0 LAWFUL, 1 MUST (1, 0), 2 ALLOWED by, 3 FORBIDDEN by, 4 DUE by how many.");
        for (int deed = 0; deed < 6; deed++) {
            char sign = (char) ('a' + deed);
            String law = "m" + sign + ",n" + sign + ",o" + sign + ",.,.,.";
            // MAY by three, MUST NOT by one, MUST by one; then MUST NOT by one alone
            DiceLaw x = Due.with(law, law, law, law, law);
            x.told(1 * 6 + 2);
            x.told(((3 * 6 + 3) * 6 + 3) * 36 + 1 * 6 + 3);
            int[][] due = {{1, 1, 3, 1, 1}, {0, 0, 0, 1, 0}};
            for (int other = 0; other < 6; other++) {
                for (int what = 0; what < 5; what++) {
                    for (int day = 0; day < 2; day++) {
                        int none = what == 0 ? 1 : 0;
                        Edge.is(sign + " of " + other + " on day " + day + ": " + what, x.deed(other, day, what),
                                other == deed ? due[day][what] : none);
                    }
                }
            }
        }
    }

    private static void today() {
        Edge.of("P16", "TODAY is the latest DAWN (in a DIARY; 40 at most, no more then); without one nothing HOLDS.");
        DiceLaw x = Due.with("y,y,y,y,y,na");
        x.weigh(0, 2, 2, 2, 3, 3, 0);
        Edge.fraction("FORBIDDEN without a DAWN", x.odds(0, 2, 0), x.odds(0, 2, 1), 0, 1);
        x.told(5);
        Edge.fraction("FORBIDDEN as TODAY", x.odds(0, 2, 0), x.odds(0, 2, 1), 1, 1);
        x.amend(0, 0, 0);
        x.told(0);
        Edge.fraction("nothing as TODAY, not as the day ahead", x.odds(0, 2, 0), x.odds(0, 2, 1), 0, 1);
        x.undo();
        Edge.fraction("as the day ahead when that is undone", x.odds(0, 2, 0), x.odds(0, 2, 1), 5, 6);
        x.undo();
        Edge.fraction("without a DAWN again", x.odds(0, 2, 0), x.odds(0, 2, 1), 0, 1);
    }

    public static void main(String[] args) {
        seeds();
        withoutSign();
        facesByWeights();
        drawn();
        thrownAgain();
        order();
        told();
        undone();
        days();
        held();
        eachDay();
        lawful();
        eachDeed();
        today();
        Due.close("EdgeDawnTest");
    }
}

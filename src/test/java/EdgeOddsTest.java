/** Edges of the ODDS of tomorrow, of what is SURE, of waiting: P16 to P23. */
public final class EdgeOddsTest {
    private static final String SIX = ".,.,.,.,.,.";
    /** 12 to the power of 8. */
    private static final long ALL = 429981696L;

    /** LAWFUL is a in one of 12 to the 8 ways alone: DIE 0 four times on t0, the others on their first FACES. */
    private static DiceLaw thinnest() {
        String law = "oa,na,na,na,na,na";
        DiceLaw x = Due.with("t0,na,na,na,na,na", law, law, law, law);
        for (int i = 0; i < 5; i++) {
            x.weigh(i, 1, 11, 0, 0, 0, 0);
        }
        return x;
    }

    private static void odds() {
        Edge.of("P16", "ODDS of a DEED (sort 0 .. 2): above (part 0), below (1).");
        Edge.fraction("the first sort", chance(1).odds(0, 0, 0), chance(1).odds(0, 0, 1), 1, 12);
        Edge.fraction("the last sort", chance(1).odds(0, 2, 0), chance(1).odds(0, 2, 1), 11, 12);
        Edge.fraction("the last DEED", chance(1).odds(5, 0, 0), chance(1).odds(5, 0, 1), 1, 1);
        eachDeed();
        Edge.of("P16", "as fractions made plain");
        DiceLaw x = thinnest();
        Edge.fraction("the least above 0", x.odds(0, 0, 0), x.odds(0, 0, 1), 1, ALL);
        Edge.fraction("MUST", x.odds(0, 1, 0), x.odds(0, 1, 1), 1, ALL);
        Edge.fraction("the greatest below 1", x.odds(0, 2, 0), x.odds(0, 2, 1), ALL - 1, ALL);
        Edge.fraction("never", x.odds(1, 1, 0), x.odds(1, 1, 1), 0, 1);
        Edge.fraction("always", x.odds(1, 0, 0), x.odds(1, 0, 1), 1, 1);
        x.weigh(0, 12, 0, 0, 0, 0, 0);
        for (int law = 1; law < 5; law++) {
            x.weigh(law, 0, 12, 0, 0, 0, 0);
        }
        Edge.fraction("never, of one that often is", x.odds(0, 0, 0), x.odds(0, 0, 1), 0, 1);
        Edge.fraction("FORBIDDEN always", x.odds(0, 2, 0), x.odds(0, 2, 1), 1, 1);
        for (int weight = 0; weight <= 12; weight++) {
            DiceLaw y = Due.with("na,.,.,.,.,.");
            y.weigh(0, weight, 12 - weight, 0, 0, 0, 0);
            int above = weight;
            int below = 12;
            for (int by = 12; by > 1; by--) {
                if (above % by == 0 && below % by == 0) {
                    above /= by;
                    below /= by;
                }
            }
            Edge.fraction(weight + " of 12", y.odds(0, 2, 0), y.odds(0, 2, 1), above, below);
        }
        Edge.of("P16", "of a DEED: 0 that it is LAWFUL, 1 that it MUST be done, 2 that it is FORBIDDEN by one at "
                + "least");
        DiceLaw two = Due.with("na,ma,na,na,na,na", "na,ma,oa,.,.,.", "ma,ma,ma,ma,ma,ma");
        two.weigh(0, 12, 0, 0, 0, 0, 0);
        two.weigh(1, 12, 0, 0, 0, 0, 0);
        Edge.is("FORBIDDEN by two counts once", two.odds(0, 2, 0) * 10 + two.odds(0, 2, 1), 11);
        Edge.is("ALLOWED by fewer", two.odds(0, 0, 0), 0);
        two.weigh(1, 0, 12, 0, 0, 0, 0);
        Edge.is("FORBIDDEN by one and yet LAWFUL", two.odds(0, 2, 0) * two.odds(0, 0, 0), 1);
        two.weigh(1, 0, 0, 12, 0, 0, 0);
        Edge.is("ALLOWED by as many: not LAWFUL", two.odds(0, 0, 0), 0);
        Edge.is("DUE, but not LAWFUL", two.odds(0, 1, 0), 0);
        two.weigh(0, 0, 12, 0, 0, 0, 0);
        Edge.is("DUE and LAWFUL", two.odds(0, 1, 0) * two.odds(0, 1, 1), 1);
        Edge.is("FORBIDDEN by none", two.odds(0, 2, 0), 0);
        Edge.of("P16", "HELD of TODAY being what HOLDS now");
        DiceLaw y = Due.with("y,y,y,y,y,na");
        y.told(5);
        y.amend(0, 5, 60);
        Edge.is("it stays, whatever the FACE has now", y.odds(0, 2, 0), 1);
        y.told(0);
        Edge.is("over a day", y.odds(0, 2, 0), 1);
        y.undo();
        y.undo();
        Edge.is("without a DAWN nothing", y.odds(0, 2, 0), 0);
    }

    private static void eachDeed() {
        for (int deed = 0; deed < 6; deed++) {
            char sign = (char) ('a' + deed);
            DiceLaw x = Due.with("n" + sign + ",o" + sign + ",.,.,.,.");
            x.weigh(0, 1, 4, 7, 0, 0, 0);
            for (int other = 0; other < 6; other++) {
                boolean it = other == deed;
                String what = other + " by CLAUSES of " + deed;
                Edge.fraction(what, x.odds(other, 0, 0), x.odds(other, 0, 1), it ? 11 : 1, it ? 12 : 1);
                Edge.fraction(what, x.odds(other, 1, 0), x.odds(other, 1, 1), it ? 1 : 0, it ? 3 : 1);
                Edge.fraction(what, x.odds(other, 2, 0), x.odds(other, 2, 1), it ? 1 : 0, it ? 12 : 1);
            }
        }
    }

    private static long ways(DiceLaw x, int law, int clause) {
        return x.holds(law, clause, 0) * (ALL / x.holds(law, clause, 1));
    }

    /** Five LAWS, each with all CLAUSES that have a DIE thrown again, and one with none: no way is lost. */
    private static void fullest() {
        Edge.of("P19", "HOLDS.");
        String law = "t0,t1,t2,t3,t4,ma";
        DiceLaw x = Due.with(law, law, law, law, law);
        for (int i = 0; i < 5; i++) {
            Edge.is("MAY and nothing of LAW " + i, ways(x, i, 10) + ways(x, i, 0), ALL);
        }
        long again = 0;
        for (int many = 0; many < 4; many++) {
            again += x.again(many, 0) * (ALL / x.again(many, 1));
        }
        Edge.is("thrown again so often or so often", again, ALL);
        Edge.fraction("thrown again never: all on the last FACES", x.again(0, 0), x.again(0, 1), 1, 7776);
        for (int i = 0; i < 5; i++) {
            String[] laws = {SIX, SIX, SIX, SIX, SIX};
            laws[i] = "t" + i + ",na,.,.,.,.";
            DiceLaw z = Due.with(laws);
            z.weigh(i, 6, 6, 0, 0, 0, 0);
            Edge.fraction("LAW " + i + " has itself thrown again", z.holds(i, 20, 0), z.holds(i, 20, 1), 15, 16);
            Edge.fraction("it is FORBIDDEN", z.odds(0, 2, 0), z.odds(0, 2, 1), 15, 16);
            laws[i] = "t" + (i + 1) % 5 + ",na,.,.,.,.";
            laws[(i + 1) % 5] = ".,.,nb,.,.,.";
            DiceLaw w = Due.with(laws);
            Edge.fraction("LAW " + i + " has the next one thrown again", w.holds((i + 1) % 5, 21, 0),
                    w.holds((i + 1) % 5, 21, 1), 1, 6);
            Edge.fraction("which it does with", w.again(1, 0), w.again(1, 1), 1, 6);
        }
        DiceLaw one = Due.with("t0,.,.,.,.,.");
        one.weigh(0, 1, 11, 0, 0, 0, 0);
        Edge.fraction("nothing, on whatever it lies", one.holds(0, 0, 0), one.holds(0, 0, 1), 1, 1);
        Edge.fraction("nothing FORBIDDEN", one.free(0), one.free(1), 1, 1);
        Edge.is("on t0 in the end in one way of 12 to the 4", one.given(0, 0, 0, 0), 1);
        DiceLaw y = Due.with(SIX, SIX, SIX, SIX, "y,y,y,y,nf,y");
        y.told(4);
        Edge.fraction("YESTERDAY of the last LAW", y.odds(5, 2, 0), y.odds(5, 2, 1), 1, 1);
        Edge.fraction("HOLDS of the last LAW", y.holds(4, 25, 0), y.holds(4, 25, 1), 1, 1);
    }

    private static void bothAndFree() {
        Edge.of("P17", "BOTH.");
        Edge.fraction("the first and the last DEED", chance(1).both(0, 5, 0), chance(1).both(0, 5, 1), 1, 12);
        Edge.of("P17", "BOTH: that two are LAWFUL at once");
        DiceLaw x = thinnest();
        Edge.fraction("the least", x.both(0, 1, 0), x.both(0, 1, 1), 1, ALL);
        Edge.fraction("the other way", x.both(5, 0, 0), x.both(5, 0, 1), 1, ALL);
        Edge.fraction("always", x.both(4, 5, 0), x.both(4, 5, 1), 1, 1);
        DiceLaw y = Due.with("na,nb,nc,nd,ne,nf");
        for (int one = 0; one < 6; one++) {
            for (int other = 0; other < 6; other++) {
                if (one != other) {
                    Edge.fraction(one + " and " + other, y.both(one, other, 0), y.both(one, other, 1), 2, 3);
                }
            }
        }
        y.weigh(0, 6, 6, 0, 0, 0, 0);
        Edge.fraction("never", y.both(0, 1, 0), y.both(0, 1, 1), 0, 1);
        Edge.of("P18", "FREE.");
        Edge.fraction("one of 12", chance(1).free(0), chance(1).free(1), 1, 12);
        Edge.of("P18", "FREE: that no DEED is FORBIDDEN by any LAW");
        Edge.fraction("the least", x.free(0), x.free(1), 1, ALL);
        Edge.fraction("never", y.free(0), y.free(1), 0, 1);
        Edge.fraction("always", Due.with(SIX).free(0), Due.with(SIX).free(1), 1, 1);
        for (int deed = 0; deed < 6; deed++) {
            DiceLaw z = Due.with(SIX, SIX, SIX, SIX, ".,.,.,.,.,n" + (char) ('a' + deed));
            Edge.fraction("but for " + deed, z.free(0), z.free(1), 5, 6);
        }
        DiceLaw w = Due.with("na,na,na,na,na,na", "ma,ma,ma,ma,ma,ma", "ma,ma,ma,ma,ma,ma");
        Edge.fraction("LAWFUL and yet FORBIDDEN", w.free(0), w.free(1), 0, 1);
    }

    private static void holding() {
        Edge.of("P19", "HOLDS: that a LAW HOLDS a CLAUSE as told");
        DiceLaw x = thinnest();
        Edge.fraction("nothing, by t in the end", x.holds(0, 0, 0), x.holds(0, 0, 1), 1, 20736);
        Edge.fraction("MUST NOT", x.holds(0, 20, 0), x.holds(0, 20, 1), 20735, 20736);
        Edge.fraction("the last LAW's MUST", x.holds(4, 30, 0), x.holds(4, 30, 1), 1, 12);
        Edge.fraction("what none has", x.holds(4, 35, 0), x.holds(4, 35, 1), 0, 1);
        DiceLaw y = Due.with("ma,mf,na,nf,oa,of");
        int[] ends = {10, 15, 20, 25, 30, 35};
        for (int clause : ends) {
            Edge.fraction("one of six: " + clause, y.holds(0, clause, 0), y.holds(0, clause, 1), 1, 6);
        }
        Edge.fraction("nothing", y.holds(0, 0, 0), y.holds(0, 0, 1), 0, 1);
        DiceLaw z = Due.with("c0,c1,c4,t4,y,.", "c0,c0,c0,c0,c0,c0");
        Edge.fraction("all that is nothing", z.holds(0, 0, 0), z.holds(0, 0, 1), 1, 1);
        Edge.fraction("all COPIES of nothing", z.holds(1, 0, 0), z.holds(1, 0, 1), 1, 1);
    }

    private static void thrownAgain() {
        Edge.of("P20", "AGAIN.");
        Edge.fraction("none", chance(1).again(0, 0), chance(1).again(0, 1), 1, 1);
        Edge.of("P20", "AGAIN: that so many (0 .. 3) DICE were thrown again.");
        DiceLaw x = thinnest();
        Edge.fraction("none", x.again(0, 0), x.again(0, 1), 11, 12);
        Edge.fraction("one", x.again(1, 0), x.again(1, 1), 11, 144);
        Edge.fraction("two", x.again(2, 0), x.again(2, 1), 11, 1728);
        Edge.fraction("three", x.again(3, 0), x.again(3, 1), 1, 1728);
        DiceLaw y = Due.with(SIX);
        Edge.fraction("none always", y.again(0, 0), y.again(0, 1), 1, 1);
        Edge.fraction("three never", y.again(3, 0), y.again(3, 1), 0, 1);
        y.amend(0, 0, 40);
        y.weigh(0, 12, 0, 0, 0, 0, 0);
        Edge.fraction("three always", y.again(3, 0), y.again(3, 1), 1, 1);
        Edge.fraction("none never", y.again(0, 0), y.again(0, 1), 0, 1);
        y.amend(0, 0, 41);
        Edge.fraction("LAW 1 there is not", y.again(0, 0), y.again(0, 1), 1, 1);
    }

    private static void sure() {
        Edge.of("P21", "SURE (what 0), NEVER (1), as bits.");
        Edge.is("all but the first", chance(0).sure(0), 62);
        Edge.is("the first NEVER", chance(0).sure(1), 1);
        Edge.of("P21", "SURE: DEEDS (bits) that are LAWFUL however dice fall; NEVER: that are not.");
        DiceLaw x = thinnest();
        Edge.is("all but the one that almost never is", x.sure(0), 62);
        Edge.is("none NEVER, that once in 12 to the 8 is", x.sure(1), 0);
        Edge.is("all", Due.with(SIX).sure(0), 63);
        Edge.is("none NEVER", Due.with(SIX).sure(1), 0);
        for (int deed = 0; deed < 6; deed++) {
            char sign = (char) ('a' + deed);
            DiceLaw y = Due.with("n" + sign + ",.,.,.,.,.");
            Edge.is("all but " + deed, y.sure(0), 63 - (1 << deed));
            Edge.is("not NEVER " + deed, y.sure(1), 0);
            y.weigh(0, 12, 0, 0, 0, 0, 0);
            Edge.is("NEVER " + deed, y.sure(1), 1 << deed);
            y.weigh(0, 0, 12, 0, 0, 0, 0);
            Edge.is("a FACE without WEIGHT does not count", y.sure(0), 63);
        }
        String[] laws = {"na,na,na,na,na,na", "nb,nb,nb,nb,nb,nb", "nd,nd,nd,nd,nd,nd", "ne,ne,ne,ne,ne,ne",
            "nf,nf,nf,nf,nf,nf"};
        Edge.is("none is SURE but c", Due.with(laws).sure(0), 4);
        Edge.is("all NEVER but c", Due.with(laws).sure(1), 59);
    }

    /** So many of 12 throws let a be LAWFUL. */
    private static DiceLaw chance(int weight) {
        DiceLaw x = Due.with(".,na,na,na,na,na");
        x.weigh(0, weight, 12 - weight, 0, 0, 0, 0);
        return x;
    }

    private static void waits(String what, DiceLaw x, int one, int two, int three, int sixty) {
        int[] days = {1, 2, 3, 60};
        int[] due = {one, two, three, sixty};
        for (int i = 0; i < 4; i++) {
            Edge.is(what + " over " + days[i], x.waits(0, days[i]), due[i]);
        }
    }

    private static void waiting() {
        Edge.of("P22", "WAIT.");
        Edge.is("the least days", chance(6).waits(0, 1), 500000000);
        Edge.is("the most days", chance(6).waits(0, 60), 1000000000 - 1);
        Edge.of("P22", "that it can: of 10 to the 9, day by day: what is left times the ODDS, cut.");
        waits("a sixth", chance(2), 166666666, 305555555, 421296295, 999982250);
        waits("a twelfth", chance(1), 83333333, 159722221, 229745369, 994596355);
        waits("all but a twelfth", chance(11), 916666666, 993055555, 999421296, 999999999);
        waits("SURE", chance(12), 1000000000, 1000000000, 1000000000, 1000000000);
        waits("NEVER", chance(0), 0, 0, 0, 0);
        waits("the least there is", thinnest(), 2, 4, 6, 120);
        Edge.of("P22", "the first on which it is LAWFUL (each as likely as tomorrow's ODDS)");
        DiceLaw today = Due.with("y,.,.,.,.,na");
        today.weigh(0, 6, 5, 0, 0, 0, 1);
        today.told(5);
        Edge.is("by YESTERDAY, which is TODAY", today.waits(0, 1), 416666666);
        Edge.is("as likely on the second day", today.waits(0, 2), 416666666 + 243055555);
        today.undo();
        Edge.is("without a DAWN", today.waits(0, 1), 916666666);
        Edge.of("P22", "somebody may do a DEED on one of so many days (1 .. 60) from tomorrow");
        Edge.is("on the first", chance(12).waits(0, 1), 1000000000);
        Edge.refused("on none", () -> chance(6), -1, x -> x.waits(0, 0));
        Edge.is("on one of 60", chance(6).waits(5, 60), 1000000000);
        Edge.refused("on one of 61", () -> chance(6), -1, x -> x.waits(5, 61));
    }

    /** With these: GAIN and COST both at most; none to GAIN; no COST; 1 and 0; 0 and 1; nothing; 5 and 1. */
    private static void values(String what, DiceLaw x, int days, long... due) {
        int[][] told = {{999, 99}, {0, 99}, {999, 0}, {1, 0}, {0, 1}, {0, 0}, {5, 1}};
        for (int i = 0; i < told.length; i++) {
            String row = what + " over " + days + " with GAIN " + told[i][0] + ", COST " + told[i][1];
            Edge.is(row, x.value(0, days, told[i][0], told[i][1]), due[i]);
        }
    }

    private static void worth() {
        Edge.of("P23", "VALUE.");
        Edge.is("the least of all numbers", chance(6).value(0, 1, 0, 0), 0);
        Edge.is("the most of all numbers", chance(12).value(5, 60, 999, 99), 999000);
        Edge.of("P23", "the sum over days of those parts times (GAIN less COST times days ahead of it), and of what "
                + "is left then times (0 less COST times all days), by 10 to the 6, cut towards 0.");
        values("a sixth", chance(2), 1, 83999, -82500, 166499, 166, -833, 0, 0);
        values("a sixth", chance(2), 2, 153999, -151250, 305249, 305, -1527, 0, 0);
        values("a sixth", chance(2), 60, 503991, -494991, 998982, 999, -4999, 0, 0);
        values("a twelfth", chance(1), 1, -7500, -90750, 83249, 83, -916, 0, -500);
        values("a twelfth", chance(1), 60, -89513, -1083115, 993601, 994, -10940, 0, -5967);
        values("all but a twelfth", chance(11), 60, 989999, -9000, 998999, 999, -90, 0, 4909);
        values("SURE", chance(12), 1, 999000, 0, 999000, 1000, 0, 0, 5000);
        values("SURE", chance(12), 60, 999000, 0, 999000, 1000, 0, 0, 5000);
        values("NEVER", chance(0), 1, -99000, -99000, 0, 0, -1000, 0, -1000);
        values("NEVER", chance(0), 60, -5940000, -5940000, 0, 0, -60000, 0, -60000);
        values("the least there is", thinnest(), 1, -98999, -98999, 0, 0, -999, 0, -999);
        values("the least there is", thinnest(), 60, -5939999, -5939999, 0, 0, -59999, 0, -59999);
        Edge.of("P23", "GAIN (0 .. 999) for it, COST (0 .. 99) for each day on which it could not");
        Edge.is("the most of both", chance(12).value(0, 1, 999, 99), 999000);
        Edge.is("the least of both", chance(12).value(0, 1, 0, 0), 0);
        int[][] wrong = {{-1, 0}, {1000, 0}, {0, -1}, {0, 100}};
        for (int[] w : wrong) {
            Edge.refused("GAIN " + w[0] + ", COST " + w[1], () -> chance(6), DiceLaw.HIDDEN,
                    x -> x.value(0, 1, w[0], w[1]));
        }
    }

    public static void main(String[] args) {
        odds();
        bothAndFree();
        holding();
        fullest();
        thrownAgain();
        sure();
        waiting();
        worth();
        Due.close("EdgeOddsTest");
    }
}

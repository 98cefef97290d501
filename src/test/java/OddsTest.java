/** P16 to P23, P33 to P37: the ODDS of tomorrow, by hand. */
public final class OddsTest {
    private static void odds() {
        DiceLaw x = Due.with("ma,na,oa,.,.,.", "ma,na,na,.,.,.");
        // of 36: forbidden alone n. 1x(3,4,5 and 2) .. n and m together is not LAWFUL
        Due.fraction("P16 LAWFUL", x.odds(0, 0, 0), x.odds(0, 0, 1), 5, 9);
        Due.fraction("P16 MUST", x.odds(0, 1, 0), x.odds(0, 1, 1), 1, 9);
        Due.fraction("P16 FORBIDDEN", x.odds(0, 2, 0), x.odds(0, 2, 1), 4, 9);
        Due.fraction("P16 never", x.odds(1, 1, 0), x.odds(1, 1, 1), 0, 1);
        Due.is("P16 no such DEED", x.odds(6, 0, 0), -1);
        Due.is("P16 no such DEED", x.odds(-1, 0, 0), -1);
        Due.is("P16 no such sort", x.odds(0, 3, 0), -1);
        Due.is("P16 no such sort", x.odds(0, -1, 0), -1);
        Due.is("P16 no such part", x.odds(0, 0, 2), -1);
        Due.is("P16 no such part", x.odds(0, 0, -1), -1);
        Due.is("P16 no LAWS", new DiceLaw().odds(0, 0, 0), -1);
        DiceLaw y = Due.with("y,.,.,.,.,.", "na,ma,.,.,.,.");
        Due.fraction("P16 without a DAWN", y.odds(0, 0, 0), y.odds(0, 0, 1), 5, 6);
        y.weigh(0, 12, 0, 0, 0, 0, 0);
        y.weigh(1, 0, 12, 0, 0, 0, 0);
        y.told(6);
        Due.fraction("P16 nothing HELD", y.odds(0, 2, 0), y.odds(0, 2, 1), 0, 1);
        y.amend(0, 0, 51);
        y.told(0);
        y.amend(0, 0, 60);
        Due.fraction("P16 YESTERDAY is TODAY", y.odds(0, 2, 0), y.odds(0, 2, 1), 1, 1);
        Due.fraction("P16 1 against 1", y.odds(0, 0, 0), y.odds(0, 0, 1), 0, 1);
    }

    private static void two() {
        DiceLaw x = Due.with("na,nb,nb,.,.,.", "nc,.,.,.,.,.");
        Due.fraction("P17 BOTH", x.both(0, 1, 0), x.both(0, 1, 1), 1, 2);
        Due.fraction("P17 BOTH", x.both(0, 2, 0), x.both(0, 2, 1), 25, 36);
        Due.is("P17 alike", x.both(1, 1, 0), -1);
        Due.is("P17 no such one", x.both(6, 1, 0), -1);
        Due.is("P17 no such one", x.both(-1, 1, 0), -1);
        Due.is("P17 no such other", x.both(0, 6, 0), -1);
        Due.is("P17 no such other", x.both(0, -1, 0), -1);
        Due.is("P17 no such part", x.both(0, 1, 2), -1);
        Due.is("P17 no LAWS", new DiceLaw().both(0, 1, 0), -1);
        Due.fraction("P18 FREE", x.free(0), x.free(1), 5, 12);
        Due.is("P18 no such part", x.free(2), -1);
        Due.is("P18 no such part", x.free(-1), -1);
        Due.is("P18 no LAWS", new DiceLaw().free(0), -1);
        Due.is("P36 one DIE", x.apart(0, 1), 0);
        Due.is("P36 two DICE", x.apart(0, 2), 1);
        Due.is("P36 alike", x.apart(2, 2), -1);
        Due.is("P36 no such one", x.apart(6, 2), -1);
        Due.is("P36 no such other", x.apart(0, -1), -1);
        Due.is("P36 no LAWS", new DiceLaw().apart(0, 1), -1);
        // FREE asks whether one is FORBIDDEN, not whether it is LAWFUL
        DiceLaw y = Due.with("na,na,na,na,na,na", "ma,ma,ma,ma,ma,ma", "ma,ma,ma,ma,ma,ma");
        Due.fraction("P18 LAWFUL and yet FORBIDDEN", y.free(0), y.free(1), 0, 1);
        Due.is("P21 LAWFUL and yet FORBIDDEN", y.sure(0), 63);
    }

    private static void holding() {
        DiceLaw x = Due.with("c1,.,na,na,of,t0", "mb,mb,mb,y,t4,c3");
        // DIE 0 ends on 0 .. 4 with 1/6 (1 and 1/6 and 1/36 and 1/216), on t0 with 1/1296
        Due.fraction("P19 by a COPY", x.holds(0, 11, 0), x.holds(0, 11, 1), 259, 2592);
        Due.fraction("P19 its own", x.holds(1, 11, 0), x.holds(1, 11, 1), 1, 2);
        Due.fraction("P19 MUST", x.holds(0, 35, 0), x.holds(0, 35, 1), 259, 1296);
        Due.fraction("P19 twice", x.holds(0, 20, 0), x.holds(0, 20, 1), 259, 648);
        Due.fraction("P19 nothing", x.holds(0, 0, 0), x.holds(0, 0, 1), 779, 2592);
        Due.fraction("P19 another DEED", x.holds(0, 21, 0), x.holds(0, 21, 1), 0, 1);
        int[] wrong = {-1, 1, 9, 16, 19, 26, 36, 40, 50, 60, 100, Integer.MIN_VALUE};
        for (int clause : wrong) {
            Due.is("P19 no such CLAUSE " + clause, x.holds(0, clause, 0), -1);
        }
        Due.is("P19 no such LAW", x.holds(2, 0, 0), -1);
        Due.is("P19 no such LAW", x.holds(-1, 0, 0), -1);
        Due.is("P19 no such part", x.holds(0, 0, 2), -1);
        Due.is("P19 no LAWS", new DiceLaw().holds(0, 0, 0), -1);
    }

    private static void thrownAgain() {
        DiceLaw x = Due.with("t1,t1,.,.,.,.", "t0,.,.,.,.,.");
        // LAW 0 does it with 1/3, else LAW 1 with 1/6, and each has the other one's DIE fall anew
        Due.fraction("P20 none", x.again(0, 0), x.again(0, 1), 5, 9);
        Due.fraction("P37 MEAN", x.mean(0), x.mean(1), 91, 162);
        DiceLaw y = Due.with("t0,t0,t0,t0,t0,t0");
        Due.fraction("P20 all three", y.again(3, 0), y.again(3, 1), 1, 1);
        Due.fraction("P20 not two", y.again(2, 0), y.again(2, 1), 0, 1);
        Due.fraction("P37 three", y.mean(0), y.mean(1), 3, 1);
        DiceLaw z = Due.with("t1,t1,t1,t1,t1,t1", ".,.,.,.,.,.");
        Due.fraction("P20 once for one fall", z.again(1, 0), z.again(1, 1), 1, 1);
        z.amend(0, 0, 44);
        Due.fraction("P20 no LAW 4", z.again(1, 0), z.again(1, 1), 5, 6);
        Due.fraction("P37 five of six", z.mean(0), z.mean(1), 5, 6);
        Due.is("P20 no such many", z.again(4, 0), -1);
        Due.is("P20 no such many", z.again(-1, 0), -1);
        Due.is("P20 no such part", z.again(0, 2), -1);
        Due.is("P20 no LAWS", new DiceLaw().again(0, 0), -1);
        Due.is("P37 no such part", z.mean(2), -1);
        Due.is("P37 no such part", z.mean(-1), -1);
        Due.is("P37 no LAWS", new DiceLaw().mean(0), -1);
    }

    private static void surely() {
        DiceLaw x = Due.with("na,nb,.,.,.,.", "ma,ma,ma,ma,ma,nc");
        Due.is("P21 SURE", x.sure(0), 0b111000);
        Due.is("P21 NEVER", x.sure(1), 0);
        x.weigh(1, 0, 0, 0, 0, 0, 12);
        Due.is("P21 NEVER c", x.sure(1), 0b000100);
        x.weigh(0, 0, 0, 12, 0, 0, 0);
        Due.is("P21 a FACE without WEIGHT", x.sure(0), 0b111011);
        Due.is("P21 no such what", x.sure(2), -1);
        Due.is("P21 no such what", x.sure(-1), -1);
        Due.is("P21 no LAWS", new DiceLaw().sure(0), -1);
    }

    private static void waiting() {
        DiceLaw x = Due.with("na,na,na,na,na,.");
        Due.is("P22 one day", x.waits(0, 1), 166666666);
        Due.is("P22 two days", x.waits(0, 2), 166666666 + 138888889);
        Due.is("P22 SURE", x.waits(1, 60), 1000000000);
        Due.is("P23 cut towards 0", x.value(0, 1, 0, 1), -833);
        Due.is("P23 GAIN", x.value(0, 1, 999, 0), 166499);
        Due.is("P23 two days", x.value(0, 2, 6, 3), (166666666L * 6 + 138888889L * 3 - 694444445L * 6) / 1000000);
        Due.is("P23 SURE", x.value(1, 60, 999, 99), 999000);
        x.weigh(0, 12, 0, 0, 0, 0, 0);
        Due.is("P22 NEVER", x.waits(0, 60), 0);
        Due.is("P23 NEVER", x.value(0, 60, 999, 99), -5940000);
        int[][] wrong = {{6, 1, 0, 0}, {-1, 1, 0, 0}, {0, 0, 0, 0}, {0, 61, 0, 0}, {0, 1, -1, 0}, {0, 1, 1000, 0},
            {0, 1, 0, -1}, {0, 1, 0, 100}};
        for (int[] w : wrong) {
            Due.is("P23 refused", x.value(w[0], w[1], w[2], w[3]), Due.HIDDEN);
        }
        for (int i = 0; i < 4; i++) {
            Due.is("P22 refused", x.waits(wrong[i][0], wrong[i][1]), -1);
        }
        Due.is("P22 no LAWS", new DiceLaw().waits(0, 1), -1);
        Due.is("P23 no LAWS", new DiceLaw().value(0, 1, 1, 1), Due.HIDDEN);
    }

    private static void among() {
        DiceLaw x = Due.with("na,.,.,.,.,t0", "na,ma,.,.,.,.");
        Due.fraction("P33 FORBIDDEN", x.given(0, 0, 0, 0), x.given(0, 0, 0, 1), 0, 1);
        Due.fraction("P33 by the other DIE", x.given(0, 1, 0, 0), x.given(0, 1, 0, 1), 5, 6);
        Due.fraction("P33 THROW AGAIN in the end", x.given(0, 5, 0, 0), x.given(0, 5, 0, 1), 5, 6);
        // DIE 0 does not end on n: 1 less 259/1296
        Due.fraction("P33 by DIE 0", x.given(1, 2, 0, 0), x.given(1, 2, 0, 1), 1037, 1296);
        Due.is("P34 HARM", x.harm(0), 0);
        x.weigh(0, 0, 6, 0, 0, 0, 6);
        Due.is("P33 never lies so", x.given(0, 0, 0, 0), -1);
        Due.is("P34 one that can lie so", x.harm(0), 6);
        Due.is("P34 all alike: the lowest that can", x.harm(3), 1);
        Due.is("P33 no such LAW", x.given(2, 0, 0, 0), -1);
        Due.is("P33 no such LAW", x.given(-1, 0, 0, 0), -1);
        Due.is("P33 no such FACE", x.given(0, 6, 0, 0), -1);
        Due.is("P33 no such FACE", x.given(0, -1, 0, 0), -1);
        Due.is("P33 no such DEED", x.given(0, 1, 6, 0), -1);
        Due.is("P33 no such DEED", x.given(0, 1, -1, 0), -1);
        Due.is("P33 no such part", x.given(0, 1, 0, 2), -1);
        Due.is("P34 no such DEED", x.harm(6), -1);
        Due.is("P34 no such DEED", x.harm(-1), -1);
        Due.is("P34 no LAWS", new DiceLaw().harm(0), -1);
    }

    private static void likely() {
        DiceLaw x = Due.with("t0,.,.,.,.,.", ".,.,.,.,.,.");
        Due.is("P35 not the one that is thrown again", x.likeliest(0), 6);
        // DIE 0 on one plain FACE: 2 of 12, and 1/6, 1/36, 1/216 of that; of 12 to the 5, and DIE 1 2 of 12
        Due.is("P35 ways", x.likeliest(1), 41472L * 259 / 1296);
        x.weigh(1, 0, 0, 1, 5, 5, 1);
        Due.is("P35 of several the least", x.likeliest(0), 9);
        x.weigh(0, 11, 1, 0, 0, 0, 0);
        Due.is("P35 t in the end", x.likeliest(0), 3);
        Due.is("P35 no such what", x.likeliest(2), -1);
        Due.is("P35 no such what", x.likeliest(-1), -1);
        Due.is("P35 no LAWS", new DiceLaw().likeliest(0), -1);
    }

    public static void main(String[] args) {
        odds();
        two();
        holding();
        thrownAgain();
        surely();
        waiting();
        among();
        likely();
        Due.close("OddsTest");
    }
}

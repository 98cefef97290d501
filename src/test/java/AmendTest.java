/** P29 to P31, P38: amendments and what they change. */
public final class AmendTest {
    private static void amend() {
        DiceLaw x = Due.with("ma,na,oa,.,.,.", "na,.,.,.,.,.");
        int[] good = {0, 10, 15, 20, 25, 30, 35, 40, 44, 50, 54, 60};
        for (int clause : good) {
            Due.is("P29 " + clause, x.amend(1, 5, clause), true);
            Due.is("P6 " + clause, x.clause(1, 5), clause);
        }
        int[] wrong = {-1, 1, 9, 16, 19, 26, 29, 36, 39, 45, 49, 55, 59, 61, Integer.MAX_VALUE, Integer.MIN_VALUE};
        for (int clause : wrong) {
            Due.is("P29 no such CLAUSE " + clause, x.amend(1, 5, clause), false);
            Due.is("P30 no such CLAUSE " + clause, x.amended(1, 5, clause, 0), Due.HIDDEN);
        }
        Due.is("P29 refused", x.clause(1, 5), 60);
        Due.is("P29 no such LAW", x.amend(2, 0, 0), false);
        Due.is("P29 no such LAW", x.amend(-1, 0, 0), false);
        Due.is("P29 no such FACE", x.amend(0, 6, 0), false);
        Due.is("P29 no such FACE", x.amend(0, -1, 0), false);
    }

    private static void amended() {
        DiceLaw x = Due.with("ma,na,oa,.,.,.", "na,.,.,.,.,.");
        long cell = 12 * 12 * 12 * 4;
        Due.is("P30 no n more", x.amended(0, 1, 0, 0), 5 * cell);
        Due.is("P30 one n more", x.amended(0, 3, 20, 0), -5 * cell);
        Due.is("P30 another DEED", x.amended(0, 3, 21, 0), 0);
        Due.is("P30 apart", x.clause(0, 3), 0);
        Due.is("P30 THROW AGAIN", x.amended(0, 1, 41, 0), (6 - 1) * cell - cell / 6 + cell / 6);
        x.weigh(1, 0, 12, 0, 0, 0, 0);
        Due.is("P30 of WEIGHT 0", x.amended(1, 0, 0, 0), 0);
        Due.is("P30 no such LAW", x.amended(2, 0, 0, 0), Due.HIDDEN);
        Due.is("P30 no such LAW", x.amended(-1, 0, 0, 0), Due.HIDDEN);
        Due.is("P30 no such FACE", x.amended(0, 6, 0, 0), Due.HIDDEN);
        Due.is("P30 no such FACE", x.amended(0, -1, 0, 0), Due.HIDDEN);
        Due.is("P30 no such DEED", x.amended(0, 0, 0, 6), Due.HIDDEN);
        Due.is("P30 no such DEED", x.amended(0, 0, 0, -1), Due.HIDDEN);
        Due.is("P30 no LAWS", new DiceLaw().amended(0, 0, 0, 0), Due.HIDDEN);
        DiceLaw y = Due.with("na,.,.,.,.,.");
        y.told(0);
        y.amend(0, 0, 0);
        Due.is("P30 what HELD stays", y.amended(0, 1, 60, 0), -3456);
    }

    private static void help() {
        DiceLaw x = Due.with(".,.,.,.,.,.");
        Due.is("P31 nothing helps: the lowest", x.help(0, 0), 0);
        Due.is("P31 by nothing", x.help(0, 1), 0);
        DiceLaw y = Due.with("na,na,na,na,na,na", ".,.,.,.,.,.");
        Due.is("P31 nothing for one n", y.help(0, 0), 0);
        Due.is("P31 by a sixth", y.help(0, 1), 41472);
        y.weigh(0, 1, 1, 1, 1, 1, 7);
        Due.is("P31 the heaviest FACE", y.help(0, 0), 500);
        Due.is("P31 by 7 of 12", y.help(0, 1), 248832 / 12 * 7);
        y.weigh(0, 2, 2, 2, 2, 2, 2);
        Due.is("P31 another DEED", y.help(5, 0), 0);
        DiceLaw z = Due.with("na,na,na,na,na,na", "na,na,na,na,na,na", "ma,ma,ma,ma,ma,ma", "ma,ma,ma,ma,ma,.");
        // a m for a n of LAW 0 tips 3 against 1, where . does with 2 against 1 but on the FACE without m
        Due.is("P31 MAY", z.help(0, 0), 10);
        z.weigh(3, 0, 0, 0, 0, 0, 12);
        Due.is("P31 MAY again", z.help(0, 0), 10);
        z.amend(3, 5, 10);
        Due.is("P31 . is enough then", z.help(0, 0), 0);
        DiceLaw t = Due.with("t1,t1,t1,t1,t1,t1", "na,na,na,na,na,.");
        t.weigh(1, 0, 0, 0, 0, 1, 11);
        Due.is("P31 the next LAW", t.help(0, 0), 1400);
        Due.is("P31 by 1 of 12", t.help(0, 1), 20736);
        DiceLaw n = Due.with("na,na,na,na,na,na", "na,na,na,na,na,na");
        Due.is("P31 never LAWFUL all the same", n.help(0, 0), 0);
        Due.is("P31 by nothing all the same", n.help(0, 1), 0);
        DiceLaw worse = Due.with("c1,c1,c1,c1,c1,c1", "ma,ma,ma,ma,ma,ma", "na,na,na,na,na,na");
        Due.is("P31 what is so already", worse.help(0, 0), 10);
        Due.is("P31 by nothing, with MAY", worse.help(0, 1), 0);
        Due.is("P31 no such DEED", x.help(6, 0), Due.HIDDEN);
        Due.is("P31 no such DEED", x.help(-1, 0), Due.HIDDEN);
        Due.is("P31 no such what", x.help(0, 2), Due.HIDDEN);
        Due.is("P31 no such what", x.help(0, -1), Due.HIDDEN);
        Due.is("P31 no LAWS", new DiceLaw().help(0, 0), Due.HIDDEN);
    }

    private static void change() {
        DiceLaw x = Due.with("na,.,.,.,.,ma");
        Due.is("P38 off n", x.change(0, 0, 3, 0), 1728);
        Due.is("P38 on n", x.change(0, 3, 0, 0), -1728);
        Due.is("P38 among others", x.change(0, 3, 5, 0), 0);
        Due.is("P38 apart", x.weight(0, 0), 2);
        x.weigh(0, 0, 0, 12, 0, 0, 0);
        Due.is("P38 from 12", x.change(0, 2, 0, 0), -1728);
        Due.is("P38 there is no WEIGHT", x.change(0, 0, 2, 0), Due.HIDDEN);
        Due.is("P38 alike", x.change(0, 2, 2, 0), Due.HIDDEN);
        Due.is("P38 no such LAW", x.change(1, 2, 0, 0), Due.HIDDEN);
        Due.is("P38 no such LAW", x.change(-1, 2, 0, 0), Due.HIDDEN);
        Due.is("P38 no such FACE", x.change(0, 2, 6, 0), Due.HIDDEN);
        Due.is("P38 no such FACE", x.change(0, -1, 0, 0), Due.HIDDEN);
        Due.is("P38 no such DEED", x.change(0, 2, 0, 6), Due.HIDDEN);
        Due.is("P38 no such DEED", x.change(0, 2, 0, -1), Due.HIDDEN);
        Due.is("P38 no LAWS", new DiceLaw().change(0, 0, 1, 0), Due.HIDDEN);
        DiceLaw y = Due.with("t0,na,.,.,.,.");
        // n in the end, of 12: 2 and t times it; 3 t more, 1 t more: (2)(1 + t + tt + ttt)
        long now = 2 * (1728 + 2 * 144 + 4 * 12 + 8);
        Due.is("P38 less t", y.change(0, 0, 2, 0), now - 2 * (1728 + 144 + 12 + 1));
        Due.is("P38 more t", y.change(0, 2, 0, 0), now - 2 * (1728 + 3 * 144 + 9 * 12 + 27));
    }

    public static void main(String[] args) {
        amend();
        amended();
        help();
        change();
        Due.close("AmendTest");
    }
}

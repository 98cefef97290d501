/** P9 to P15: draws, DAWNS, what HELD, what is LAWFUL; P43, P44: IMAGES. */
public final class DawnTest {
    private static final String PLAIN = "ma,na,oa,.,mb,nb";

    // the first draws of seed 0 modulo 12 are 11, 0, 1, 4, 5, 8
    private static void draws() {
        DiceLaw x = Due.with(PLAIN, PLAIN);
        Due.is("P10 first", x.dawn(), 1);
        Due.is("P10 LAW 0 is thrown first", x.day(0, 0), 6 * 5 + 0);
        Due.is("P13 none thrown again", x.day(0, 1), 0);
        Due.is("P10 second", x.dawn(), 2);
        Due.is("P10 the draws go on", x.day(1, 0), 6 * 0 + 2);
        x.undo();
        x.weigh(0, 0, 1, 0, 0, 0, 11);
        x.weigh(1, 4, 0, 1, 7, 0, 0);
        x.dawn();
        Due.is("P12 the draws are undone, P10 by WEIGHTS", x.day(1, 0), 6 * 5 + 2);
        x.seed(0);
        x.dawn();
        Due.is("P9 seed 0", x.day(2, 0), 6 * 5 + 0);
        x.seed(6364136223846793005L);
        x.dawn();
        x.seed(-1);
        x.dawn();
        long draw = 1442695040888963407L - 6364136223846793005L;
        Due.is("P9 below 0: without sign", x.day(4, 0) / 6, (draw >>> 33) % 12 == 0 ? 1 : 5);
    }

    private static void thrownAgain() {
        // draws 11, 0: LAW 0 throws DIE 1, which had shown face 0, again: draw 1
        DiceLaw x = Due.with(".,.,.,.,.,t1", PLAIN);
        x.dawn();
        Due.is("P10 DIE 1 again", x.day(0, 0), 30);
        Due.is("P13 once", x.day(0, 1), 1);
        // LAW 0 has itself thrown again: draws 11, 0, then 1
        DiceLaw y = Due.with(".,.,.,.,.,t0", PLAIN);
        y.dawn();
        Due.is("P10 itself again", y.day(0, 0), 0);
        Due.is("P13 itself once", y.day(0, 1), 1);
        // a LAW that is not there
        DiceLaw z = Due.with(".,.,.,.,.,t2", PLAIN);
        z.dawn();
        Due.is("P10 no LAW 2", z.day(0, 1), 0);
        // 11 and 0: both show t; LAW 0 throws DIE 1 (1: face 0 again), so LAW 1 has not done so since it fell:
        // it throws DIE 0 (4: face 2, nothing)
        DiceLaw w = Due.with(".,.,.,.,.,t1", "t0,.,.,.,.,.");
        w.dawn();
        Due.is("P10 one behind the other", w.day(0, 0), 12);
        Due.is("P13 twice", w.day(0, 1), 2);
        // t all over: three times at most
        DiceLaw v = Due.with("t0,t0,t0,t0,t0,t0");
        v.dawn();
        Due.is("P13 three at most", v.day(0, 1), 3);
        Due.is("P10 the fourth draw", v.day(0, 0), 2);
        Due.is("P14 t is nothing", v.held(0, 0), 0);
        // LAW 0 does it once only, as its own DIE has not fallen again
        DiceLaw u = Due.with("t1,t1,t1,t1,t1,t1", PLAIN);
        u.dawn();
        Due.is("P13 once for one fall", u.day(0, 1), 1);
    }

    private static void toldDawns() {
        DiceLaw x = Due.with(PLAIN, PLAIN);
        Due.is("P11 below", x.told(-1), -1);
        Due.is("P11 above", x.told(36), -1);
        Due.is("P11 far", x.told(Integer.MAX_VALUE), -1);
        Due.is("P11 the last", x.told(35), 1);
        Due.is("P13 FACES", x.day(0, 0), 35);
        x.weigh(0, 12, 0, 0, 0, 0, 0);
        Due.is("P11 of WEIGHT 0", x.told(6), 2);
        Due.is("P11 takes no draws", x.dawn(), 3);
        Due.is("P11 takes no draws", x.day(2, 0), 0);
        for (int i = 3; i < 40; i++) {
            Due.is("P11 more", x.told(i % 36), i + 1);
        }
        Due.is("P11 40 are there", x.told(0), -1);
        Due.is("P10 40 are there", x.dawn(), -1);
        Due.is("P45 DAWNS", x.count(3), 40);
        Due.is("P12 undo", x.undo(), 39);
        Due.is("P10 one more then", x.dawn(), 40);
        DiceLaw five = Due.with(PLAIN, PLAIN, PLAIN, PLAIN, PLAIN);
        Due.is("P11 five LAWS", five.told(7775), 1);
        Due.is("P11 five LAWS, above", five.told(7776), -1);
        Due.is("P13 five LAWS", five.day(0, 0), 7775);
        DiceLaw t = Due.with("t0,.,.,.,.,.");
        t.told(0);
        Due.is("P13 as told: 0", t.day(0, 1), 0);
        Due.is("P11 as they lie in the end", t.day(0, 0), 0);
        Due.is("P13 no such day", x.day(40, 0), -1);
        Due.is("P13 no such day", x.day(-1, 0), -1);
        Due.is("P13 no such what", x.day(0, 2), -1);
        Due.is("P13 no such what", x.day(0, -1), -1);
        Due.is("P10 no LAWS", new DiceLaw().dawn(), -1);
        Due.is("P11 no LAWS", new DiceLaw().told(0), -1);
    }

    private static void undone() {
        DiceLaw x = Due.with(PLAIN);
        Due.is("P12 none", x.undo(), -1);
        x.told(0);
        x.told(1);
        x.act(0, 0, 0);
        x.act(0, 0, 1);
        x.act(5, 5, 1);
        Due.is("P45 DEEDS", x.count(4), 3);
        Due.is("P12 one", x.undo(), 1);
        Due.is("P12 DEEDS of that day too", x.count(4), 1);
        Due.is("P12 its place is gone", x.held(0, 1), -1);
        x.told(1);
        Due.is("P12 they stay undone", x.act(5, 5, 1), 2);
        x.undo();
        Due.is("P12 the last", x.undo(), 0);
        Due.is("P12 none more", x.undo(), -1);
        Due.is("P12 no DEEDS", x.count(4), 0);
        x.seed(77);
        x.dawn();
        int first = x.day(0, 0);
        x.seed(5);
        x.undo();
        x.dawn();
        Due.is("P12 the draws as they were ahead of it", x.day(0, 0), first);
    }

    private static void whatHeld() {
        DiceLaw x = Due.with("c1,c0,c4,y,t1,ma", "c2,nb,oc,y,c0,.", "c0,c2,od,y,y,mb");
        x.told(0);
        for (int law = 0; law < 3; law++) {
            Due.is("P14 goes round", x.held(law, 0), 0);
        }
        x.told(36 * 0 + 6 * 0 + 5);
        Due.is("P14 a COPY of a COPY", x.held(0, 1), 11);
        Due.is("P14 a COPY", x.held(1, 1), 11);
        Due.is("P14 its own", x.held(2, 1), 11);
        x.told(36 * 1 + 6 * 0 + 1);
        Due.is("P14 a COPY of itself", x.held(0, 2), 0);
        Due.is("P14 a COPY of one of itself", x.held(1, 2), 0);
        x.told(36 * 2 + 6 * 2 + 2);
        Due.is("P14 no LAW 4", x.held(0, 3), 0);
        Due.is("P14 MUST", x.held(1, 3), 32);
        x.told(36 * 3 + 6 * 3 + 3);
        Due.is("P14 YESTERDAY: nothing", x.held(0, 4), 0);
        Due.is("P14 YESTERDAY", x.held(1, 4), 32);
        x.told(36 * 0 + 6 * 3 + 3);
        Due.is("P14 a COPY of YESTERDAY", x.held(0, 5), 32);
        Due.is("P14 YESTERDAY of YESTERDAY", x.held(1, 5), 32);
        x.told(36 * 4 + 6 * 4 + 3);
        Due.is("P14 THROW AGAIN is nothing", x.held(0, 6), 0);
        Due.is("P14 a COPY of THROW AGAIN", x.held(1, 6), 0);
        x.amend(2, 3, 10);
        Due.is("P14 what HELD stays", x.held(2, 6), 33);
        x.told(4);
        Due.is("P14 and is YESTERDAY's", x.held(2, 7), 33);
        Due.is("P14 no such LAW", x.held(3, 0), -1);
        Due.is("P14 no such LAW", x.held(-1, 0), -1);
        Due.is("P14 no such day", x.held(0, 8), -1);
        Due.is("P14 no such day", x.held(0, -1), -1);
        DiceLaw y = Due.with("y,.,.,.,.,.");
        y.told(0);
        Due.is("P14 no DAWN ahead", y.held(0, 0), 0);
    }

    private static void lawful() {
        String law = "ma,na,oa,.,mb,ob";
        DiceLaw x = Due.with(law, law, law);
        int[] told = {0 * 36 + 1 * 6 + 3, 0 * 36 + 0 * 6 + 1, 1 * 36 + 2 * 6 + 3, 2 * 36 + 2 * 6 + 3, 3 * 43,
            1 * 36 + 1 * 6 + 0, 5 * 36 + 4 * 6 + 2};
        int[][] due = {{0, 0, 1, 1, 0}, {1, 0, 2, 1, 0}, {0, 0, 0, 1, 1}, {1, 1, 0, 0, 2}, {1, 0, 0, 0, 0},
            {0, 0, 1, 2, 0}, {1, 1, 0, 0, 1}};
        for (int day = 0; day < told.length; day++) {
            x.told(told[day]);
            for (int what = 0; what < 5; what++) {
                Due.is("P15 day " + day + " what " + what, x.deed(0, day, what), due[day][what]);
            }
        }
        Due.is("P15 another DEED is ALLOWED", x.deed(1, 6, 2), 1);
        Due.is("P15 another DEED MUST be done", x.deed(1, 6, 1), 1);
        Due.is("P15 a DEED of which nothing is told", x.deed(5, 6, 0), 1);
        Due.is("P15 no such DEED", x.deed(6, 0, 0), -1);
        Due.is("P15 no such DEED", x.deed(-1, 0, 0), -1);
        Due.is("P15 no such day", x.deed(0, 7, 0), -1);
        Due.is("P15 no such day", x.deed(0, -1, 0), -1);
        Due.is("P15 no such what", x.deed(0, 0, 5), -1);
        Due.is("P15 no such what", x.deed(0, 0, -1), -1);
    }

    private static void images() {
        DiceLaw x = Due.with(PLAIN);
        Due.is("P44 none", x.back(), -1);
        Due.is("P43 no DAWNS", x.image(), 0);
        Due.type(x, PLAIN);
        x.text(0);
        Due.is("P44 LAWS", x.back(), 0);
        Due.is("P44 LAWS as they were", x.count(0), 1);
        x.weigh(0, 12, 0, 0, 0, 0, 0);
        x.dawn();
        x.told(1);
        x.act(3, 2, 1);
        x.suspect(12, 0, 0, 0, 0, 0);
        Due.is("P43 two DAWNS", x.image(), 2);
        x.undo();
        x.weigh(0, 0, 12, 0, 0, 0, 0);
        x.amend(0, 0, 60);
        x.dawn();
        x.dawn();
        x.dawn();
        x.act(1, 1, 1);
        x.act(1, 1, 2);
        x.suspect(0, 12, 0, 0, 0, 0);
        Due.rule(x, "y:1");
        Due.type(x, "y");
        Due.is("P44 BACK", x.back(), 2);
        Due.is("P44 DAWNS", x.count(3), 2);
        Due.is("P44 DEEDS", x.count(4), 1);
        Due.is("P44 which DEEDS", x.act(3, 2, 1), -1);
        Due.is("P44 which DEEDS", x.idle(1), 2);
        Due.is("P44 FACES", x.day(1, 0), 1);
        Due.is("P44 what HELD", x.held(0, 1), 20);
        Due.is("P44 CLAUSES", x.clause(0, 0), 10);
        Due.is("P44 WEIGHTS", x.weight(0, 0), 12);
        Due.is("P44 RULES are not in it", x.count(1), 1);
        Due.is("P44 the TAPE is not in it", x.count(2), 1);
        Due.is("P44 WEIGHTS that are asked are not in it", x.named(0, 1, 6), 1);
        x.weigh(0, 2, 2, 2, 2, 2, 2);
        x.dawn();
        Due.is("P44 the draws go on behind the first", x.day(2, 0), 0);
        Due.is("P44 once more", x.back(), 2);
        Due.is("P43 another", x.image(), 2);
        x.undo();
        Due.is("P43 instead of the one ahead", x.image(), 1);
        x.undo();
        Due.is("P44 the later one", x.back(), 1);
    }

    public static void main(String[] args) {
        draws();
        thrownAgain();
        toldDawns();
        undone();
        whatHeld();
        lawful();
        images();
        Due.close("DawnTest");
    }
}

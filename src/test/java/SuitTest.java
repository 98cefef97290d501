/** P24 to P28, P39 to P42: DEEDS, SUITS, NAMED DICE, what the DIARY tells. */
public final class SuitTest {
    private static final String LAW = "ma,na,oa,.,nb,ob";

    private static void acts() {
        DiceLaw x = Due.with(LAW);
        Due.is("P24 no day", x.act(0, 0, 0), -1);
        x.told(0);
        x.told(1);
        Due.is("P24 the first", x.act(0, 0, 0), 1);
        Due.is("P24 it did", x.act(0, 0, 0), -1);
        Due.is("P24 on another day", x.act(0, 0, 1), 2);
        Due.is("P24 another DEED", x.act(0, 5, 0), 3);
        Due.is("P24 another PERSON", x.act(5, 0, 0), 4);
        Due.is("P24 no such PERSON", x.act(6, 0, 0), -1);
        Due.is("P24 no such PERSON", x.act(-1, 0, 0), -1);
        Due.is("P24 no such DEED", x.act(0, 6, 0), -1);
        Due.is("P24 no such DEED", x.act(0, -1, 0), -1);
        Due.is("P24 no such day", x.act(0, 1, 2), -1);
        Due.is("P24 no such day", x.act(0, 1, -1), -1);
        Due.is("P45 DEEDS", x.count(4), 4);
        DiceLaw y = Due.with(LAW);
        y.told(0);
        y.told(0);
        for (int i = 0; i < 60; i++) {
            Due.is("P24 up to 60", y.act(i % 6, i / 6 % 6, i / 36), i + 1);
        }
        Due.is("P24 60 are there", y.act(5, 5, 1), -1);
        y.undo();
        Due.is("P24 36 are left", y.count(4), 36);
        y.told(0);
        Due.is("P24 again", y.act(5, 5, 1), 37);
    }

    private static void suits() {
        DiceLaw x = Due.with(LAW);
        x.told(2);
        x.told(1);
        x.told(4);
        x.told(5);
        x.act(0, 0, 0);
        x.act(0, 1, 2);
        x.act(0, 0, 1);
        x.act(0, 5, 1);
        x.act(1, 1, 3);
        Due.is("P25 how many", x.suit(0, -1), 3);
        Due.is("P25 one it did", x.suit(0, 0), 12);
        Due.is("P25 another one it did", x.suit(0, 1), 12 * 2 + 2);
        Due.is("P25 one it left", x.suit(0, 2), 12 * 3 + 2 + 1);
        Due.is("P25 behind the last", x.suit(0, 3), -1);
        Due.is("P25 below NONE", x.suit(0, -2), -1);
        Due.is("P25 another PERSON", x.suit(1, -1), 1);
        Due.is("P25 it left DEED 0", x.suit(1, 0), 1);
        Due.is("P25 no such PERSON", x.suit(6, -1), -1);
        Due.is("P25 no such PERSON", x.suit(-1, -1), -1);
        Due.is("P41 IDLE", x.idle(0), 1);
        Due.is("P41 IDLE", x.idle(1), 3);
        Due.is("P41 IDLE", x.idle(5), 4);
        Due.is("P41 no such PERSON", x.idle(6), -1);
        Due.is("P41 no such PERSON", x.idle(-1), -1);
        Due.is("P41 no DAWNS", new DiceLaw().idle(0), 0);
        Due.is("P25 no DAWNS", new DiceLaw().suit(0, -1), 0);
        DiceLaw y = Due.with("oa,ob,.,.,.,.", "ob,oa,.,.,.,.");
        y.told(0);
        Due.is("P25 by DEEDS", y.suit(0, 0), 1);
        Due.is("P25 then the next DEED", y.suit(0, 1), 3);
    }

    private static void named() {
        DiceLaw x = Due.with(LAW, LAW);
        int[] faces = {0, 1, 1, 2, 1};
        for (int face : faces) {
            x.told(6 * face + 5 - face);
        }
        Due.is("P27 even at first", x.named(0, 5, 1), 1);
        Due.is("P27 even is not twice even", x.named(0, 5, 2), 0);
        DiceLaw even = Due.with(LAW);
        for (int face = 0; face < 6; face++) {
            even.told(face);
            Due.is("P26 2 each at first", even.named(0, 1, 1), 1);
            Due.is("P26 no more than 2 each at first", even.named(0, 1, 2), 0);
        }
        Due.is("P26 suspect", x.suspect(1, 6, 3, 0, 2, 0), true);
        // of the latest: 6, 3, 6, 6, 1 against 2 each
        int[] most = {3, 4, 13, 40, 20};
        for (int i = 0; i < 5; i++) {
            Due.is("P27 so much", x.named(0, i + 1, most[i]), 1);
            Due.is("P27 not more", x.named(0, i + 1, most[i] + 1), 0);
        }
        Due.is("P27 the other DIE", x.named(1, 1, 1), 1);
        Due.is("P27 a WEIGHT of 0", x.named(1, 2, 1), 0);
        Due.is("P28 one", x.enough(0, 3), 1);
        Due.is("P28 two", x.enough(0, 4), 2);
        Due.is("P28 three", x.enough(0, 13), 3);
        Due.is("P28 four", x.enough(0, 40), 4);
        Due.is("P28 none", x.enough(0, 41), -1);
        int[][] wrong = {{2, 1, 1}, {-1, 1, 1}, {0, 0, 1}, {0, 6, 1}, {0, -1, 1}, {0, 1, 0}, {0, 1, 1001}};
        for (int[] w : wrong) {
            Due.is("P27 no such ones", x.named(w[0], w[1], w[2]), -1);
        }
        Due.is("P28 no such LAW", x.enough(2, 1), -1);
        Due.is("P28 no such LAW", x.enough(-1, 1), -1);
        Due.is("P28 no such DOUBT", x.enough(0, 0), -1);
        Due.is("P28 no such DOUBT", x.enough(0, 1001), -1);
        Due.is("P26 11", x.suspect(1, 2, 2, 2, 2, 2), false);
        Due.is("P26 above 12", x.suspect(13, -1, 0, 0, 0, 0), false);
        Due.is("P26 below 0", x.suspect(12, 1, -1, 0, 0, 0), false);
        Due.is("P26 refused", x.named(0, 1, 3), 1);
        Due.is("P26 an empty one", new DiceLaw().suspect(12, 0, 0, 0, 0, 0), true);
    }

    private static void fifteen() {
        DiceLaw x = Due.with(LAW);
        x.suspect(12, 0, 0, 0, 0, 0);
        for (int i = 0; i < 20; i++) {
            x.told(0);
        }
        Due.is("P27 of 15", x.named(0, 15, 1000), 1);
        Due.is("P27 more than 15", x.named(0, 16, 1), -1);
        x.suspect(3, 9, 0, 0, 0, 0);
        // 1.5 to the 15 is 437.89
        Due.is("P28 fifteen", x.enough(0, 437), 15);
        Due.is("P28 none to 15", x.enough(0, 438), -1);
    }

    private static void rows() {
        DiceLaw x = Due.with(LAW, LAW);
        int[] told = {1, 2, 3, 1, 0, 4, 3, 1, 20};
        for (int day : told) {
            x.told(18 + day % 18);
        }
        Due.is("P39 the longest", x.run(0, 0), 3);
        Due.is("P39 its first day", x.run(0, 1), 4);
        Due.is("P39 another DEED", x.run(1, 0), 5);
        Due.is("P39 of several the first", x.run(1, 1), 0);
        Due.is("P39 all days", x.run(5, 0), 9);
        Due.is("P40 PEACE", x.peace(0), 5);
        Due.is("P40 the first", x.peace(1), 1);
        Due.is("P42 BUSIEST", x.busiest(), 1);
        x.told(6 * 2 + 5);
        Due.is("P42 two DEEDS", x.busiest(), 9);
        x.told(6 * 5 + 2);
        Due.is("P42 of several the first", x.busiest(), 9);
        Due.is("P39 no such DEED", x.run(6, 0), Due.HIDDEN);
        Due.is("P39 no such DEED", x.run(-1, 0), Due.HIDDEN);
        Due.is("P39 no such what", x.run(0, 2), Due.HIDDEN);
        Due.is("P39 no such what", x.run(0, -1), Due.HIDDEN);
        Due.is("P40 no such what", x.peace(2), Due.HIDDEN);
        Due.is("P40 no such what", x.peace(-1), Due.HIDDEN);
        DiceLaw y = Due.with("na,na,na,na,na,na", "ma,ma,ma,ma,ma,oa", "ma,oa,oa,oa,oa,oa");
        Due.is("P42 no DAWNS", y.busiest(), -1);
        Due.is("P39 no DAWNS", y.run(0, 1), -1);
        y.told(7);
        Due.is("P39 never LAWFUL", y.run(0, 0), 0);
        Due.is("P39 no first day", y.run(0, 1), -1);
        Due.is("P40 no PEACE", y.peace(0), 0);
        Due.is("P40 no first day", y.peace(1), -1);
        Due.is("P42 nothing MUST be done", y.busiest(), 0);
        y.told(0);
        Due.is("P39 LAWFUL", y.run(0, 1), 1);
        Due.is("P40 LAWFUL and yet FORBIDDEN", y.peace(0), 0);
        DiceLaw z = Due.with("oa,.,.,.,.,.", "oa,ob,.,.,.,.", "oa,.,.,.,.,.");
        z.told(0);
        z.told(6);
        Due.is("P42 each counted once", z.busiest(), 1);
    }

    public static void main(String[] args) {
        acts();
        suits();
        named();
        fifteen();
        rows();
        Due.close("SuitTest");
    }
}

/** Edges of a new object, of the TAPE, of LAWS as TEXTS, of which LAWS and RULES there are, of WEIGHTS: P1 to P8. */
public final class EdgeTextTest {
    private static final int DOTS = 0x2E2E2E2E;
    private static final String SIX = ".,.,.,.,.,.";

    private static void constants() {
        Edge.of("P1", "`NONE = -1`: None; refused.");
        Edge.is("NONE", DiceLaw.NONE, -1);
        Edge.of("P1", "`HIDDEN = -1000000000`: Not told.");
        Edge.is("HIDDEN", DiceLaw.HIDDEN, -1000000000);
    }

    private static void newObject() {
        Edge.of("P1", "No LAWS.");
        DiceLaw x = new DiceLaw();
        for (int what = 0; what < 5; what++) {
            Edge.is("count " + what, x.count(what), 0);
        }
        Edge.is("clause", Edge.clause(x, 0, 0), Edge.THROWS);
        Edge.is("weight", x.weight(0, 0), -1);
        Edge.is("nothing to undo", x.undo(), -1);
        Edge.is("no IMAGE", x.back(), -1);
        Edge.is("an empty TAPE", x.fault(0), 0);
        Due.type(x, SIX);
        Edge.is("the first LAW is 0", x.text(0), 0);
        Edge.is("one LAW then", x.count(0), 1);
        Edge.is("the first RULE is 0", Due.rule(x, "y:1"), 0);
    }

    /** The last call of 512 is answered as any other. */
    private static void lastCall() {
        Edge.of("P45", "An object is used for at most 512 calls after it has been made");
        DiceLaw x = new DiceLaw();
        for (int call = 1; call <= 511; call++) {
            x.feed(0, 0, 0, 0, call < 511 ? 0 : '.');
        }
        Edge.is("call 512", x.count(2), 1);
        DiceLaw y = Due.with(SIX);
        for (int call = 4; call <= 510; call++) {
            y.dawn();
            call++;
            y.undo();
        }
        Edge.is("call 512", y.dawn(), 1);
    }

    private static void bytes() {
        Edge.of("P2", "Twenty bytes more come to the TAPE (of each number the highest first; bytes of 0 are left "
                + "out): how many it has.");
        DiceLaw x = new DiceLaw();
        Edge.is("twenty", x.feed(0x6D612C6E, 0x622C6F63, 0x2C74332C, 0x63342C79, 0x20202020), 20);
        Edge.is("they are a LAW", x.text(0), 0);
        int[] clauses = {10, 21, 32, 43, 54, 60};
        for (int face = 0; face < 6; face++) {
            Edge.is("in their order: FACE " + face, x.clause(0, face), clauses[face]);
        }
        Edge.is("none", x.feed(0, 0, 0, 0, 0), 0);
        Edge.is("a 0 in each place", x.feed(0x006D0061, 0x2C002E00, 0x2C2E0000, 0x00002C2E, 0x2C00002E), 10);
        Edge.is("more behind them", x.feed(0x0000002C, 0x2E000000, 0, 0, 0), 12);
        Edge.is("none more", x.feed(0, 0, 0, 0, 0), 12);
        Edge.is("they are a LAW too", x.text(0), 1);
        Edge.is("its first CLAUSE", x.clause(1, 0), 10);
        Edge.is("its last CLAUSE", x.clause(1, 5), 0);
        Edge.is("bytes of 255", x.feed(-1, -1, -1, -1, -1), 20);
        Edge.is("bytes of 128", x.feed(0x80000000, 0x800000, 0x8000, 0x80, 0), 24);
        Edge.is("bytes of 1", x.feed(0x01000000, 0x10000, 0x100, 1, 0x01010101), 32);
        DiceLaw y = new DiceLaw();
        y.feed(0x2EAC2E2C, 0, 0, 0, 0);
        Edge.is("a byte above 127 is no other sign", y.fault(0), 1);
    }

    private static DiceLaw filled(int bytes) {
        DiceLaw x = new DiceLaw();
        for (int i = 0; i < 6; i++) {
            x.feed(DOTS, DOTS, DOTS, DOTS, DOTS);
        }
        x.end(bytes);
        return x;
    }

    private static void full() {
        Edge.of("P2", "NONE: more than 120.");
        DiceLaw x = new DiceLaw();
        for (int i = 1; i <= 6; i++) {
            Edge.is("twenty more", x.feed(DOTS, DOTS, DOTS, DOTS, DOTS), 20 * i);
        }
        Edge.is("120 and nothing more", x.feed(0, 0, 0, 0, 0), 120);
        Edge.refused("one more", () -> filled(120), -1, y -> y.feed(0, 0, 0, 0, 1));
        Edge.refused("one more, ahead", () -> filled(120), -1, y -> y.feed(0x01000000, 0, 0, 0, 0));
        Edge.refused("a byte of 128 more", () -> filled(120), -1, y -> y.feed(0, 0, Integer.MIN_VALUE, 0, 0));
        Edge.refused("twenty more", States.FULL, -1, y -> y.feed(-1, -1, -1, -1, -1));
        Edge.is("the 120th", filled(119).feed(0, 0x2E0000, 0, 0, 0), 120);
        Edge.refused("two behind 119", () -> filled(119), -1, y -> y.feed(0x2E, 0, 0, 0, 0x2E));
        Edge.is("twenty behind 100", filled(100).feed(DOTS, DOTS, DOTS, DOTS, DOTS), 120);
        Edge.is("nineteen behind 101", filled(101).feed(DOTS, DOTS, DOTS, DOTS, 0x2E2E002E), 120);
        Edge.refused("twenty behind 101", () -> filled(101), -1, y -> y.feed(DOTS, DOTS, DOTS, DOTS, DOTS));
        for (int a = 0; a < 32; a++) {
            Edge.is("bit " + a + " of a number behind 120", filled(120).feed(0, 1 << a, 0, 0, 0), -1);
            Edge.is("bit " + a + " of a number behind 119", filled(119).feed(0, 1 << a, 0, 0, 0), 120);
            for (int b = 0; b < 32; b++) {
                int two = 1 << a | 1 << b;
                boolean one = a / 8 == b / 8;
                String bits = "bits " + a + " and " + b;
                Edge.is(bits + " behind 119", filled(119).feed(two, 0, 0, 0, 0), one ? 120 : -1);
                Edge.is(bits + " behind 118", filled(118).feed(0, 0, 0, 0, two), one ? 119 : 120);
            }
        }
    }

    private static void ended() {
        Edge.of("P3", "The TAPE has its first n bytes alone.");
        DiceLaw x = new DiceLaw();
        Due.type(x, ".,.,ma");
        Edge.is("all of them", x.end(6), true);
        Edge.is("six", x.count(2), 6);
        Edge.is("five", x.end(5), true);
        Edge.is("the last is gone", x.fault(0), 5);
        Edge.is("it does not come again", x.end(6), false);
        x.feed(0, 0, 0, 0, 'b');
        Edge.is("more comes behind them", x.count(2), 6);
        Due.is("P3 four", x.end(4), true);
        Edge.is("the first ones stay", x.fault(0), 4);
        x.feed(0, 0, 0, 0, '!');
        Edge.is("the fifth", x.fault(0), 4);
        Edge.is("none", x.end(0), true);
        Edge.is("empty", x.count(2), 0);
        Edge.is("none of none", x.end(0), true);
        Edge.is("119 of 120", filled(119).count(2), 119);
        DiceLaw digits = Due.with(SIX);
        digits.told(0);
        Due.type(digits, "y:01");
        digits.end(3);
        Edge.is("a digit that is gone does not count", digits.text(1), 0);
        Edge.is("nor in the RULE", digits.follow(0, 0, 0), 0);
        Due.type(digits, SIX + ",");
        digits.end(11);
        Edge.is("a sign that is gone is no FAULT", digits.fault(0), -1);
        digits.end(10);
        Edge.is("one that is gone ends no LAW", digits.fault(0), 10);
        Edge.of("P3", "False: n.");
        Edge.is("one of none", x.end(1), false);
        Edge.is("below 0 of none", x.end(-1), false);
        Edge.refused("121 of 120", () -> filled(120), 0, y -> y.end(121) ? 1 : 0);
        Edge.refused("120 of 119", () -> filled(119), 0, y -> y.end(120) ? 1 : 0);
    }

    private static void faultsOfLaws() {
        Edge.of("P4", "The FAULT of the TAPE as a LAW (0), a RULE (1).");
        Edge.is("a RULE as a LAW", Due.fault(0, "y:1"), 1);
        Edge.is("a LAW as a RULE", Due.fault(1, "y,.,.,.,.,."), 1);
        Edge.is("an empty one as a LAW", Due.fault(0, ""), 0);
        Edge.is("an empty one as a RULE", Due.fault(1, ""), 0);
        Edge.of("P4", "NONE: none.");
        Edge.is("a LAW", Due.fault(0, SIX), -1);
        Edge.is("a RULE", Due.fault(1, "y:1"), -1);
        Edge.is("a LAW of 120 bytes", Due.fault(0, SIX + " ".repeat(109)), -1);
        Edge.of("P4", "(the length, if it ends too early)");
        String law = " ma, nb ,oc,t4,c0,y";
        for (int n = 0; n < law.length(); n++) {
            Edge.is("the first " + n + " bytes of a LAW", Due.fault(0, law.substring(0, n)), n);
        }
        Edge.is("120 blanks", Due.fault(0, " ".repeat(120)), 120);
        Edge.is("120 blanks as a RULE", Due.fault(1, " ".repeat(120)), 120);
        Edge.of("P4", "the , ahead of a seventh CLAUSE of a LAW");
        Edge.is("it", Due.fault(0, SIX + ",."), 11);
        Edge.is("it alone", Due.fault(0, SIX + ","), 11);
        Edge.is("it behind blanks", Due.fault(0, SIX + "  ,."), 13);
        Edge.is("the byte 119 of 120", Due.fault(0, SIX + " ".repeat(108) + ","), 119);
        Edge.of("P4", "six CLAUSES with , between");
        Edge.is("five", Due.fault(0, ".,.,.,.,."), 9);
        Edge.is("six", Due.fault(0, SIX), -1);
        Edge.is("two without , between", Due.fault(0, "..,.,.,.,."), 1);
        Edge.is("two , between", Due.fault(0, ".,,.,.,.,."), 2);
        Edge.is("the , ahead of the first", Due.fault(0, "," + SIX), 0);
        Edge.is("another sign between", Due.fault(0, ".;.,.,.,.,."), 1);
    }

    /** Every byte where a CLAUSE begins, behind m n o, behind t c, behind a CLAUSE. */
    private static void signsOfLaws() {
        for (int b = 1; b < 256; b++) {
            String sign = "" + (char) b;
            Edge.of("P4", "the first byte at which no such TEXT can go on");
            int begins = ".y".indexOf(b) >= 0 ? 1 : "mnotc ".indexOf(b) >= 0 ? 1 : 0;
            Edge.is("byte " + b + " begins", Due.fault(0, sign), begins);
            int follows = b == ',' || b == ' ' ? 2 : 1;
            Edge.is("byte " + b + " behind a CLAUSE", Due.fault(0, "." + sign), follows);
            Edge.is("byte " + b + " behind the last", Due.fault(0, SIX + sign), b == ' ' ? -1 : 11);
            Edge.of("P4", "a letter that is no DEED's");
            for (String what : new String[] {"m", "n", "o"}) {
                boolean deed = b >= 'a' && b <= 'f' || b == ' ';
                Edge.is("byte " + b + " behind " + what, Due.fault(0, what + sign), deed ? 2 : 1);
            }
            Edge.of("P4", "a digit that is no LAW's");
            for (String what : new String[] {"t", "c"}) {
                boolean law = b >= '0' && b <= '4' || b == ' ';
                Edge.is("byte " + b + " behind " + what, Due.fault(0, what + sign), law ? 2 : 1);
            }
        }
        Edge.of("P4", "a digit that is no LAW's");
        Edge.is("a second digit", Due.fault(0, "t00"), 2);
        Edge.is("a second digit behind a blank", Due.fault(0, "c4 0"), 3);
    }

    private static void clauses() {
        Edge.of("P6", "The CLAUSE of a FACE: 0 nothing, 10 MAY, 20 MUST NOT, 30 MUST and the DEED, 40 THROW AGAIN, "
                + "50 COPY and the LAW, 60 YESTERDAY.");
        DiceLaw x = Due.with("ma,mb,mc,md,me,mf", "na,nb,nc,nd,ne,nf", "oa,ob,oc,od,oe,of", "t0,t1,t2,t3,t4,.",
                "c0,c1,c2,c3,c4,y");
        for (int face = 0; face < 6; face++) {
            Edge.is("MAY " + face, x.clause(0, face), 10 + face);
            Edge.is("MUST NOT " + face, x.clause(1, face), 20 + face);
            Edge.is("MUST " + face, x.clause(2, face), 30 + face);
            Edge.is("THROW AGAIN " + face, x.clause(3, face), face < 5 ? 40 + face : 0);
            Edge.is("COPY " + face, x.clause(4, face), face < 5 ? 50 + face : 60);
        }
        Edge.of("P6", "FACES 0 .. 5 (its CLAUSES in order)");
        DiceLaw order = Due.with("ma,.,.,.,.,of");
        Edge.is("the first CLAUSE on FACE 0", order.clause(0, 0), 10);
        Edge.is("the last CLAUSE on FACE 5", order.clause(0, 5), 35);
        Edge.is("no FACE ahead of the first", Edge.clause(order, 0, -1), Edge.THROWS);
        Edge.is("no FACE behind the last", Edge.clause(order, 0, 6), Edge.THROWS);
        Edge.of("P6", "a DEED a .. f, t (THROW AGAIN), c (COPY) and a LAW 0 .. 4");
        DiceLaw y = Due.with("ma,nf,t0,t4,c0,c4");
        int[] ends = {10, 25, 40, 44, 50, 54};
        for (int face = 0; face < 6; face++) {
            Edge.is("the first and the last of each " + face, y.clause(0, face), ends[face]);
        }
    }

    private static DiceLaw laws(int many) {
        DiceLaw x = new DiceLaw();
        for (int i = 0; i < many; i++) {
            Due.type(x, SIX);
            x.text(0);
        }
        return x;
    }

    private static DiceLaw typed(DiceLaw x, String text) {
        Due.type(x, text);
        return x;
    }

    private static DiceLaw rules(int many) {
        DiceLaw x = new DiceLaw();
        for (int i = 0; i < many; i++) {
            Due.rule(x, "y:" + i);
        }
        return x;
    }

    private static void howMany() {
        Edge.of("P5", "LAWS (5 at most; numbered from 0)");
        for (int many = 0; many < 5; many++) {
            Edge.is("LAW " + many, typed(laws(many), SIX).text(0), many);
        }
        Edge.refused("a sixth LAW", () -> typed(laws(5), SIX), -1, x -> x.text(0));
        Edge.is("five there are", laws(6).count(0), 5);
        Edge.is("a RULE beside five LAWS", typed(laws(5), "y:1").text(1), 0);
        Edge.of("P5", "RULES (4 at most)");
        for (int many = 0; many < 4; many++) {
            Edge.is("RULE " + many, typed(rules(many), "y:1").text(1), many);
        }
        Edge.refused("a fifth RULE", () -> typed(rules(4), "y:1"), -1, x -> x.text(1));
        Edge.is("four there are", rules(5).count(1), 4);
        Edge.is("a LAW beside four RULES", typed(rules(4), SIX).text(0), 0);
        Edge.of("P5", "The TAPE (empty then; if refused it stays) is one of these: its number.");
        DiceLaw x = typed(laws(4), SIX);
        Edge.is("the last LAW", x.text(0), 4);
        Edge.is("empty then", x.count(2), 0);
        Edge.is("nothing is no LAW", x.text(0), -1);
        Edge.is("nothing is no RULE", x.text(1), -1);
        Due.type(x, SIX);
        Edge.is("there are so many", x.text(0), -1);
        Edge.is("it stays", x.count(2), 11);
        Edge.is("as it was", x.fault(0), -1);
        DiceLaw y = typed(rules(3), "y:7");
        Edge.is("the last RULE", y.text(1), 3);
        Edge.is("empty then", y.count(2), 0);
    }

    private static void refusedTexts() {
        Edge.of("P5", "NONE: a FAULT, no such sort, there are so many; a LAW when there are DAWNS in the DIARY.");
        Edge.refused("a LAW with a FAULT", () -> typed(laws(2), SIX + ","), -1, x -> x.text(0));
        Edge.refused("a LAW too short", () -> typed(laws(2), ".,.,.,.,."), -1, x -> x.text(0));
        Edge.refused("a RULE with a FAULT", () -> typed(rules(2), "y:1;"), -1, x -> x.text(1));
        Edge.refused("nothing as a LAW", States.FRESH, -1, x -> x.text(0));
        Edge.refused("nothing as a RULE", States.FRESH, -1, x -> x.text(1));
        int[] sorts = {-1, 2, Integer.MIN_VALUE, Integer.MAX_VALUE};
        for (int sort : sorts) {
            Edge.refused("a LAW as sort " + sort, () -> typed(laws(2), SIX), -1, x -> x.text(sort));
            Edge.refused("a RULE as sort " + sort, () -> typed(rules(2), "y:1"), -1, x -> x.text(sort));
        }
        Edge.refused("a LAW on the first day", () -> typed(dawns(1), SIX), -1, x -> x.text(0));
        Edge.refused("a LAW on the last day", () -> typed(dawns(40), SIX), -1, x -> x.text(0));
        Edge.is("a RULE on the first day", typed(dawns(1), "y:1").text(1), 0);
        Edge.is("a RULE on the last day", typed(dawns(40), "y:1").text(1), 0);
        DiceLaw drawn = laws(1);
        drawn.dawn();
        Edge.is("a LAW behind a DAWN by draws", typed(drawn, SIX).text(0), -1);
        drawn.undo();
        Edge.is("a LAW when no DAWN is left", drawn.text(0), 1);
        DiceLaw back = laws(1);
        back.image();
        back.told(0);
        Edge.is("a LAW behind a DAWN as told", typed(back, SIX).text(0), -1);
        back.back();
        Edge.is("a LAW when the DIARY is empty again", back.text(0), 1);
        DiceLaw two = dawns(2);
        two.undo();
        Edge.is("a LAW when one of two DAWNS is left", typed(two, SIX).text(0), -1);
    }

    private static DiceLaw dawns(int many) {
        DiceLaw x = laws(1);
        for (int i = 0; i < many; i++) {
            x.told(i % 6);
        }
        return x;
    }

    private static void weights() {
        Edge.of("P7", "WEIGHTS of a DIE.");
        DiceLaw x = laws(5);
        x.weigh(2, 0, 1, 2, 3, 4, 2);
        int[] due = {0, 1, 2, 3, 4, 2};
        for (int face = 0; face < 6; face++) {
            Edge.is("FACE " + face, x.weight(2, face), due[face]);
            Edge.is("of the LAW ahead", x.weight(1, face), 2);
            Edge.is("of the LAW behind", x.weight(3, face), 2);
        }
        Edge.of("P8", "WEIGHT of a FACE.");
        Edge.is("the first", x.weight(2, 0), 0);
        Edge.is("the last", x.weight(2, 5), 2);
        Edge.of("P8", "their WEIGHTS (0 .. 12) are 12 together (2 each at first): so many of 12 throws show it.");
        for (int face = 0; face < 6; face++) {
            Edge.is("at first, of the first LAW", x.weight(0, face), 2);
            Edge.is("at first, of the last LAW", x.weight(4, face), 2);
        }
        x.weigh(0, 12, 0, 0, 0, 0, 0);
        Edge.is("12", x.weight(0, 0), 12);
        Edge.is("0", x.weight(0, 1), 0);
        Edge.is("12 of 12 throws", x.holds(0, 0, 0), 1);
        DiceLaw y = new DiceLaw();
        Due.type(y, SIX);
        y.text(0);
        y.image();
        Due.type(y, SIX);
        y.text(0);
        y.weigh(1, 12, 0, 0, 0, 0, 0);
        y.back();
        Due.type(y, SIX);
        y.text(0);
        Edge.is("at first once more, when a LAW of that number had others", y.weight(1, 0), 2);
    }

    public static void main(String[] args) {
        constants();
        newObject();
        lastCall();
        bytes();
        full();
        ended();
        faultsOfLaws();
        signsOfLaws();
        clauses();
        howMany();
        refusedTexts();
        weights();
        Due.close("EdgeTextTest");
    }
}

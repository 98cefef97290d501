/** P1 to P8: a new object, the TAPE, FAULTS, LAWS, WEIGHTS; P45 along with them. */
public final class TextTest {
    private static void newObject() {
        DiceLaw x = new DiceLaw();
        for (int what = 0; what <= 4; what++) {
            Due.is("P1 count " + what, x.count(what), 0);
        }
        Due.throwsNoSuchElement("P1 no LAW", x, 0, 0);
        Due.is("P1 no dawn", x.dawn(), -1);
        Due.is("P45 below", x.count(-1), Due.HIDDEN);
        Due.is("P45 above", x.count(5), Due.HIDDEN);
    }

    private static void tape() {
        DiceLaw x = new DiceLaw();
        Due.is("P2 zeros", x.feed(0, 0, 0, 0, 0), 0);
        Due.is("P2 highest first", x.feed(0x2E002C00, 0, 0, 0x00000001, 0), 3);
        // ". , byte 1": it is byte 1 at place 2 that is wrong
        Due.is("P4 byte 1", x.fault(0), 2);
        Due.is("P3 cut", x.end(2), true);
        Due.is("P4 too early", x.fault(0), 2);
        Due.is("P3 all", x.end(2), true);
        Due.is("P3 more than there are", x.end(3), false);
        Due.is("P3 below 0", x.end(-1), false);
        Due.is("P45 bytes", x.count(2), 2);
        Due.is("P3 none", x.end(0), true);
        Due.is("P45 no bytes", x.count(2), 0);
        int full = 0x2E2E2E2E;
        for (int i = 1; i <= 6; i++) {
            Due.is("P2 twenty more", x.feed(full, full, full, full, full), 20 * i);
        }
        Due.is("P2 full", x.feed(0, 0, 0, 0, 1), -1);
        Due.is("P2 full, nothing more", x.feed(0, 0, 0, 0, 0), 120);
        x.end(101);
        Due.is("P2 twenty are too many", x.feed(full, full, full, full, full), -1);
        Due.is("P2 refused whole", x.count(2), 101);
        Due.is("P2 nineteen are not", x.feed(full, full, full, full, 0x2E2E2E00), 120);
        x.end(0);
        Due.is("P2 bytes above 127", x.feed(0x2EFF2EFF, -1, 0, 0, 0), 8);
    }

    private static void lawFaults() {
        String[] good = {".,.,.,.,.,.", "ma,mf,na,nf,oa,of", "t0,t4,c0,c4,y,.", " m a , . ,y  ,t 4,c 0,  .  "};
        for (String law : good) {
            Due.is("P4 no FAULT " + law, Due.fault(0, law), -1);
        }
        Due.is("P4 empty", Due.fault(0, ""), 0);
        Due.is("P4 blanks alone", Due.fault(0, "  "), 2);
        Due.is("P4 a seventh", Due.fault(0, ".,.,.,.,.,.,."), 11);
        Due.is("P4 a seventh behind a blank", Due.fault(0, ".,.,.,.,.,. ,."), 12);
        Due.is("P4 five", Due.fault(0, ".,.,.,.,."), 9);
        Due.is("P4 no DEED's letter", Due.fault(0, "mg,.,.,.,.,."), 1);
        Due.is("P4 no DEED's letter behind a blank", Due.fault(0, "o  g"), 3);
        Due.is("P4 no LAW's digit", Due.fault(0, "t5,.,.,.,.,."), 1);
        Due.is("P4 two digits", Due.fault(0, "c00"), 2);
        Due.is("P4 a DEED too many", Due.fault(0, "ya"), 1);
        Due.is("P4 great letters", Due.fault(0, "Ma"), 0);
        Due.is("P4 another blank", Due.fault(0, ".\t,"), 1);
        Due.is("P4 nothing between", Due.fault(0, ".,,."), 2);
        Due.is("P4 begins with ,", Due.fault(0, ",."), 0);
        Due.is("P4 ends behind ,", Due.fault(0, ".,.,.,.,., "), 11);
        DiceLaw x = new DiceLaw();
        Due.is("P4 no such sort", x.fault(2), -2);
        Due.is("P4 no such sort", x.fault(-1), -2);
        Due.is("P4 no such sort", x.fault(Integer.MIN_VALUE), -2);
    }

    private static void ruleFaults() {
        String[] good = {"y:1", " y : l = 1 ? 1 ; y : 0 ", "y:[[[[[[1]]]]]]", "y:!!!!!!1=1?1", "y:((((((1=1))))))?1",
            "y:!(![1]=1&!([[1]]=1))?1", "y:1<2&3>4|5=6?7*8/9+l-d", "y:0000", "y:[1]>[2]?[3]", "y:![1]=1?1;y:m;y:n",
            "y:(1=1)|!2=2&w<t?1"};
        for (String rule : good) {
            Due.is("P4 no FAULT " + rule, Due.fault(1, rule), -1);
        }
        String[] bad = {"", "y", "y:", "y:1;", "y:1=1", "y:1=1;", "y:1=1?", "y:12345", "y:1 2", "y:a", "y:[1", "y:(1)",
            "y:1&1=1?1", "y:1|1=1?1", "y:1?1", "y:[1]?1", "y:(1=1)=1?1", "y:(1=1)+1", "y:!1+1?1", "y:[[[[[[[1]",
            "y:!!!!!!!1=1?1", "y:((((((!1", "y:!!!!!!1=[1]?1", "y:(((((([1]=1", "y:[[[[[[1]]]]]]]", "y:1==1?1",
            "y:1=1=1?1", "y:1++1", "y:-1", "y:1*", "1", "y:1:", "y:1=1?1?1", "y:[1=1]?1", "y:1=1?(1)", "y:1=1?!1"};
        int[] faults = {0, 1, 2, 4, 5, 5, 6, 6, 4, 2, 4, 4, 3, 3, 3, 5, 7, 7, 6, 8, 8, 8, 10, 8, 15, 4, 5, 4, 2, 4, 0,
            3, 7, 4, 6, 6};
        for (int i = 0; i < bad.length; i++) {
            Due.is("P4 FAULT of " + bad[i], Due.fault(1, bad[i]), faults[i]);
        }
        Due.is("P4 six are closed, six more", Due.fault(1, "y:((((((1=1))))))&((((((1=1))))))?1"), -1);
    }

    private static void texts() {
        DiceLaw x = new DiceLaw();
        Due.type(x, "ma,.,.,.,.,.");
        Due.is("P5 no such sort", x.text(2), -1);
        Due.is("P5 no such sort", x.text(-1), -1);
        Due.is("P5 a FAULT", x.text(1), -1);
        Due.is("P5 it stays", x.count(2), 12);
        Due.is("P5 the first LAW", x.text(0), 0);
        Due.is("P5 empty then", x.count(2), 0);
        for (int i = 1; i < 5; i++) {
            Due.type(x, ".,.,.,.,.,t" + i);
            Due.is("P5 the next LAW", x.text(0), i);
        }
        Due.type(x, ".,.,.,.,.,.");
        Due.is("P5 a sixth LAW", x.text(0), -1);
        Due.is("P5 a sixth stays", x.count(2), 11);
        for (int i = 0; i < 4; i++) {
            Due.is("P5 the next RULE", Due.rule(x, "y:" + i), i);
        }
        Due.is("P5 a fifth RULE", Due.rule(x, "y:1"), -1);
        Due.is("P5 a fifth stays", x.count(2), 3);
        Due.is("P45 LAWS", x.count(0), 5);
        Due.is("P45 RULES", x.count(1), 4);

        DiceLaw y = Due.with("ma,.,.,.,.,.");
        y.told(0);
        Due.type(y, ".,.,.,.,.,.");
        Due.is("P5 a LAW behind a DAWN", y.text(0), -1);
        Due.is("P5 it stays behind a DAWN", y.count(2), 11);
        y.undo();
        Due.is("P5 a LAW when the DAWN is undone", y.text(0), 1);
        y.told(0);
        Due.is("P5 a RULE behind a DAWN", Due.rule(y, "y:1"), 0);
    }

    private static void clauses() {
        DiceLaw x = Due.with(" . ,m b,nc,od, t 3,c4", "y,.,.,.,.,.");
        int[] due = {0, 11, 22, 33, 43, 54};
        for (int face = 0; face < 6; face++) {
            Due.is("P6 face " + face, x.clause(0, face), due[face]);
        }
        Due.is("P6 YESTERDAY", x.clause(1, 0), 60);
        Due.throwsNoSuchElement("P6 LAW 2", x, 2, 0);
        Due.throwsNoSuchElement("P6 LAW -1", x, -1, 0);
        Due.throwsNoSuchElement("P6 FACE 6", x, 0, 6);
        Due.throwsNoSuchElement("P6 FACE -1", x, 1, -1);
        Due.throwsNoSuchElement("P6 far", x, Integer.MAX_VALUE, Integer.MIN_VALUE);
    }

    private static void weights() {
        DiceLaw x = Due.with("ma,.,.,.,.,.", ".,.,.,.,.,.");
        for (int face = 0; face < 6; face++) {
            Due.is("P8 at first", x.weight(1, face), 2);
        }
        Due.is("P7 weigh", x.weigh(1, 0, 1, 2, 3, 4, 2), true);
        for (int face = 0; face < 5; face++) {
            Due.is("P8 told", x.weight(1, face), face);
        }
        Due.is("P8 the last", x.weight(1, 5), 2);
        Due.is("P8 the other LAW", x.weight(0, 0), 2);
        Due.is("P7 all on one", x.weigh(0, 0, 0, 0, 0, 0, 12), true);
        Due.is("P7 11", x.weigh(0, 1, 2, 2, 2, 2, 2), false);
        Due.is("P7 13", x.weigh(0, 3, 2, 2, 2, 2, 2), false);
        Due.is("P7 below 0", x.weigh(0, -1, 12, 1, 0, 0, 0), false);
        Due.is("P7 above 12", x.weigh(0, 13, 0, 0, 0, 0, -1), false);
        Due.is("P7 going round", x.weigh(0, Integer.MAX_VALUE, Integer.MAX_VALUE, 14, 0, 0, 0), false);
        Due.is("P7 no such LAW", x.weigh(2, 2, 2, 2, 2, 2, 2), false);
        Due.is("P7 no such LAW", x.weigh(-1, 2, 2, 2, 2, 2, 2), false);
        Due.is("P7 refused", x.weight(0, 5), 12);
        Due.is("P8 no such LAW", x.weight(2, 0), -1);
        Due.is("P8 no such LAW", x.weight(-1, 0), -1);
        Due.is("P8 no such FACE", x.weight(0, 6), -1);
        Due.is("P8 no such FACE", x.weight(1, -1), -1);
    }

    public static void main(String[] args) {
        newObject();
        tape();
        lawFaults();
        ruleFaults();
        texts();
        clauses();
        weights();
        Due.close("TextTest");
    }
}

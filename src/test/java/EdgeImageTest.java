import java.util.function.Supplier;

/** Edges of IMAGES and of what is counted: P43 to P45. */
public final class EdgeImageTest {
    private static final String SIX = ".,.,.,.,.,.";
    private static final String LAW = "ma,na,oa,y,mb,ob";

    private static DiceLaw days(int many) {
        DiceLaw x = Due.with(LAW);
        for (int day = 0; day < many; day++) {
            x.told(day % 6);
        }
        return x;
    }

    private static void image() {
        Edge.of("P43", "An IMAGE (instead of the one ahead): DAWNS.");
        Edge.is("of a new object", new DiceLaw().image(), 0);
        Edge.is("without DAWNS", days(0).image(), 0);
        Edge.is("of one DAWN", days(1).image(), 1);
        Edge.is("of 40", days(40).image(), 40);
        DiceLaw x = days(2);
        x.image();
        x.undo();
        Edge.is("another one", x.image(), 1);
        x.told(0);
        x.told(0);
        Edge.is("instead of the one ahead", x.back(), 1);
        Edge.is("it is left there", x.back(), 1);
        Edge.is("an IMAGE of what is BACK", x.image(), 1);
    }

    private static void none() {
        Edge.of("P44", "NONE: no IMAGE.");
        Edge.refused("a new object", States.FRESH, -1, DiceLaw::back);
        Edge.refused("LAWS alone", States.TWO_LAWS, -1, DiceLaw::back);
        Edge.refused("40 DAWNS", () -> days(40), -1, DiceLaw::back);
        DiceLaw x = days(1);
        x.image();
        Edge.is("an IMAGE of another object is none", days(1).back(), -1);
        Edge.is("its own is", x.back(), 1);
    }

    /** What follows an IMAGE, then BACK: all answers are those of the moment of the IMAGE. */
    private static void again(String what, Supplier<DiceLaw> state, Edge.Call call) {
        Supplier<DiceLaw> imaged = () -> {
            DiceLaw x = state.get();
            x.image();
            return x;
        };
        for (int half = 0; half < 2; half++) {
            DiceLaw left = imaged.get();
            DiceLaw x = imaged.get();
            call.on(x);
            Edge.is(what + ": DAWNS", x.back(), left.back());
            String got = States.answers(x, half);
            Edge.is(what + ": all is so again", got.equals(States.answers(left, half)), true);
        }
    }

    private static void back() {
        Edge.of("P44", "An IMAGE keeps the DIARY, DEEDS, draws, LAWS and WEIGHTS as they are; BACK: they are so "
                + "again.");
        Supplier<DiceLaw> busy = States.BUSY;
        again("a DAWN", busy, DiceLaw::dawn);
        again("a DAWN as told", busy, x -> x.told(7));
        again("UNDONE", busy, DiceLaw::undo);
        again("all UNDONE", busy, x -> x.undo() + x.undo() + x.undo() + x.undo());
        again("UNDONE, then another DAWN by another seed", busy, x -> {
            x.undo();
            x.undo();
            x.undo();
            x.seed(9);
            return x.dawn() + x.dawn() + x.told(3);
        });
        again("UNDONE, then as told", () -> thrice(), x -> x.undo() + x.told(1));
        again("UNDONE, then thrown anew", () -> thrice(), x -> {
            x.undo();
            x.seed(9);
            return x.dawn();
        });
        again("a full one, its 40th UNDONE and thrown anew", () -> thrice(40), x -> {
            x.undo();
            x.seed(9);
            return x.dawn();
        });
        again("a full one, its 40th UNDONE and told", () -> thrice(40), x -> x.undo() + x.told(0));
        again("a DEED", busy, x -> x.act(1, 1, 1));
        again("a seed", busy, x -> {
            x.seed(99);
            return 0;
        });
        again("a CLAUSE", busy, x -> x.amend(0, 0, 60) ? 1 : 0);
        again("the last CLAUSE", busy, x -> x.amend(1, 5, 0) ? 1 : 0);
        again("WEIGHTS", busy, x -> x.weigh(0, 12, 0, 0, 0, 0, 0) ? 1 : 0);
        again("the last LAW's WEIGHTS", busy, x -> x.weigh(1, 0, 0, 0, 0, 0, 12) ? 1 : 0);
        again("all of them", busy, x -> {
            x.undo();
            x.undo();
            x.amend(1, 1, 15);
            x.weigh(1, 0, 0, 0, 0, 0, 12);
            x.seed(5);
            x.dawn();
            x.dawn();
            x.act(4, 4, 0);
            return x.dawn();
        });
        again("a full one, UNDONE", States.FULL, x -> x.undo() + x.undo());
        again("a full one, amended", States.FULL, x -> x.amend(4, 5, 44) ? 1 : 0);
        Supplier<DiceLaw> two = States.TWO_LAWS;
        again("another LAW", two, x -> {
            Due.type(x, SIX);
            return x.text(0);
        });
        again("a DAWN where none was", two, DiceLaw::dawn);
        again("nothing", two, x -> 0);
        Edge.is("an empty one: LAWS", emptied().count(0), 0);
        Edge.is("an empty one: CLAUSES", Edge.clause(emptied(), 0, 0), Edge.THROWS);
        Edge.is("an empty one: no DAWNS", emptied().dawn(), -1);
    }

    private static DiceLaw thrice(int many) {
        DiceLaw x = Due.with("t0,t0,t0,t0,t0,t0");
        for (int i = 0; i < many; i++) {
            x.dawn();
        }
        return x;
    }

    private static DiceLaw thrice() {
        return thrice(1);
    }

    /** Fewer LAWS are BACK than there were, and the days are theirs again. */
    private static void fewerLaws() {
        Edge.of("P44", "An IMAGE keeps the DIARY, DEEDS, draws, LAWS and WEIGHTS as they are; BACK: they are so "
                + "again.");
        DiceLaw x = days(2);
        x.image();
        x.undo();
        x.undo();
        for (int law = 1; law < 5; law++) {
            Due.type(x, "na,na,na,na,na,na");
            x.text(0);
        }
        x.told(7775);
        Edge.is("BACK", x.back(), 2);
        Edge.is("FACES of the first day", x.day(0, 0), 0);
        Edge.is("FACES of the second day", x.day(1, 0), 1);
        Edge.is("what HELD", x.held(0, 0), 10);
        Edge.is("there is no LAW 1", x.held(1, 0), -1);
        Edge.is("FORBIDDEN by none", x.deed(0, 0, 3), 0);
        Edge.is("FORBIDDEN by one", x.deed(0, 1, 3), 1);
        Edge.is("PEACE", x.peace(0), 1);
        Edge.is("another DAWN", x.told(5), 3);
        Edge.is("above its FACES", x.told(6), -1);
        DiceLaw y = Due.with("c1,c1,c1,t1,t1,t1");
        y.image();
        Due.type(y, "na,na,na,na,na,na");
        y.text(0);
        y.told(0);
        Edge.is("a COPY of LAW 1", y.held(0, 0), 20);
        Edge.fraction("FORBIDDEN tomorrow", y.odds(0, 2, 0), y.odds(0, 2, 1), 1, 1);
        y.back();
        y.told(0);
        Edge.is("a COPY of a LAW that there was", y.held(0, 0), 0);
        Edge.fraction("FORBIDDEN never", y.odds(0, 2, 0), y.odds(0, 2, 1), 0, 1);
        y.dawn();
        Edge.is("THROW AGAIN of a LAW that there was", y.day(1, 1), 0);
        Edge.fraction("none tomorrow", y.again(0, 0), y.again(0, 1), 1, 1);
    }

    /** An IMAGE of a new object, taken BACK when there were a LAW and DAWNS. */
    private static DiceLaw emptied() {
        DiceLaw x = new DiceLaw();
        x.image();
        Due.type(x, LAW);
        x.text(0);
        x.told(0);
        x.act(0, 0, 0);
        x.back();
        return x;
    }

    private static void notInIt() {
        Edge.of("P44", "BACK: DAWNS.");
        DiceLaw x = days(2);
        x.image();
        Due.rule(x, "y:1");
        Due.type(x, "y:1;");
        Edge.is("it answers how many", x.back(), 2);
        Edge.is("a RULE stays", x.count(1), 1);
        Edge.is("and can be FOLLOWED", x.follow(0, 0, 0), 2);
        Edge.is("the TAPE stays", x.count(2), 4);
    }

    private static void counts() {
        Edge.of("P45", "0 LAWS, 1 RULES, 2 bytes of the TAPE, 3 DAWNS, 4 DEEDS done.");
        int[] most = {5, 4, 120, 40, 60};
        for (int what = 0; what < 5; what++) {
            Edge.is("none of " + what, new DiceLaw().count(what), 0);
            Edge.is("all of " + what, States.FULL.get().count(what), most[what]);
        }
        DiceLaw x = States.BUSY.get();
        int[] some = {2, 2, 5, 4, 3};
        for (int what = 0; what < 5; what++) {
            Edge.is("some of " + what, x.count(what), some[what]);
        }
    }

    public static void main(String[] args) {
        image();
        none();
        back();
        fewerLaws();
        notInIt();
        counts();
        Due.close("EdgeImageTest");
    }
}

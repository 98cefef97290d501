import java.util.Arrays;

/** Edges of amendments, of HELP, of what tomorrow is GIVEN one FACE, of changed WEIGHTS: P29 to P31, P33 to P38. */
public final class EdgeAmendTest {
    private static final String SIX = ".,.,.,.,.,.";
    /** 12 to the power of 8. */
    private static final long ALL = 429981696L;

    private static String all(String clause) {
        return (clause + ",").repeat(5) + clause;
    }

    private static DiceLaw allOn(int face, String... laws) {
        DiceLaw x = Due.with(laws);
        for (int law = 0; law < laws.length; law++) {
            weighOn(x, law, face);
        }
        return x;
    }

    private static void weighOn(DiceLaw x, int law, int face) {
        int[] w = new int[6];
        w[face] = 12;
        x.weigh(law, w[0], w[1], w[2], w[3], w[4], w[5]);
    }

    /** a is LAWFUL in one of 12 to the 8 ways alone: DIE 0 four times on t0, the others on their first FACES. */
    private static DiceLaw thinnest() {
        String law = ".,na,na,na,na,na";
        DiceLaw x = Due.with("t0,na,na,na,na,na", law, law, law, law);
        for (int i = 0; i < 5; i++) {
            x.weigh(i, 1, 11, 0, 0, 0, 0);
        }
        return x;
    }

    private static void amend() {
        Edge.of("P29", "A FACE has another CLAUSE (as clause(), all that there are).");
        DiceLaw x = Due.with(SIX, all("ma"), SIX, SIX, all("nb"));
        Edge.is("the first FACE of the first LAW", x.amend(0, 0, 60), true);
        Edge.is("the last FACE of the last LAW", x.amend(4, 5, 10), true);
        Edge.is("the first one", x.clause(0, 0), 60);
        Edge.is("the last one", x.clause(4, 5), 10);
        Edge.is("the FACE behind the first", x.clause(0, 1), 0);
        Edge.is("the FACE ahead of the last", x.clause(4, 4), 21);
        Edge.is("the WEIGHT stays", x.weight(0, 0), 2);
        Edge.is("what it has already", x.amend(1, 1, 10), true);
        Edge.is("it has it still", x.clause(1, 1), 10);
        Edge.is("a LAW that there is not", x.amend(1, 1, 54), true);
        for (int day = 0; day < 40; day++) {
            x.told(day == 39 ? 1 : 0);
        }
        Edge.is("with 40 DAWNS, too", x.amend(4, 1, 0), true);
        Edge.is("what HELD stays", x.held(4, 39), 21);
        Edge.is("the FACE has another CLAUSE", x.clause(4, 1), 0);
    }

    private static void amended() {
        Edge.of("P30", "Of 12 to the LAWS and 3: no more than that.");
        long most = 1728;
        String[] laws = {};
        for (int many = 1; many <= 5; many++) {
            laws = Arrays.copyOf(laws, many);
            laws[many - 1] = SIX;
            most *= 12;
            DiceLaw x = allOn(5, laws);
            int last = many - 1;
            Edge.is("the most less, of " + many, x.amended(last, 5, 25, 5), -most);
            Edge.is("nothing", x.amended(last, 5, 15, 5), 0);
            x.amend(last, 5, 25);
            Edge.is("the most more", x.amended(last, 5, 0, 5), most);
            Edge.is("for another DEED nothing", x.amended(last, 5, 0, 4), 0);
            Edge.is("on a FACE without WEIGHT nothing", x.amended(last, 0, 15, 5), 0);
        }
        Edge.of("P30", "by how many, of 12 to the power of (LAWS and 3), the ODDS that a DEED is LAWFUL would be "
                + "more.");
        Edge.is("of one LAW a sixth", Due.with("na,.,.,.,.,.").amended(0, 0, 0, 0), 3456);
        Edge.is("of five LAWS a sixth", Due.with("na,.,.,.,.,.", SIX, SIX, SIX, SIX).amended(0, 0, 0, 0), ALL / 6);
        Edge.of("P30", "AMENDED so, apart: by how many (may be below 0).");
        DiceLaw y = Due.with("na,.,.,.,.,.", "ma,.,.,.,.,.");
        y.weigh(0, 1, 11, 0, 0, 0, 0);
        y.weigh(1, 12, 0, 0, 0, 0, 0);
        Edge.is("one of 12 more", y.amended(0, 0, 0, 0), 20736);
        Edge.is("11 of 12 less", y.amended(0, 1, 20, 0), -20736 * 11);
        Edge.is("by YESTERDAY, which is nothing", y.amended(0, 0, 60, 0), 20736);
        Edge.is("by a COPY of MAY", y.amended(0, 0, 51, 0), 20736);
        Edge.is("by a COPY of itself", y.amended(0, 0, 50, 0), 20736);
        Edge.is("by a COPY of none", y.amended(0, 0, 54, 0), 20736);
        Edge.is("by THROW AGAIN of none", y.amended(0, 0, 44, 0), 20736);
        Edge.is("by what it has", y.amended(0, 0, 20, 0), 0);
        Edge.is("by THROW AGAIN: as it lies in the end", y.amended(0, 0, 40, 0), 20736);
        Edge.is("apart: it has still what it had", y.clause(0, 0), 20);
        y.told(0);
        Edge.of("P30", "AMENDED: one FACE of a LAW has another CLAUSE (what HELD stays)");
        Edge.is("YESTERDAY is MUST NOT", y.amended(0, 0, 60, 0), 0);
        y.undo();
        Edge.is("without a DAWN it is nothing", y.amended(0, 0, 60, 0), 20736);
        Edge.is("of 12 to the 8 one less", thinnest().amended(0, 0, 20, 0), -1);
    }

    private static void help() {
        Edge.of("P31", "HELP: 1,000 times the LAW and 100 times the FACE and the CLAUSE (0), by how many (1).");
        DiceLaw x = Due.with(all("nf"), all("mf"), SIX, SIX, SIX);
        weighOn(x, 4, 5);
        Edge.is("the last of all", x.help(5, 0), 4515);
        Edge.is("by as many as can be", x.help(5, 1), ALL);
        Edge.is("the first of all, where nothing helps", Due.with(SIX, SIX, SIX, SIX, SIX).help(5, 0), 0);
        Edge.is("by nothing", Due.with(SIX, SIX, SIX, SIX, SIX).help(5, 1), 0);
        DiceLaw thin = thinnest();
        thin.weigh(0, 12, 0, 0, 0, 0, 0);
        Edge.is("in the last LAW but one", thin.help(0, 1), 11 * 1728 * 12);
        Edge.is("the heaviest FACE", thin.help(0, 0), 1100);
        Edge.of("P31", "of all FACES of all LAWS and CLAUSES . m n o with it");
        for (int deed = 0; deed < 6; deed++) {
            char sign = (char) ('a' + deed);
            DiceLaw m = Due.with(all("n" + sign), all("m" + sign), ".,.,.,.,.,m" + sign, SIX);
            Edge.is("m with " + sign, m.help(deed, 0), 2010 + deed);
            Edge.is("none with " + sign + " for another DEED", m.help((deed + 1) % 6, 1), 0);
            weighOn(m, 3, 4);
            Edge.is("m with " + sign + " on the heaviest FACE", m.help(deed, 0), 3410 + deed);
        }
        Edge.of("P31", "the one amendment by which that is most (of several the lowest LAW, then FACE, then CLAUSE, "
                + "in that order).");
        Edge.is("the lowest FACE", Due.with(all("na")).help(0, 0), 0);
        Edge.is("the lowest LAW", Due.with(".,na,na,.,.,.", SIX).help(0, 0), 100);
        Edge.is("not the first where a later one is better", Due.with(".,.,.,.,na,.").help(0, 0), 400);
        Edge.is("of two FACES alike the lowest", Due.with(".,.,na,.,na,.").help(0, 0), 200);
        DiceLaw heavy = Due.with(".,.,na,.,na,.");
        heavy.weigh(0, 2, 2, 2, 1, 3, 2);
        Edge.is("the heavier one", heavy.help(0, 0), 400);
        Edge.is("of two LAWS alike the lowest", Due.with(".,.,.,.,.,na", "nb,.,.,.,.,.").help(0, 0), 500);
        DiceLaw two = Due.with(".,.,.,.,.,na", "na,.,.,.,.,.");
        two.weigh(1, 3, 1, 2, 2, 2, 2);
        Edge.is("the later LAW, where it is heavier", two.help(0, 0), 1000);
        Edge.is("of CLAUSES alike . first", Due.with(all("oa")).help(0, 0), 0);
        DiceLaw may = Due.with(all("na"), all("ma"), SIX);
        may.weigh(0, 1, 1, 1, 1, 1, 7);
        Edge.is("the heaviest FACE without MUST NOT", may.help(0, 0), 500);
        weighOn(may, 2, 3);
        Edge.is("MAY, where it is most", may.help(0, 0), 2310);
        Edge.is("never MUST NOT, never MUST", Due.with(all("na"), all("na")).help(0, 0), 0);
    }

    /** One FACE of 30 is another one than the others, each in its turn. */
    private static void eachFace() {
        String[] laws = {SIX, SIX, SIX, SIX, SIX};
        for (int cell = 0; cell < 30; cell++) {
            int law = cell / 6;
            int face = cell % 6;
            int deed = cell * 5 % 6;
            DiceLaw x = Due.with(laws);
            weighOn(x, law, (face + 3) % 6);
            int[] w = {1, 1, 1, 1, 1, 1};
            w[face] = 7;
            x.weigh(law, w[0], w[1], w[2], w[3], w[4], w[5]);
            x.amend(law, face, 20 + deed);
            Edge.of("P31", "HELP: 1,000 times the LAW and 100 times the FACE and the CLAUSE (0), by how many (1).");
            Edge.is("FACE " + cell, x.help(deed, 0), 1000 * law + 100 * face);
            Edge.is("FACE " + cell + ": by 7 of 12", x.help(deed, 1), ALL / 12 * 7);
            Edge.of("P34", "HARM: 6 times the LAW and the FACE.");
            Edge.is("FACE " + cell, x.harm(deed), cell);
            Edge.is("FACE " + cell + " of another DEED", x.harm((deed + 1) % 6), 0);
            Edge.of("P33", "GIVEN.");
            Edge.fraction("FACE " + cell, x.given(law, face, deed, 0), x.given(law, face, deed, 1), 0, 1);
            int next = (cell + 6) % 30;
            Edge.fraction("given FACE " + next, x.given(next / 6, face, deed, 0), x.given(next / 6, face, deed, 1),
                    5, 12);
            int beside = (face + 1) % 6;
            Edge.fraction("beside FACE " + cell, x.given(law, beside, deed, 0), x.given(law, beside, deed, 1), 1, 1);
            Edge.of("P30", "AMENDED so, apart: by how many (may be below 0).");
            Edge.is("FACE " + cell, x.amended(law, face, 0, deed), ALL / 12 * 7);
            Edge.is("beside FACE " + cell, x.amended(law, beside, 20 + deed, deed), -ALL / 12);
            Edge.of("P38", "CHANGE.");
            Edge.is("off FACE " + cell, x.change(law, face, beside, deed), ALL / 12);
            Edge.is("on FACE " + cell, x.change(law, beside, face, deed), -ALL / 12);
            Edge.of("P35", "LIKELIEST: FACES (0), ways (1).");
            int place = 1;
            for (int i = law; i < 4; i++) {
                place *= 6;
            }
            Edge.is("FACE " + cell, x.likeliest(0), face * place);
            Edge.is("7 of 12 and 2 of 12 four times", x.likeliest(1), 1728L * 7 * 16);
        }
    }

    /** What is amended or changed bears on what is thrown again. */
    private static void thrownAgain() {
        Edge.of("P30", "AMENDED so, apart: by how many (may be below 0).");
        DiceLaw x = Due.with("na,na,na,na,na,na", "na,na,na,.,.,.", "ma,ma,ma,ma,ma,ma");
        x.weigh(0, 12, 0, 0, 0, 0, 0);
        // ALLOWED by one, FORBIDDEN by one or two: never LAWFUL; with t1 it is, where LAW 1 lies on nothing in the end
        Edge.is("THROW AGAIN of another", x.amended(0, 0, 41, 0), ALL / 144 / 2);
        Edge.is("THROW AGAIN of itself", x.amended(1, 0, 41, 0), 0);
        DiceLaw y = Due.with("t0,na,.,.,.,.");
        y.weigh(0, 6, 6, 0, 0, 0, 0);
        // n in the end: 1/2 and 1/4 and 1/8 and 1/16, that is 15/16 of 20736
        Edge.is("no THROW AGAIN", y.amended(0, 0, 0, 0), 20736 / 16 * 7);
        Edge.is("THROW AGAIN of one there is not", y.amended(0, 0, 41, 0), 20736 / 16 * 7);
        Edge.of("P38", "CHANGE.");
        // n in the end: 6 of 12, and 5 of 12 times that, and so on
        Edge.is("a WEIGHT less on THROW AGAIN", y.change(0, 0, 2, 0), 20736 / 16 * 15 - 6 * (1728 + 720 + 300 + 125));
        Edge.is("a WEIGHT more on THROW AGAIN", y.change(0, 1, 0, 0), 19440 - 5 * (1728 + 1008 + 588 + 343));
        Edge.of("P31", "HELP: 1,000 times the LAW and 100 times the FACE and the CLAUSE (0), by how many (1).");
        Edge.is("against THROW AGAIN", y.help(0, 0), 100);
        Edge.is("MUST NOT never then", y.help(0, 1), 19440);
        DiceLaw z = Due.with("t0,na,na,na,na,na");
        z.weigh(0, 6, 2, 1, 1, 1, 1);
        // n in the end 15/16, without t0 1/2, without the heaviest n 5/8
        Edge.is("THROW AGAIN is the worst", z.help(0, 0), 0);
        Edge.is("by 7 of 16", z.help(0, 1), 20736 / 16 * 7);
    }

    private static void given() {
        Edge.of("P33", "GIVEN.");
        DiceLaw plain = Due.with("na,.,.,.,.,.", SIX);
        Edge.fraction("the first FACE", plain.given(0, 0, 0, 0), plain.given(0, 0, 0, 1), 0, 1);
        Edge.fraction("the last of all FACES", plain.given(1, 5, 0, 0), plain.given(1, 5, 0, 1), 5, 6);
        Edge.of("P33", "the ODDS that a DEED is LAWFUL tomorrow among all ways in which the DIE of a LAW lies on a "
                + "FACE in the end.");
        DiceLaw x = thinnest();
        Edge.fraction("four times on t0", x.given(0, 0, 0, 0), x.given(0, 0, 0, 1), 1, 20736);
        Edge.fraction("the last DIE on its first FACE", x.given(4, 0, 0, 0), x.given(4, 0, 0, 1), 1, ALL / 12);
        Edge.fraction("on MUST NOT", x.given(4, 1, 0, 0), x.given(4, 1, 0, 1), 0, 1);
        Edge.fraction("another DEED", x.given(0, 0, 5, 0), x.given(0, 0, 5, 1), 1, 1);
        Edge.of("P33", "NONE: no such ones, it never lies so in the end.");
        Edge.refused("no WEIGHT", EdgeAmendTest::thinnest, -1, y -> y.given(0, 2, 0, 0));
        Edge.refused("no WEIGHT on the last", EdgeAmendTest::thinnest, -1, y -> y.given(4, 5, 0, 1));
        DiceLaw even = Due.with(SIX);
        Edge.is("a WEIGHT of 2", even.given(0, 5, 0, 0), 1);
        even.weigh(0, 11, 0, 0, 0, 0, 1);
        Edge.is("a WEIGHT of 1", even.given(0, 5, 0, 0), 1);
        even.weigh(0, 12, 0, 0, 0, 0, 0);
        Edge.is("a WEIGHT of 12", even.given(0, 0, 0, 0), 1);
        Edge.is("then never", even.given(0, 5, 0, 0), -1);
    }

    private static void harm() {
        Edge.of("P34", "HARM: 6 times the LAW and the FACE.");
        Edge.is("the last of all", Due.with(SIX, SIX, SIX, SIX, ".,.,.,.,.,na").harm(0), 29);
        Edge.is("the first of all", Due.with("na,.,.,.,.,.", SIX, SIX, SIX, SIX).harm(0), 0);
        Edge.of("P34", "the DIE and FACE (that can lie so in the end) by which that is least (of several the lowest "
                + "LAW, then FACE).");
        Edge.is("all alike", Due.with(SIX, SIX).harm(5), 0);
        Edge.is("all alike, the last FACE alone can lie so", allOn(5, SIX, SIX).harm(5), 5);
        DiceLaw late = Due.with("ma,na,c0,c1,c2,t0", SIX, SIX, SIX, SIX);
        for (int law = 1; law < 5; law++) {
            weighOn(late, law, 5);
            for (int face = 0; face < 5; face++) {
                Edge.is("no WEIGHT on FACE " + face + " of LAW " + law, late.given(law, face, 0, 0), -1);
            }
            Edge.is("all on the last FACE of LAW " + law, late.given(law, 5, 5, 0), 1);
        }
        Edge.is("never LAWFUL there", late.harm(0), 1);
        late.weigh(0, 2, 0, 2, 2, 2, 4);
        Edge.is("no WEIGHT on the first FACES of later LAWS", late.harm(0), 0);
        late.weigh(0, 0, 12, 0, 0, 0, 0);
        Edge.is("never LAWFUL: the lowest FACE that it can lie on", late.harm(0), 1);
        DiceLaw once = Due.with("t0,.,.,.,.,.");
        once.weigh(0, 1, 11, 0, 0, 0, 0);
        Edge.is("it can lie so in one way of 12 to the 4", once.harm(0), 0);
        once.weigh(0, 0, 12, 0, 0, 0, 0);
        Edge.is("it can not", once.harm(0), 1);
        DiceLaw never = Due.with("na,na,na,.,.,.", SIX);
        never.weigh(0, 0, 0, 1, 5, 5, 1);
        Edge.is("two of them have no WEIGHT", never.harm(0), 2);
        Edge.is("of two FACES alike the lowest", Due.with(".,.,na,na,.,.").harm(0), 2);
        Edge.is("of two LAWS alike the lowest", Due.with(".,.,.,.,.,na", "na,.,.,.,.,.").harm(0), 5);
        DiceLaw ways = Due.with("na,na,.,.,.,.", "ma,ma,ma,.,.,.", "ma,ma,.,.,.,.");
        ways.weigh(0, 1, 11, 0, 0, 0, 0);
        Edge.is("as likely by other numbers of ways: the lowest", ways.harm(0), 9);
        ways.amend(0, 0, 0);
        Edge.is("not by how many ways, but by their part", ways.harm(0), 1 * 6 + 3);
        DiceLaw may = Due.with(all("na"), "ma,ma,ma,ma,ma,.", all("ma"));
        Edge.is("without MAY", may.harm(0), 6 + 5);
    }

    private static void likeliest() {
        Edge.of("P35", "LIKELIEST: FACES (0), ways (1).");
        Edge.is("the least FACES", Due.with(SIX).likeliest(0), 0);
        Edge.is("2 of 12", Due.with(SIX).likeliest(1), 3456);
        DiceLaw five = Due.with(SIX, SIX, SIX, SIX, SIX);
        Edge.is("the least FACES of five", five.likeliest(0), 0);
        Edge.is("2 of 12 five times", five.likeliest(1), 55296);
        DiceLaw last = allOn(5, SIX, SIX, SIX, SIX, SIX);
        Edge.is("the last FACES of five", last.likeliest(0), 7775);
        Edge.is("always", last.likeliest(1), ALL);
        Edge.is("the second FACES", thinnest().likeliest(0), 1555);
        Edge.is("almost as often as can be", thinnest().likeliest(1), 20735L * 14641);
        Edge.of("P35", "LIKELIEST: the FACES as digits in which dice lie in the end");
        DiceLaw first = Due.with(SIX, SIX, SIX);
        weighOn(first, 0, 5);
        Edge.is("the last FACE of the first LAW", first.likeliest(0), 180);
        weighOn(first, 2, 4);
        Edge.is("and one of the last LAW", first.likeliest(0), 184);
        Edge.of("P35", "in most ways (of several the least); how many ways.");
        DiceLaw two = Due.with(SIX, SIX);
        two.weigh(0, 0, 0, 4, 4, 4, 0);
        two.weigh(1, 1, 1, 0, 0, 5, 5);
        Edge.is("of six alike the least", two.likeliest(0), 6 * 2 + 4);
        two.weigh(0, 0, 0, 4, 3, 5, 0);
        Edge.is("of two alike the least", two.likeliest(0), 6 * 4 + 4);
        two.weigh(1, 1, 1, 0, 0, 4, 6);
        Edge.is("the one", two.likeliest(0), 6 * 4 + 5);
        two.weigh(0, 2, 2, 2, 2, 2, 2);
        two.weigh(1, 2, 2, 2, 2, 2, 2);
        Edge.is("fewer ways than it was asked for ahead", two.likeliest(1), 4 * 1728);
        Edge.is("the first of all then", two.likeliest(0), 0);
        DiceLaw again = Due.with("t0,.,.,.,.,.");
        Edge.is("not the one that is thrown again", again.likeliest(0), 1);
        again.weigh(0, 6, 3, 3, 0, 0, 0);
        Edge.is("in the end: 3 of 12, and half as often again", again.likeliest(1), 3 * (1728 + 864 + 432 + 216));
    }

    private static void apart() {
        Edge.of("P36", "APART (1, 0).");
        Edge.is("the first and the last DEED", Due.with("na,.,.,.,.,.", "nf,.,.,.,.,.").apart(0, 5), 1);
        Edge.is("the last and the first DEED", Due.with("na,nf,.,.,.,.").apart(5, 0), 0);
        Edge.of("P36", "APART: two DEEDS, if BOTH is the ODDS of the one times that of the other.");
        Edge.is("two DICE", Due.with("na,.,.,.,.,.", "nb,nb,.,.,.,.").apart(0, 1), 1);
        Edge.is("one DIE", Due.with("na,nb,.,.,.,.").apart(0, 1), 0);
        Edge.is("one DIE, the other way", Due.with("na,nb,.,.,.,.").apart(1, 0), 0);
        Edge.is("one is SURE", Due.with("na,nb,.,.,.,.").apart(0, 5), 1);
        Edge.is("both are SURE", Due.with(SIX).apart(0, 5), 1);
        DiceLaw never = Due.with("na,nb,.,.,.,.");
        weighOn(never, 0, 0);
        Edge.is("one is NEVER", never.apart(0, 1), 1);
        String law = ".,na,na,na,na,na";
        DiceLaw x = Due.with("t0,na,na,na,na,na", ".,na,nb,.,.,.", law, law, law);
        for (int i = 0; i < 5; i++) {
            x.weigh(i, 1, 11, 0, 0, 0, 0);
        }
        x.weigh(1, 10, 1, 1, 0, 0, 0);
        Edge.fraction("both", x.both(0, 1, 0), x.both(0, 1, 1), 5, ALL / 2);
        Edge.is("by a hair", x.apart(0, 1), 0);
        x.weigh(1, 11, 0, 1, 0, 0, 0);
        Edge.is("by nothing", x.apart(0, 1), 1);
    }

    private static void mean() {
        Edge.of("P37", "MEAN.");
        DiceLaw half = Due.with("t1,t1,t1,.,.,.", SIX);
        Edge.fraction("one in two", half.mean(0), half.mean(1), 1, 2);
        Edge.of("P37", "MEAN: how many DICE are thrown again, by ways (a fraction).");
        Edge.fraction("none", Due.with(SIX).mean(0), Due.with(SIX).mean(1), 0, 1);
        Edge.fraction("one always", Due.with(all("t1"), SIX).mean(0), Due.with(all("t1"), SIX).mean(1), 1, 1);
        DiceLaw two = Due.with(all("t2"), all("t2"), SIX);
        Edge.fraction("two always", two.mean(0), two.mean(1), 2, 1);
        Edge.fraction("three always", Due.with(all("t0")).mean(0), Due.with(all("t0")).mean(1), 3, 1);
        Edge.fraction("one in 12", thinnest().mean(0), thinnest().mean(1), 157, 1728);
        Edge.fraction("LAW 1 there is not", Due.with(all("t1")).mean(0), Due.with(all("t1")).mean(1), 0, 1);
    }

    private static DiceLaw weighed(int a, int b) {
        DiceLaw x = Due.with("na,.,.,.,.,.");
        x.weigh(0, a, b, 12 - a - b, 0, 0, 0);
        return x;
    }

    private static void change() {
        Edge.of("P38", "CHANGE.");
        Edge.is("the last LAW, FACES and DEED", Due.with(SIX, ".,.,.,.,.,nf").change(1, 5, 4, 5), 20736);
        Edge.of("P38", "CHANGE of a LAW's DIE by one: a WEIGHT less on one FACE and more on another one: by how many "
                + "ways the ODDS that a DEED is LAWFUL would be more.");
        Edge.is("from 1 to 0", weighed(1, 0).change(0, 0, 1, 0), 1728);
        Edge.is("from 12 to 11", weighed(12, 0).change(0, 0, 1, 0), 1728);
        Edge.is("from 11 to 12", weighed(11, 1).change(0, 1, 0, 0), -1728);
        Edge.is("from 0 to 1", weighed(0, 12).change(0, 1, 0, 0), -1728);
        Edge.is("between the first and the last FACE", weighed(6, 6).change(0, 0, 5, 0), 1728);
        Edge.is("among what is alike", weighed(6, 6).change(0, 1, 5, 0), 0);
        Edge.is("for another DEED", weighed(6, 6).change(0, 0, 5, 5), 0);
        DiceLaw x = weighed(6, 6);
        x.change(0, 0, 5, 0);
        Edge.is("apart: it has still what it had", x.weight(0, 0) * 10 + x.weight(0, 5), 60);
        DiceLaw five = Due.with(SIX, SIX, SIX, SIX, "nf,.,.,.,.,.");
        Edge.is("of five LAWS", five.change(4, 0, 5, 5), ALL / 12);
        Edge.is("of five LAWS, less", five.change(4, 5, 0, 5), -ALL / 12);
        Edge.is("of 12 to the 8 one less", thinnest().change(4, 0, 1, 0), -1);
        Edge.is("of 12 to the 8 fifteen more: 2 to the 4", thinnest().change(0, 1, 0, 0), 15);
        Edge.of("P38", "HIDDEN: no such ones, alike, there is no WEIGHT on the first.");
        Edge.refused("no WEIGHT", () -> weighed(0, 12), DiceLaw.HIDDEN, y -> y.change(0, 0, 1, 0));
        Edge.refused("no WEIGHT on the last", () -> weighed(0, 12), DiceLaw.HIDDEN, y -> y.change(0, 5, 1, 0));
        Edge.refused("no WEIGHT on either", () -> weighed(0, 12), DiceLaw.HIDDEN, y -> y.change(0, 4, 5, 0));
        Edge.refused("alike", () -> weighed(6, 6), DiceLaw.HIDDEN, y -> y.change(0, 1, 1, 0));
    }

    public static void main(String[] args) {
        amend();
        amended();
        help();
        eachFace();
        thrownAgain();
        given();
        harm();
        likeliest();
        apart();
        mean();
        change();
        Due.close("EdgeAmendTest");
    }
}

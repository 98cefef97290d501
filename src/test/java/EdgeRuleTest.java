/** Edges of RULES as TEXTS (P4, P5), of their numbers and letters, of what is FOLLOWED (P32). */
public final class EdgeRuleTest {
    private static void fault(String rule, int want) {
        Edge.is("of " + rule, Due.fault(1, rule), want);
    }

    private static void clauses() {
        Edge.of("P4", "CLAUSES with ; between, one at least");
        fault("", 0);
        fault(";", 0);
        fault("y:1", -1);
        fault("y:1;y:2", -1);
        fault("y:1;", 4);
        fault("y:1;;y:2", 4);
        fault("y:1;y", 5);
        fault("y:1,y:2", 3);
        String thirty = "y:1;".repeat(29) + "y:1";
        fault(thirty, -1);
        fault(thirty + ";", 120);
        Edge.of("P4", "y, : , perhaps CONDITION ?, then SUM");
        fault("x:1", 0);
        fault("y1", 1);
        fault("y", 1);
        fault("y:", 2);
        fault("y:?1", 2);
        fault("y:1?1", 3);
        fault("y:1=1?1", -1);
        fault("y:1=1?", 6);
        fault("y:1=1?1?1", 7);
        fault("y:1=1?1=1?1", 7);
        fault("y:1=1?!1=1", 6);
        fault("y:1=1?(1)", 6);
        Edge.of("P4", "(A CLAUSE that goes on with ! or ( behind its : has a CONDITION.)");
        fault("y:(1=1)", 7);
        fault("y:(1=1)?1", -1);
        fault("y:(1)", 4);
        fault("y:(1+1)*2", 6);
        fault("y:!1=1", 6);
        fault("y:!1", 4);
        fault("y:!1=1?1", -1);
        fault("y: (1=1)?1", -1);
        fault("y: !1=1?1", -1);
    }

    private static void conditions() {
        Edge.of("P4", "CONDITION: TRUTHS with | between; TRUTH: UNITS with & between; UNIT: ! UNIT, ( CONDITION ), "
                + "or SUM, one of = < >, SUM.");
        fault("y:1=1|2=2?1", -1);
        fault("y:1=1|?1", 6);
        fault("y:1=1||2=2?1", 6);
        fault("y:1=1&2=2?1", -1);
        fault("y:1=1&?1", 6);
        fault("y:1=1&&2=2?1", 6);
        fault("y:1=1&1?1", 7);
        fault("y:1=1|1?1", 7);
        fault("y:()?1", 3);
        fault("y:!?1", 3);
        fault("y:1<2?1", -1);
        fault("y:1>2?1", -1);
        fault("y:1=2=3?1", 5);
        fault("y:1<=3?1", 4);
        fault("y:=3?1", 2);
        fault("y:(1=1)=1?1", 7);
        fault("y:(1=1", 6);
        fault("y:1=1)?1", 5);
        fault("y:(1=1]?1", 6);
        Edge.of("P4", "SUM: TERMS with + or - between; TERM: ATOMS with * or / between; ATOM: a number (1 to 4 "
                + "digits), a letter (l d m n w t), [ SUM ].");
        fault("y:1+2-3*4/5", -1);
        fault("y:+1", 2);
        fault("y:-1", 2);
        fault("y:*1", 2);
        fault("y:1+", 4);
        fault("y:1-", 4);
        fault("y:1*", 4);
        fault("y:1/", 4);
        fault("y:1+-1", 4);
        fault("y:1*/1", 4);
        fault("y:[]", 3);
        fault("y:[1", 4);
        fault("y:[1)", 4);
        fault("y:1]", 3);
        fault("y:[1=1]", 4);
        fault("y:ll", 3);
        fault("y:1l", 3);
        fault("y:l1", 3);
        fault("y:[1]2", 5);
        fault("y:2[1]", 3);
    }

    private static void digits() {
        Edge.of("P4", "a fifth digit");
        fault("y:1", -1);
        fault("y:1234", -1);
        fault("y:9999", -1);
        fault("y:0000", -1);
        fault("y:12345", 6);
        fault("y:00000", 6);
        fault("y:00001", 6);
        fault("y:1=12345?1", 8);
        fault("y:[12345]", 7);
        fault("y:1=1?12345", 10);
        fault("y:1234+56789", 11);
        Edge.of("P4", "Blanks (32) may stand between all signs of both, not within numbers.");
        fault("y:12 34", 5);
        fault("y:1 2", 4);
        fault("y:1234 5", 7);
        fault("y:1234  ", -1);
        fault(" y : [ 1 ] < l + 1 & ! ( 2 > 1 | d = 0 ) ? 12 ; y : 0 ", -1);
        fault("  y:1", -1);
        fault("y\t:1", 1);
        fault("y:1\n", 3);
        fault("y\u00a0:1", 1);
        fault("y:1 \u00a0", 4);
        Edge.is("of a LAW with blanks all over", Due.fault(0, "  m a , n b,o  c ,t 3, c 4 , y  "), -1);
        Edge.is("of a LAW with another blank", Due.fault(0, "m\ta"), 1);
    }

    /** What may follow at a place: these signs and a blank, no others of all bytes; with some of them it is a RULE. */
    private static void follows(String text, String signs, String complete) {
        for (int b = 1; b < 256; b++) {
            boolean good = b == ' ' || signs.indexOf(b) >= 0;
            int length = text.length();
            int want = complete.indexOf(b) >= 0 ? -1 : good ? length + 1 : length;
            Edge.is("byte " + b + " behind " + text, Due.fault(1, text + (char) b), want);
        }
    }

    private static void signs() {
        Edge.of("P4", "the first byte at which no such TEXT can go on");
        String digits = "0123456789";
        String atoms = digits + "ldmnwt";
        follows("", "y", "");
        follows("y", ":", "");
        follows("y:", atoms + "[!(", atoms);
        follows("y:1", digits + "+-*/=<>;", digits + " ");
        follows("y:1=", atoms + "[", "");
        follows("y:1=1", digits + "+-*/&|?", "");
        follows("y:1=1?", atoms + "[", atoms);
        follows("y:1=1?1", digits + "+-*/;", digits + " ");
        follows("y:1=1&", atoms + "[!(", "");
        follows("y:1=1|", atoms + "[!(", "");
        follows("y:!", atoms + "[!(", "");
        follows("y:(", atoms + "[!(", "");
        follows("y:(1", digits + "+-*/=<>", "");
        follows("y:(1=1", digits + "+-*/&|)", "");
        follows("y:(1=1)", "&|?", "");
        follows("y:[", atoms + "[", "");
        follows("y:[1", digits + "+-*/]", "]");
        follows("y:[1]", "+-*/=<>;", " ");
        follows("y:l", "+-*/=<>;", " ");
        follows("y:1;", "y", "");
        for (String sign : new String[] {"+", "-", "*", "/"}) {
            follows("y:1=1" + sign, atoms + "[", "");
        }
        Edge.of("P4", "(the length, if it ends too early)");
        String rule = "y : ! ( [ l + 12 ] * 3 < w | d = 0 ) & m > n ?";
        for (int n = 0; n <= rule.length(); n++) {
            fault(rule.substring(0, n), n);
        }
    }

    /** So many of ! and ( one within another, as the bits tell. */
    private static String opened(int bits, int many) {
        StringBuilder s = new StringBuilder("y:");
        for (int i = 0; i < many; i++) {
            s.append((bits >> i & 1) == 0 ? '!' : '(');
        }
        return s.toString();
    }

    private static String closed(int bits, int many) {
        StringBuilder s = new StringBuilder();
        for (int i = many - 1; i >= 0; i--) {
            s.append((bits >> i & 1) == 0 ? "" : ")");
        }
        return s + "?1";
    }

    private static void depths() {
        Edge.of("P4", "a seventh of ( [ ! are such");
        for (int bits = 0; bits < 64; bits++) {
            String six = opened(bits, 6);
            fault(six + "1=1" + closed(bits, 6), -1);
            fault(six + "(1=1)", 8);
            fault(six + "!1=1", 8);
            fault(six + "[1]=1", 8);
            fault(six + "1=[1]", 10);
            fault(opened(bits, 5) + "[1]=[1]" + closed(bits, 5), -1);
            fault(opened(bits, 5) + "[[1]]=1", 8);
        }
        fault("y:[[[[[[1]]]]]]", -1);
        fault("y:[[[[[[[1]]]]]]]", 8);
        fault("y:[[[[[[1]]]]]]=[[[[[[1]]]]]]?[[[[[[1]]]]]]", -1);
        fault("y:1=[[[[[[[1", 10);
        fault("y:1=1?[[[[[[[1", 12);
        fault("y:[[[[[1+[1-[1", 12);
        Edge.of("P4", "At most six of ( [ ! within one another.");
        fault("y:((((((1=1))))))|((((((1=1))))))&!!!!!!1=1?1", -1);
        fault("y:!1=1&!1=1&!1=1&!1=1&!1=1&!1=1&!1=1&!1=1?1", -1);
        fault("y:[1]+[1]*[1]-[1]/[1]+[1]+[1]+[1]", -1);
        fault("y:(1=1)&(1=1)|(1=1)&(1=1)|(1=1)&(1=1)|(1=1)?1", -1);
        fault("y:[[[[[[1]]]]]];y:[[[[[[1]]]]]]", -1);
        fault("y:[[[[[[1]]]]]+[1]]", -1);
        fault("y:[[[[[[1]+[1]]]]]]", -1);
        fault("y:[[[[[[1]+[[1]]]]]]]", 12);
    }

    /** A RULE of one CLAUSE, its CONDITION so; on a DIARY of one day without anything that HOLDS. */
    private static void holds(String condition, boolean want) {
        DiceLaw x = Due.with(".,.,.,.,.,.");
        x.told(0);
        int rule = Due.rule(x, "y:" + condition + "?1");
        Edge.is(condition + " is a CONDITION", rule, 0);
        Edge.is(condition, x.follow(rule, 0, 0), want ? 1 : 0);
    }

    private static void numbers() {
        Edge.of("P32", "Behind each sign numbers are within -1,000,000 .. 1,000,000");
        holds("1000*1000-1=999*1000+999", true);
        holds("999*1000+999+1=1000*1000", true);
        holds("999*1000+999+1>999*1000+999", true);
        holds("1000*1000+1=1000*1000", true);
        holds("1000*1000+1-1=999*1000+999", true);
        holds("1000*1000+9999-1=999*1000+999", true);
        holds("0-1000*1000<0-999*1000-999", true);
        holds("0-999*1000-999-1=0-1000*1000", true);
        holds("0-1000*1000-1+1=0-999*1000-999", true);
        holds("0-1000*1000-9999+1=0-999*1000-999", true);
        holds("1000*1000-[0-1]-1=999*1000+999", true);
        holds("1001*1000-1=999*1000+999", true);
        holds("[0-1001]*1000+1=0-999*1000-999", true);
        holds("9999*9999*9999-1=999*1000+999", true);
        holds("[0-9999]*9999*9999+1=0-999*1000-999", true);
        holds("[1000*1000]*[1000*1000]-1=999*1000+999", true);
        holds("[0-1000*1000]*[1000*1000]+1=0-999*1000-999", true);
        holds("[0-1000*1000]*[0-1000*1000]-1=999*1000+999", true);
        holds("1001*1000/1000=1000", true);
        holds("[0-1001*1000]/1000=0-1000", true);
        holds("1000*1000/[0-1]=0-1000*1000", true);
        holds("1+1000*1000*2-1=999*1000+999", true);
        holds("9999=9999+1", false);
        holds("9999+1=10*1000", true);
        Edge.of("P32", "/ cuts towards 0, by 0 gives 0.");
        holds("7/2=3", true);
        holds("8/2=4", true);
        holds("[0-7]/2=0-3", true);
        holds("7/[0-2]=0-3", true);
        holds("[0-7]/[0-2]=3", true);
        holds("1/2=0", true);
        holds("[0-1]/2=0", true);
        holds("9999/9999=1", true);
        holds("9998/9999=0", true);
        holds("5/0=0", true);
        holds("[0-5]/0=0", true);
        holds("0/0=0", true);
        holds("5/[1-1]+2=2", true);
        holds("1000*1000/0=0", true);
        Edge.of("P32", "SUM: TERMS with + or - between; TERM: ATOMS with * or / between");
        holds("1-1-1=0-1", true);
        holds("1-[1-1]=1", true);
        holds("8/2/2=2", true);
        holds("8/2*2=8", true);
        holds("2+3*4=14", true);
        holds("[2+3]*4=20", true);
        holds("0012=12", true);
    }

    private static void comparisons() {
        Edge.of("P32", "or SUM, one of = < >, SUM.");
        holds("1=1", true);
        holds("1=2", false);
        holds("1<2", true);
        holds("1<1", false);
        holds("2<1", false);
        holds("2>1", true);
        holds("1>1", false);
        holds("1>2", false);
        Edge.of("P32", "CONDITION: TRUTHS with | between; TRUTH: UNITS with & between; UNIT: ! UNIT, ( CONDITION ),");
        holds("1=1|1=2&1=2", true);
        holds("(1=1|1=2)&1=2", false);
        holds("1=2&1=2|1=1", true);
        holds("!1=2", true);
        holds("!1=1", false);
        holds("!!1=1", true);
        holds("!1=2|1=1", true);
        holds("!(1=2|1=1)", false);
        holds("!1=1|1=1", true);
        holds("!1=2&1=2", false);
        holds("!!!!!!1=1", true);
        holds("((((((1=2))))))", false);
    }

    /** So often it is done, over six days; w is from 0 up as long as it is not. */
    private static void worths(String rule, int want) {
        DiceLaw x = Due.with("ma,na,oa,.,.,.", "ma,na,oa,.,.,.");
        int[] told = {6 * 3 + 3, 6 * 2 + 3, 6 * 1 + 1, 6 * 0 + 1, 6 * 2 + 1, 6 * 2 + 0};
        for (int day : told) {
            x.told(day);
        }
        int number = Due.rule(x, rule);
        Edge.is(rule, x.follow(number, 0, 0), want);
    }

    private static void worths() {
        Edge.of("P32", "the SUM of the first CLAUSE whose CONDITION holds (or has none), 0 without.");
        worths("y:1=2?1", 0);
        worths("y:1=2?1;y:1=2?1", 0);
        worths("y:1=2?1;y:1", 6);
        worths("y:0;y:1", 0);
        worths("y:1;y:0", 6);
        worths("y:1=1?0;y:1", 0);
        worths("y:1=1?1;y:0", 6);
        worths("y:t=0?1;y:t=5?1", 2);
        worths("y:1=2?0;".repeat(14) + "y:1", 6);
        worths("y:1=2?1" + "+0".repeat(54) + ";y:1", 6);
        Edge.of("P32", "it is done on a day, if WORTH is above 0");
        worths("y:0", 0);
        worths("y:1", 6);
        worths("y:0-1", 0);
        worths("y:1-1", 0);
        worths("y:1000*1000", 6);
        worths("y:0-1000*1000", 0);
        worths("y:1/2", 0);
        Edge.of("P32", "letters: l LAWFUL (1, 0), d MUST (1, 0), m by how many ALLOWED, n FORBIDDEN");
        worths("y:l=1?1", 3);
        worths("y:l=0?1", 3);
        worths("y:d=1?1", 2);
        worths("y:d=0?1", 4);
        worths("y:m=0?1", 4);
        worths("y:m=1?1", 2);
        worths("y:n=0?1", 3);
        worths("y:n=1?1", 2);
        worths("y:n=2?1", 1);
        worths("y:n=3?1", 0);
        worths("y:d-m", 1);
        worths("y:m-d", 1);
        worths("y:d*m", 1);
        worths("y:n-m", 2);
        worths("y:l-d", 1);
        worths("y:l-m", 2);
        eachDeed();
        Edge.of("P32", "w days since it was last done (so many as went by, if never), t the day's place.");
        worths("y:t=0?1", 1);
        worths("y:t=5?1", 1);
        worths("y:t=6?1", 0);
        worths("y:t<0?1", 0);
        worths("y:w=0?1", 1);
        worths("y:w=1?1", 5);
        worths("y:w=5?1", 1);
        worths("y:w=6?1", 0);
        worths("y:w=2?1", 2);
        worths("y:w=t?1", 2);
        worths("y:t=1|w=4?1", 2);
    }

    /** Letters are those of the DEED for which the RULE is. */
    private static void eachDeed() {
        for (int deed = 0; deed < 6; deed++) {
            char sign = (char) ('a' + deed);
            DiceLaw x = Due.with("m" + sign + ",n" + sign + ",o" + sign + ",.,.,.", "m" + sign + ",.,.,.,.,.");
            // MAY on five days, MUST NOT on three, MUST on two
            int[] told = {0 * 6 + 1, 1 * 6 + 1, 2 * 6 + 1, 2 * 6 + 1, 3 * 6 + 0, 3 * 6 + 0, 0, 0, 1 * 6 + 2, 1 * 6 + 2};
            for (int day : told) {
                x.told(day);
            }
            String[] rules = {"y:l", "y:d", "y:m", "y:n"};
            int[] due = {7, 2, 5, 3};
            for (int i = 0; i < 4; i++) {
                Due.rule(x, rules[i]);
                for (int other = 0; other < 6; other++) {
                    int none = i == 0 ? 10 : 0;
                    Edge.is(rules[i] + " of " + other + " by CLAUSES of " + deed, x.follow(i, other, 0),
                            other == deed ? due[i] : none);
                }
            }
        }
    }

    private static DiceLaw must(int days) {
        DiceLaw x = Due.with("oa,na,.,.,.,.");
        for (int day = 0; day < days; day++) {
            x.told(day % 2);
        }
        return x;
    }

    private static void followed() {
        Edge.of("P32", "FOLLOWED: done (0), not LAWFUL (1), left (2).");
        DiceLaw none = must(0);
        DiceLaw all = must(40);
        String[] rules = {"y:1", "y:0", "y:l", "y:!l=1?1"};
        int[][] due = {{40, 20, 0}, {0, 0, 20}, {20, 0, 0}, {20, 20, 20}};
        for (int rule = 0; rule < 4; rule++) {
            Due.rule(none, rules[rule]);
            Due.rule(all, rules[rule]);
            for (int what = 0; what < 3; what++) {
                Edge.is(rules[rule] + " over no days, " + what, none.follow(rule, 0, what), 0);
                Edge.is(rules[rule] + " over 40 days, " + what, all.follow(rule, 0, what), due[rule][what]);
            }
        }
        Edge.is("another DEED is always LAWFUL", all.follow(0, 5, 1), 0);
        Edge.is("no DEED is left that need not be done", all.follow(1, 5, 2), 0);
        Edge.of("P32", "how many days it MUST be done and was not.");
        DiceLaw x = Due.with("oa,oa,oa,oa,oa,oa", "na,ma,.,.,.,.", "ma,ma,.,.,.,.");
        Due.rule(x, "y:0");
        x.told(0);
        Edge.is("DUE, but ALLOWED by no more than FORBIDDEN", x.follow(0, 0, 2), 0);
        x.told(2);
        Edge.is("DUE, but ALLOWED by fewer than FORBIDDEN", x.follow(0, 0, 2), 0);
        x.told(7);
        Edge.is("DUE and ALLOWED", x.follow(0, 0, 2), 1);
    }

    /** A RULE of 120 bytes keeps its last byte. */
    private static void longest() {
        Edge.of("P5", "The TAPE (empty then; if refused it stays) is one of these: its number.");
        DiceLaw x = must(2);
        String zeros = "y:" + "0+".repeat(58);
        Edge.is("120 bytes", (zeros + "+0").length(), 120);
        Due.rule(x, zeros + "00");
        Due.rule(x, zeros + "01");
        Edge.is("two are taken", x.count(1), 2);
        Edge.is("the last byte is 0", x.follow(0, 0, 0), 0);
        Edge.is("the last byte is 1", x.follow(1, 0, 0), 2);
        Due.rule(x, "y:1");
        Edge.is("a short one behind them", x.follow(2, 0, 0), 2);
        Due.type(x, "y:0;y:9999");
        Edge.is("the TAPE is no RULE's any more", x.follow(2, 0, 0), 2);
    }

    public static void main(String[] args) {
        clauses();
        conditions();
        digits();
        signs();
        depths();
        numbers();
        comparisons();
        worths();
        followed();
        longest();
        Due.close("EdgeRuleTest");
    }
}

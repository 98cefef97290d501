/** P32: RULES, their letters and numbers, FOLLOWED over the DIARY. */
public final class RuleTest {
    private static DiceLaw diary() {
        DiceLaw x = Due.with("ma,na,oa,.,.,.", "ma,na,oa,.,.,.");
        int[] told = {6 * 3 + 3, 6 * 2 + 3, 6 * 1 + 1, 6 * 0 + 1, 6 * 2 + 1, 6 * 2 + 0};
        for (int day : told) {
            x.told(day);
        }
        return x;
    }

    private static void followed(String rule, int done, int unlawful, int left) {
        DiceLaw x = diary();
        int number = Due.rule(x, rule);
        Due.is("P32 done by " + rule, x.follow(number, 0, 0), done);
        Due.is("P32 not LAWFUL by " + rule, x.follow(number, 0, 1), unlawful);
        Due.is("P32 left by " + rule, x.follow(number, 0, 2), left);
    }

    private static void letters() {
        followed("y:1", 6, 3, 0);
        followed("y:0", 0, 0, 2);
        followed("y:0-1", 0, 0, 2);
        followed("y:l", 3, 0, 0);
        followed("y:d", 2, 0, 0);
        followed("y:m", 2, 1, 1);
        followed("y:n", 3, 3, 2);
        followed("y:n-1", 1, 1, 2);
        followed("y:t", 5, 3, 0);
        followed("y:t-4", 1, 0, 1);
        followed("y:w", 5, 3, 0);
        followed("y:w-1", 2, 2, 2);
        followed("y:w=2?1", 2, 2, 2);
        followed("y:w=3?1;y:w=1&t>3?1", 3, 2, 1);
    }

    private static void clauses() {
        followed("y:l=1?1;y:n=2?1", 4, 1, 0);
        followed("y:l=1?0;y:1", 3, 3, 2);
        followed("y:l=0?0;y:l=1?1;y:1", 3, 0, 0);
        followed("y:t=9?1", 0, 0, 2);
        followed("y:t<1|t>4?1", 2, 0, 1);
        followed("y:t>0&t<3|t=5?1", 3, 1, 0);
        followed("y:t>0&(t<3|t=5)?1", 3, 1, 0);
        followed("y:(t>0|l=2)&t<3?1", 2, 1, 1);
        followed("y:!t=0&!t=5?1", 4, 3, 1);
        followed("y:!(t=0|t=5)?1", 4, 3, 1);
        followed("y:!!t=0?1", 1, 0, 2);
        followed("y:[t]=[0]?1", 1, 0, 2);
    }

    private static void numbers() {
        followed("y:1-1-1", 0, 0, 2);
        followed("y:1-[1-1]", 6, 3, 0);
        followed("y:7/2*2-6", 0, 0, 2);
        followed("y:7/2*2=6?1", 6, 3, 0);
        followed("y:1+2*3=7?1", 6, 3, 0);
        followed("y:[1+2]*3=9?1", 6, 3, 0);
        followed("y:[0-7]/2=0-3?1", 6, 3, 0);
        followed("y:5/0=0?1", 6, 3, 0);
        followed("y:5/t=5?1", 1, 0, 1);
        followed("y:1000*1000=1000*1000+5?1", 6, 3, 0);
        followed("y:1001*1000=1000*1000?1", 6, 3, 0);
        followed("y:9999*9999*9999=1000*1000?1", 6, 3, 0);
        followed("y:[0-9999]*9999=0-1000*1000?1", 6, 3, 0);
        followed("y:0-1000*1000-1+1=1-1000*1000?1", 6, 3, 0);
        followed("y:9999*9999/1000=1000?1", 6, 3, 0);
        followed("y:0099=99?1", 6, 3, 0);
        followed(" y : [ 0 - 1 ] * [ 0 - 1 ] = 1 ? 1 ", 6, 3, 0);
    }

    private static void refused() {
        DiceLaw x = diary();
        Due.is("P32 no RULES", x.follow(0, 0, 0), -1);
        Due.rule(x, "y:1");
        Due.rule(x, "y:0");
        Due.is("P32 the first", x.follow(0, 1, 0), 6);
        Due.is("P32 another DEED is LAWFUL", x.follow(0, 1, 1), 0);
        Due.is("P32 the second", x.follow(1, 0, 0), 0);
        Due.is("P32 no such RULE", x.follow(2, 0, 0), -1);
        Due.is("P32 no such RULE", x.follow(-1, 0, 0), -1);
        Due.is("P32 no such DEED", x.follow(0, 6, 0), -1);
        Due.is("P32 no such DEED", x.follow(0, -1, 0), -1);
        Due.is("P32 no such what", x.follow(0, 0, 3), -1);
        Due.is("P32 no such what", x.follow(0, 0, -1), -1);
        DiceLaw y = new DiceLaw();
        Due.rule(y, "y:1");
        Due.is("P32 no DAWNS", y.follow(0, 0, 0), 0);
    }

    public static void main(String[] args) {
        letters();
        clauses();
        numbers();
        refused();
        Due.close("RuleTest");
    }
}

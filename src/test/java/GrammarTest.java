import java.util.HashMap;
import java.util.Map;
import java.util.Random;
import java.util.Set;
import java.util.TreeSet;
import java.util.function.ToIntFunction;

/**
 * FAULTS (P4) against a recogniser that tries every way of reading, and the WORTH of RULES (P32) against trees that
 * are reckoned apart from their texts.
 */
public final class GrammarTest {
    /** All places at which a part of a text can end; the furthest sign at which nothing could go on. */
    private static final class Recogniser {
        private final String text;
        private int furthest;
        private final Map<String, Set<Integer>> known = new HashMap<>();

        Recogniser(String text) {
            this.text = text;
        }

        int fault(int sort) {
            Set<Integer> ends = sort == 0 ? law() : rule();
            for (int end : ends) {
                int p = skip(end);
                if (p == text.length()) {
                    return -1;
                }
                furthest = Math.max(furthest, p);
            }
            return furthest;
        }

        private int skip(int p) {
            int q = p;
            while (q < text.length() && text.charAt(q) == ' ') {
                q++;
            }
            return q;
        }

        private Set<Integer> sign(Set<Integer> from, String signs) {
            Set<Integer> ends = new TreeSet<>();
            for (int p : from) {
                int q = skip(p);
                if (q < text.length() && signs.indexOf(text.charAt(q)) >= 0) {
                    ends.add(q + 1);
                } else {
                    furthest = Math.max(furthest, q);
                }
            }
            return ends;
        }

        private Set<Integer> law() {
            Set<Integer> at = Set.of(0);
            for (int i = 0; i < 6; i++) {
                if (i > 0) {
                    at = sign(at, ",");
                }
                Set<Integer> next = sign(at, ".y");
                next.addAll(sign(sign(at, "mno"), "abcdef"));
                next.addAll(sign(sign(at, "tc"), "01234"));
                at = next;
            }
            return at;
        }

        private Set<Integer> rule() {
            Set<Integer> ends = clause(Set.of(0));
            Set<Integer> last = ends;
            while (!last.isEmpty()) {
                last = clause(sign(last, ";"));
                ends.addAll(last);
            }
            return ends;
        }

        private Set<Integer> clause(Set<Integer> from) {
            Set<Integer> at = sign(sign(from, "y"), ":");
            Set<Integer> behind = sign(part("condition", at, 0), "?");
            Set<Integer> ends = part("sum", at, 0);
            ends.addAll(part("sum", behind, 0));
            return ends;
        }

        private Set<Integer> part(String what, Set<Integer> from, int depth) {
            Set<Integer> ends = new TreeSet<>();
            for (int p : from) {
                String key = what + "/" + p + "/" + depth;
                Set<Integer> got = known.get(key);
                if (got == null) {
                    got = one(what, Set.of(p), depth);
                    known.put(key, got);
                }
                ends.addAll(got);
            }
            return ends;
        }

        private Set<Integer> one(String what, Set<Integer> p, int depth) {
            switch (what) {
                case "condition":
                    return chain("truth", "|", p, depth);
                case "truth":
                    return chain("unit", "&", p, depth);
                case "unit": {
                    Set<Integer> ends = part("sum", sign(part("sum", p, depth), "=<>"), depth);
                    if (depth < 6) {
                        ends.addAll(part("unit", sign(p, "!"), depth + 1));
                        ends.addAll(sign(part("condition", sign(p, "("), depth + 1), ")"));
                    }
                    return ends;
                }
                case "sum":
                    return chain("term", "+-", p, depth);
                case "term":
                    return chain("atom", "*/", p, depth);
                default: {
                    Set<Integer> ends = sign(p, "ldmnwt");
                    ends.addAll(number(p));
                    if (depth < 6) {
                        ends.addAll(sign(part("sum", sign(p, "["), depth + 1), "]"));
                    }
                    return ends;
                }
            }
        }

        private Set<Integer> number(Set<Integer> from) {
            Set<Integer> ends = sign(from, "0123456789");
            Set<Integer> last = new TreeSet<>(ends);
            for (int i = 1; i < 4; i++) {
                Set<Integer> next = new TreeSet<>();
                for (int p : last) {
                    if (p < text.length() && Character.isDigit(text.charAt(p))) {
                        next.add(p + 1);
                    }
                }
                // a number that could have gone on ends here too, but nothing follows it then
                ends.addAll(next);
                last = next;
            }
            return ends;
        }

        private Set<Integer> chain(String what, String between, Set<Integer> from, int depth) {
            Set<Integer> ends = new TreeSet<>(part(what, from, depth));
            Set<Integer> last = ends;
            while (!last.isEmpty()) {
                last = part(what, sign(last, between), depth);
                ends = new TreeSet<>(ends);
                ends.addAll(last);
            }
            return ends;
        }
    }

    /** A SUM or a CONDITION (1, 0): its text and how it is reckoned. */
    private static final class Tree {
        final String text;
        final ToIntFunction<int[]> worth;

        Tree(String text, ToIntFunction<int[]> worth) {
            this.text = text;
            this.worth = worth;
        }
    }

    private final Random random;

    private GrammarTest(long seed) {
        random = new Random(seed);
    }

    private String gap() {
        return random.nextInt(12) == 0 ? " " : "";
    }

    private static int cut(long v) {
        return (int) (v > 1000000 ? 1000000 : v < -1000000 ? -1000000 : v);
    }

    private Tree sum(int depth) {
        Tree left = term(depth);
        while (random.nextInt(3) == 0) {
            Tree a = left;
            Tree b = term(depth);
            boolean plus = random.nextBoolean();
            left = new Tree(a.text + gap() + (plus ? "+" : "-") + gap() + b.text, v -> {
                long x = a.worth.applyAsInt(v);
                long y = b.worth.applyAsInt(v);
                return cut(plus ? x + y : x - y);
            });
        }
        return left;
    }

    private Tree term(int depth) {
        Tree left = atom(depth);
        while (random.nextInt(3) == 0) {
            Tree a = left;
            Tree b = atom(depth);
            boolean times = random.nextBoolean();
            left = new Tree(a.text + gap() + (times ? "*" : "/") + gap() + b.text, v -> {
                long x = a.worth.applyAsInt(v);
                long y = b.worth.applyAsInt(v);
                return cut(times ? x * y : y == 0 ? 0 : x / y);
            });
        }
        return left;
    }

    private Tree atom(int depth) {
        if (depth < 6 && random.nextInt(5) == 0) {
            Tree in = sum(depth + 1);
            return new Tree("[" + gap() + in.text + gap() + "]", in.worth);
        }
        if (random.nextInt(2) == 0) {
            int letter = random.nextInt(6);
            return new Tree("" + "ldmnwt".charAt(letter), v -> v[letter]);
        }
        int digits = 1 + random.nextInt(4);
        int n = random.nextInt(new int[] {10, 100, 1000, 10000}[digits - 1]);
        return new Tree(random.nextInt(8) == 0 ? String.format("%04d", n) : "" + n, v -> n);
    }

    private Tree condition(int depth) {
        Tree left = truth(depth);
        while (random.nextInt(4) == 0) {
            Tree a = left;
            Tree b = truth(depth);
            left = new Tree(a.text + gap() + "|" + gap() + b.text,
                    v -> Math.max(a.worth.applyAsInt(v), b.worth.applyAsInt(v)));
        }
        return left;
    }

    private Tree truth(int depth) {
        Tree left = unit(depth);
        while (random.nextInt(4) == 0) {
            Tree a = left;
            Tree b = unit(depth);
            left = new Tree(a.text + gap() + "&" + gap() + b.text,
                    v -> Math.min(a.worth.applyAsInt(v), b.worth.applyAsInt(v)));
        }
        return left;
    }

    private Tree unit(int depth) {
        int what = random.nextInt(6);
        if (what == 0 && depth < 6) {
            Tree in = unit(depth + 1);
            return new Tree("!" + gap() + in.text, v -> 1 - in.worth.applyAsInt(v));
        }
        if (what == 1 && depth < 6) {
            Tree in = condition(depth + 1);
            return new Tree("(" + gap() + in.text + gap() + ")", in.worth);
        }
        return compare(sum(depth), random.nextInt(3), sum(depth));
    }

    private Tree compare(Tree a, int how, Tree b) {
        return new Tree(a.text + gap() + "=<>".charAt(how) + gap() + b.text, v -> {
            int order = Integer.compare(a.worth.applyAsInt(v), b.worth.applyAsInt(v));
            return order == (how == 0 ? 0 : how == 1 ? -1 : 1) ? 1 : 0;
        });
    }

    private static Tree number(int v) {
        int a = Math.abs(v);
        String text = v < 0 ? "0-" + a / 1000 + "*1000-" + a % 1000 : a / 1000 + "*1000+" + a % 1000;
        return new Tree(text, any -> v);
    }

    private Tree rule(int[][] days) {
        StringBuilder text = new StringBuilder();
        Tree[] conditions = new Tree[1 + random.nextInt(3)];
        Tree[] sums = new Tree[conditions.length];
        for (int i = 0; i < conditions.length; i++) {
            if (random.nextBoolean()) {
                Tree s = sum(0);
                int[] day = days[random.nextInt(days.length)];
                conditions[i] = compare(s, 0, number(s.worth.applyAsInt(day)));
            } else {
                conditions[i] = random.nextInt(4) == 0 ? null : condition(0);
            }
            sums[i] = sum(0);
            text.append(i > 0 ? ";" : "").append(gap()).append("y").append(gap()).append(":").append(gap());
            text.append(conditions[i] == null ? "" : conditions[i].text + gap() + "?" + gap());
            text.append(sums[i].text).append(gap());
        }
        return new Tree(text.toString(), v -> {
            for (int i = 0; i < conditions.length; i++) {
                if (conditions[i] == null || conditions[i].worth.applyAsInt(v) == 1) {
                    return sums[i].worth.applyAsInt(v);
                }
            }
            return 0;
        });
    }

    private static int[] letters(DiceLaw x, int deed, int day, int w) {
        return new int[] {x.deed(deed, day, 0), x.deed(deed, day, 1), x.deed(deed, day, 2), x.deed(deed, day, 3), w,
            day};
    }

    private void worths() {
        DiceLaw x = Due.with("ma,na,oa,.,mb,ob", "ma,na,oa,nb,mb,ob", "ma,na,oa,nb,mb,ob");
        for (int day = 0; day < 12; day++) {
            x.told(random.nextInt(216));
        }
        int deed = random.nextInt(2);
        int[][] days = new int[12][];
        for (int day = 0; day < 12; day++) {
            days[day] = letters(x, deed, day, day);
        }
        for (int tries = 0; tries < 40 && x.count(1) < 4; tries++) {
            Tree rule = rule(days);
            if (rule.text.length() > 120) {
                continue;
            }
            int number = Due.rule(x, rule.text);
            Due.is("P5 RULE " + rule.text, number, x.count(1) - 1);
            int last = -1;
            int[] due = new int[3];
            for (int day = 0; day < 12; day++) {
                int[] v = letters(x, deed, day, last < 0 ? day : day - last);
                boolean done = rule.worth.applyAsInt(v) > 0;
                last = done ? day : last;
                due[0] += done ? 1 : 0;
                due[1] += done && v[0] == 0 ? 1 : 0;
                due[2] += !done && v[1] == 1 ? 1 : 0;
            }
            for (int what = 0; what < 3; what++) {
                Due.is("P32 follow " + what + " of " + rule.text, x.follow(number, deed, what), due[what]);
            }
        }
    }

    private String law() {
        StringBuilder s = new StringBuilder();
        for (int i = 0; i < 6 + random.nextInt(8) / 7 - random.nextInt(8) / 7; i++) {
            int what = random.nextInt(7);
            s.append(i > 0 ? "," : "").append(gap()).append(".ymnotc".charAt(what)).append(gap());
            if (what > 1) {
                s.append(what > 4 ? "01234".charAt(random.nextInt(5)) : "abcdef".charAt(random.nextInt(6)));
            }
            s.append(gap());
        }
        return s.toString();
    }

    private String spoilt(String text, String signs) {
        StringBuilder s = new StringBuilder(text);
        for (int i = random.nextInt(3); i > 0; i--) {
            int p = random.nextInt(s.length() + 1);
            char sign = signs.charAt(random.nextInt(signs.length()));
            char c = random.nextInt(20) == 0 ? (char) (1 + random.nextInt(255)) : sign;
            int how = random.nextInt(4);
            if (how == 0 || p == s.length()) {
                s.insert(p, c);
            } else if (how == 1) {
                s.deleteCharAt(p);
            } else if (how == 2) {
                s.setCharAt(p, c);
            } else {
                s.setLength(p);
            }
        }
        return s.length() > 120 ? s.substring(0, 120) : s.toString();
    }

    private void faults() {
        int[][] days = {{1, 0, 1, 0, 3, 4}};
        for (int i = 0; i < 20; i++) {
            String rule = spoilt(rule(days).text, "y:?;|&!()=<>+-*/[]0123456789ldmnwt ");
            Due.is("P4 RULE '" + rule + "'", Due.fault(1, rule), new Recogniser(rule).fault(1));
            String law = spoilt(law(), ".,mnotcyabcdef0123456789 ");
            Due.is("P4 LAW '" + law + "'", Due.fault(0, law), new Recogniser(law).fault(0));
        }
        String signs = "![(1=1&|)]";
        StringBuilder deep = new StringBuilder("y:");
        for (int i = 0; i < 5 + random.nextInt(25); i++) {
            deep.append(signs.charAt(random.nextInt(random.nextBoolean() ? 3 : signs.length())));
        }
        Due.is("P4 deep '" + deep + "'", Due.fault(1, deep.toString()), new Recogniser(deep.toString()).fault(1));
    }

    public static void main(String[] args) {
        int runs = args.length > 0 ? Integer.parseInt(args[0]) : 600;
        for (int seed = 1; seed <= runs; seed++) {
            GrammarTest test = new GrammarTest(seed);
            test.worths();
            test.faults();
        }
        Due.close("GrammarTest");
    }
}

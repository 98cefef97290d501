import java.math.BigInteger;
import java.util.ArrayList;
import java.util.Collections;
import java.util.List;
import java.util.Random;

/**
 * Long random runs against a second DiceLaw written the slow way: every throw of every DIE is tried, every amendment
 * is made. All promises but the FAULTS of texts, for which GrammarTest stands.
 */
public final class ModelTest {
    private static final class Dawn {
        int[] faces;
        int[] held;
        int again;
        long before;
        final List<int[]> acts = new ArrayList<>();

        Dawn copy() {
            Dawn d = new Dawn();
            d.faces = faces.clone();
            d.held = held.clone();
            d.again = again;
            d.before = before;
            d.acts.addAll(acts);
            return d;
        }
    }

    private interface Ways {
        void add(int[] faces, int again, long ways);
    }

    private interface Met {
        boolean in(int[] held);
    }

    private static final class Model {
        List<int[]> laws = new ArrayList<>();
        List<int[]> weights = new ArrayList<>();
        List<Dawn> dawns = new ArrayList<>();
        int[] asked = {2, 2, 2, 2, 2, 2};
        long x;
        List<int[]> keptLaws;
        List<int[]> keptWeights;
        List<Dawn> keptDawns;
        long keptX;

        int aim(List<int[]> all, int law, int face) {
            int c = all.get(law)[face];
            return c / 10 == 4 && c % 10 < all.size() ? c % 10 : -1;
        }

        // next DIE to be thrown again, by the words of the document
        int pending(List<int[]> all, int[] faces, boolean[] did) {
            for (int i = 0; i < faces.length; i++) {
                if (aim(all, i, faces[i]) >= 0 && !did[i]) {
                    return i;
                }
            }
            return -1;
        }

        void tryAll(List<int[]> all, List<int[]> w, int law, int[] faces, long ways, Ways out) {
            if (law == all.size()) {
                settle(all, w, faces, new boolean[law], 0, ways, out);
                return;
            }
            for (int f = 0; f < 6; f++) {
                if (w.get(law)[f] > 0) {
                    faces[law] = f;
                    tryAll(all, w, law + 1, faces, ways * w.get(law)[f], out);
                }
            }
        }

        void settle(List<int[]> all, List<int[]> w, int[] faces, boolean[] did, int again, long ways, Ways out) {
            int i = again == 3 ? -1 : pending(all, faces, did);
            if (i < 0) {
                out.add(faces, again, ways * (again == 3 ? 1 : again == 2 ? 12 : again == 1 ? 144 : 1728));
                return;
            }
            int k = aim(all, i, faces[i]);
            for (int f = 0; f < 6; f++) {
                if (w.get(k)[f] > 0) {
                    int[] next = faces.clone();
                    boolean[] now = did.clone();
                    now[i] = true;
                    now[k] = false;
                    next[k] = f;
                    settle(all, w, next, now, again + 1, ways * w.get(k)[f], out);
                }
            }
        }

        int[] held(List<int[]> all, int[] faces) {
            int[] held = new int[faces.length];
            for (int i = 0; i < faces.length; i++) {
                List<Integer> seen = new ArrayList<>();
                int at = i;
                while (true) {
                    if (at >= faces.length || seen.contains(at)) {
                        held[i] = 0;
                        break;
                    }
                    seen.add(at);
                    int c = all.get(at)[faces[at]];
                    if (c == 60) {
                        held[i] = dawns.isEmpty() ? 0 : dawns.get(dawns.size() - 1).held[at];
                        break;
                    }
                    if (c / 10 == 5) {
                        at = c % 10;
                        continue;
                    }
                    held[i] = c / 10 == 4 ? 0 : c;
                    break;
                }
            }
            return held;
        }

        static int by(int[] held, int clause) {
            int n = 0;
            for (int h : held) {
                n += h == clause ? 1 : 0;
            }
            return n;
        }

        static boolean lawful(int[] held, int deed) {
            return by(held, 20 + deed) == 0 || by(held, 10 + deed) > by(held, 20 + deed);
        }

        static boolean must(int[] held, int deed) {
            return by(held, 30 + deed) >= 1 && lawful(held, deed);
        }

        long met(List<int[]> all, List<int[]> w, Met met) {
            long[] sum = new long[1];
            tryAll(all, w, 0, new int[all.size()], 1, (faces, again, ways) -> {
                if (met.in(held(all, faces))) {
                    sum[0] += ways;
                }
            });
            return sum[0];
        }

        long lawfulWays(int deed) {
            return met(laws, weights, h -> lawful(h, deed));
        }

        long total() {
            return (long) Math.pow(12, laws.size() + 3);
        }

        static long part(long above, long below, int part) {
            BigInteger g = BigInteger.valueOf(above).gcd(BigInteger.valueOf(below));
            return (part == 0 ? above : below) / g.longValue();
        }

        List<int[]> with(int law, int face, int clause) {
            List<int[]> other = deep(laws);
            other.get(law)[face] = clause;
            return other;
        }

        static List<int[]> deep(List<int[]> rows) {
            List<int[]> other = new ArrayList<>();
            for (int[] row : rows) {
                other.add(row.clone());
            }
            return other;
        }

        int roll(int law) {
            x = x * 6364136223846793005L + 1442695040888963407L;
            long v = Long.remainderUnsigned(x >>> 33, 12);
            int sum = 0;
            for (int f = 0; f < 6; f++) {
                sum += weights.get(law)[f];
                if (sum > v) {
                    return f;
                }
            }
            throw new AssertionError();
        }

        void dawn(Dawn d) {
            d.held = held(laws, d.faces);
            dawns.add(d);
        }

        Dawn drawn() {
            Dawn d = new Dawn();
            d.before = x;
            d.faces = new int[laws.size()];
            for (int i = 0; i < laws.size(); i++) {
                d.faces[i] = roll(i);
            }
            boolean[] did = new boolean[laws.size()];
            while (d.again < 3 && pending(laws, d.faces, did) >= 0) {
                int i = pending(laws, d.faces, did);
                int k = aim(laws, i, d.faces[i]);
                did[i] = true;
                did[k] = false;
                d.faces[k] = roll(k);
                d.again++;
            }
            return d;
        }

        static int digits(int[] faces) {
            return Integer.parseInt(text(faces), 6);
        }

        static String text(int[] faces) {
            StringBuilder s = new StringBuilder();
            for (int f : faces) {
                s.append(f);
            }
            return s.toString();
        }

        int acts() {
            int n = 0;
            for (Dawn d : dawns) {
                n += d.acts.size();
            }
            return n;
        }

        boolean did(int day, int person, int deed) {
            return dawns.get(day).acts.stream().anyMatch(a -> a[0] == person && a[1] == deed);
        }

        void image() {
            keptLaws = deep(laws);
            keptWeights = deep(weights);
            keptDawns = copies(dawns);
            keptX = x;
        }

        void back() {
            laws = deep(keptLaws);
            weights = deep(keptWeights);
            dawns = copies(keptDawns);
            x = keptX;
        }

        static List<Dawn> copies(List<Dawn> all) {
            List<Dawn> other = new ArrayList<>();
            for (Dawn d : all) {
                other.add(d.copy());
            }
            return other;
        }

        // WAIT and VALUE
        BigInteger[] wait(int deed, int days, int gain, int cost) {
            BigInteger left = BigInteger.TEN.pow(9);
            BigInteger can = BigInteger.ZERO;
            BigInteger worth = BigInteger.ZERO;
            BigInteger ways = BigInteger.valueOf(lawfulWays(deed));
            for (int i = 0; i < days; i++) {
                BigInteger p = left.multiply(ways).divide(BigInteger.valueOf(total()));
                can = can.add(p);
                worth = worth.add(p.multiply(BigInteger.valueOf(gain - cost * i)));
                left = left.subtract(p);
            }
            worth = worth.add(left.multiply(BigInteger.valueOf(-cost * days)));
            return new BigInteger[] {can, worth.divide(BigInteger.TEN.pow(6))};
        }
    }

    private static final String DEEDS = "abcdef";
    private final Random random;
    private final Model m = new Model();
    private final DiceLaw x = new DiceLaw();
    private final int most;
    private final int throwing;
    private final int deeds;
    private final boolean loaded;
    private final int callsAhead = Due.calls();

    /** Every 30th run has many LAWS with many t, and DICE that fall on three FACES at most, so that it ends soon. */
    private ModelTest(long seed) {
        random = new Random(seed);
        loaded = seed % 30 == 7;
        most = loaded ? 4 + random.nextInt(2) : 1 + random.nextInt(seed % 40 == 0 ? 5 : seed % 5 == 0 ? 4 : 3);
        throwing = loaded ? 6 + random.nextInt(9) : 1 + random.nextInt(4);
        deeds = loaded ? 1 : 1 + random.nextInt(6);
    }

    private int clause() {
        switch (random.nextInt(6 + throwing)) {
            case 0:
                return 0;
            case 1:
            case 2:
                return 10 + random.nextInt(deeds);
            case 3:
                return 20 + random.nextInt(deeds);
            case 4:
                return 30 + random.nextInt(deeds);
            case 5:
                return 60;
            default:
                return (random.nextInt(3) == 0 ? 50 : 40) + random.nextInt(5);
        }
    }

    private static String told(int clause) {
        switch (clause / 10) {
            case 0:
                return ".";
            case 1:
                return "m" + DEEDS.charAt(clause % 10);
            case 2:
                return "n" + DEEDS.charAt(clause % 10);
            case 3:
                return "o" + DEEDS.charAt(clause % 10);
            case 4:
                return "t" + clause % 10;
            case 5:
                return "c" + clause % 10;
            default:
                return "y";
        }
    }

    private int[] weights() {
        int[] w = new int[6];
        if (loaded) {
            for (int i = 0; i < 3; i++) {
                w[random.nextInt(6)] += 4;
            }
            return w;
        }
        for (int i = 0; i < 12; i++) {
            w[random.nextInt(random.nextBoolean() ? 6 : 3)]++;
        }
        return w;
    }

    private void law() {
        int[] law = new int[6];
        StringBuilder text = new StringBuilder();
        for (int i = 0; i < 6; i++) {
            law[i] = clause();
            text.append(i > 0 ? "," : "").append(told(law[i]));
        }
        Due.type(x, text.toString());
        boolean taken = m.dawns.isEmpty() && m.laws.size() < 5;
        Due.is("P5 text(0)", x.text(0), taken ? m.laws.size() : -1);
        if (taken) {
            m.laws.add(law);
            m.weights.add(new int[] {2, 2, 2, 2, 2, 2});
            if (loaded) {
                weigh(m.laws.size() - 1);
            }
        }
    }

    private void weigh(int law) {
        int[] w = weights();
        Due.is("P7 weigh", x.weigh(law, w[0], w[1], w[2], w[3], w[4], w[5]), true);
        m.weights.set(law, w);
    }

    private int callsLeft() {
        return 500 - (Due.calls() - callsAhead);
    }

    /** First changes for the most part, then what is asked, then all of the DIARY, as far as 512 calls go. */
    private void steps() {
        for (int i = 0; i < most; i++) {
            law();
        }
        int changes = random.nextInt(120);
        for (int i = 0; i < changes && callsLeft() > 250; i++) {
            step(random.nextInt(random.nextInt(4) == 0 ? 28 : 19));
        }
        while (callsLeft() > 200) {
            step(12 + random.nextInt(16));
        }
        everything();
    }

    private int anyLaw() {
        return random.nextInt(m.laws.size());
    }

    private void step(int what) {
        int law = anyLaw();
        int face = random.nextInt(6);
        int deed = random.nextInt(6);
        int days = m.dawns.size();
        switch (what) {
            case 0:
                if (m.laws.size() < most) {
                    law();
                }
                break;
            case 1:
                weigh(law);
                break;
            case 2: {
                long v = random.nextLong();
                x.seed(v);
                m.x = v;
                break;
            }
            case 3:
            case 4:
            case 5:
            case 6:
                dawn();
                break;
            case 7:
            case 8:
                tell();
                break;
            case 9:
                Due.is("P12 undo", x.undo(), days - 1);
                if (days > 0) {
                    m.x = m.dawns.remove(days - 1).before;
                }
                break;
            case 10: {
                int c = clause();
                Due.is("P29 amend", x.amend(law, face, c), true);
                m.laws.get(law)[face] = c;
                break;
            }
            case 11: {
                int[] w = weights();
                Due.is("P26 suspect", x.suspect(w[0], w[1], w[2], w[3], w[4], w[5]), true);
                m.asked = w;
                break;
            }
            case 12:
            case 13:
            case 14:
            case 15:
            case 16:
                act();
                break;
            case 17:
                if (random.nextInt(3) == 0) {
                    Due.is("P43 image", x.image(), days);
                    m.image();
                }
                break;
            case 18:
                if (random.nextInt(2) == 0) {
                    Due.is("P44 back", x.back(), m.keptX == 0 && m.keptDawns == null ? -1 : m.keptDawns.size());
                    if (m.keptDawns != null) {
                        m.back();
                    }
                }
                break;
            case 19:
                odds(deed);
                break;
            case 20:
                more(law, face, deed);
                break;
            case 21:
                amendments(law, face, deed);
                break;
            case 22:
                if (m.laws.size() < 4 || loaded || random.nextInt(10) == 0) {
                    help(deed);
                }
                break;
            case 23:
                given(deed);
                break;
            case 24:
                likeliest();
                break;
            case 25:
                follow(deed);
                break;
            case 26:
                named(law);
                break;
            default:
                diary();
                break;
        }
    }

    private void dawn() {
        int days = m.dawns.size();
        Due.is("P10 dawn", x.dawn(), days == 40 ? -1 : days + 1);
        if (days < 40) {
            m.dawn(m.drawn());
        }
    }

    private void tell() {
        int days = m.dawns.size();
        Dawn d = new Dawn();
        d.before = m.x;
        d.faces = new int[m.laws.size()];
        for (int i = 0; i < d.faces.length; i++) {
            d.faces[i] = random.nextInt(6);
        }
        Due.is("P11 told", x.told(Model.digits(d.faces)), days == 40 ? -1 : days + 1);
        if (days < 40) {
            m.dawn(d);
        }
    }

    private void act() {
        int person = random.nextInt(6);
        int deed = random.nextInt(6);
        int day = random.nextInt(m.dawns.size() + 1);
        boolean can = day < m.dawns.size() && !m.did(day, person, deed) && m.acts() < 60;
        Due.is("P24 act", x.act(person, deed, day), can ? m.acts() + 1 : -1);
        if (can) {
            m.dawns.get(day).acts.add(new int[] {person, deed});
        }
    }

    private void odds(int deed) {
        for (int part = 0; part < 2; part++) {
            Due.is("P16 lawful", x.odds(deed, 0, part), Model.part(m.lawfulWays(deed), m.total(), part));
            long must = m.met(m.laws, m.weights, h -> Model.must(h, deed));
            Due.is("P16 must", x.odds(deed, 1, part), Model.part(must, m.total(), part));
            long forbidden = m.met(m.laws, m.weights, h -> Model.by(h, 20 + deed) > 0);
            Due.is("P16 forbidden", x.odds(deed, 2, part), Model.part(forbidden, m.total(), part));
        }
        int days = 1 + random.nextInt(60);
        int gain = random.nextInt(1000);
        int cost = random.nextInt(100);
        BigInteger[] wait = m.wait(deed, days, gain, cost);
        Due.is("P22 waits", x.waits(deed, days), wait[0].longValueExact());
        Due.is("P23 value", x.value(deed, days, gain, cost), wait[1].longValueExact());
    }

    private void more(int law, int face, int deed) {
        int other = (deed + 1 + random.nextInt(5)) % 6;
        long both = m.met(m.laws, m.weights, h -> Model.lawful(h, deed) && Model.lawful(h, other));
        long one = m.lawfulWays(deed);
        long two = m.lawfulWays(other);
        boolean apart = BigInteger.valueOf(both).multiply(BigInteger.valueOf(m.total()))
                .equals(BigInteger.valueOf(one).multiply(BigInteger.valueOf(two)));
        Due.is("P36 apart", x.apart(deed, other), apart ? 1 : 0);
        long free = m.met(m.laws, m.weights, h -> {
            for (int c : h) {
                if (c / 10 == 2) {
                    return false;
                }
            }
            return true;
        });
        int c = clause() % 40;
        int asked = c % 10 > 5 ? 0 : c < 10 ? 0 : c;
        long holds = m.met(m.laws, m.weights, h -> h[law] == asked);
        long[] again = new long[4];
        m.tryAll(m.laws, m.weights, 0, new int[m.laws.size()], 1, (f, n, ways) -> again[n] += ways);
        for (int part = 0; part < 2; part++) {
            Due.is("P17 both", x.both(deed, other, part), Model.part(both, m.total(), part));
            Due.is("P18 free", x.free(part), Model.part(free, m.total(), part));
            Due.is("P19 holds", x.holds(law, asked, part), Model.part(holds, m.total(), part));
            for (int i = 0; i < 4; i++) {
                Due.is("P20 again", x.again(i, part), Model.part(again[i], m.total(), part));
            }
            Due.is("P37 mean", x.mean(part),
                    Model.part(again[1] + 2 * again[2] + 3 * again[3], m.total(), part));
        }
        int sure = 0;
        int never = 0;
        for (int d = 0; d < 6; d++) {
            long ways = m.lawfulWays(d);
            sure |= ways == m.total() ? 1 << d : 0;
            never |= ways == 0 ? 1 << d : 0;
        }
        Due.is("P21 sure", x.sure(0), sure);
        Due.is("P21 never", x.sure(1), never);
    }

    private void amendments(int law, int face, int deed) {
        int c = clause();
        long before = m.lawfulWays(deed);
        Due.is("P30 amended", x.amended(law, face, c, deed),
                m.met(m.with(law, face, c), m.weights, h -> Model.lawful(h, deed)) - before);
        int to = (face + 1 + random.nextInt(5)) % 6;
        long want = -1000000000;
        if (m.weights.get(law)[face] > 0) {
            List<int[]> other = Model.deep(m.weights);
            other.get(law)[face]--;
            other.get(law)[to]++;
            want = m.met(m.laws, other, h -> Model.lawful(h, deed)) - before;
        }
        Due.is("P38 change", x.change(law, face, to, deed), want);
    }

    private void help(int deed) {
        long best = Long.MIN_VALUE;
        int which = -1;
        for (int law = 0; law < m.laws.size(); law++) {
            for (int face = 0; face < 6; face++) {
                for (int c : new int[] {0, 10 + deed, 20 + deed, 30 + deed}) {
                    long ways = m.met(m.with(law, face, c), m.weights, h -> Model.lawful(h, deed));
                    if (ways > best) {
                        best = ways;
                        which = 1000 * law + 100 * face + c;
                    }
                }
            }
        }
        Due.is("P31 help", x.help(deed, 0), which);
        Due.is("P31 help by", x.help(deed, 1), best - m.lawfulWays(deed));
    }

    private void given(int deed) {
        int n = m.laws.size();
        long[] all = new long[6 * n];
        long[] good = new long[6 * n];
        m.tryAll(m.laws, m.weights, 0, new int[n], 1, (faces, again, ways) -> {
            boolean lawful = Model.lawful(m.held(m.laws, faces), deed);
            for (int i = 0; i < n; i++) {
                all[6 * i + faces[i]] += ways;
                good[6 * i + faces[i]] += lawful ? ways : 0;
            }
        });
        int harm = -1;
        for (int i = 0; i < 6 * n; i++) {
            for (int part = 0; part < 2; part++) {
                Due.is("P33 given", x.given(i / 6, i % 6, deed, part),
                        all[i] == 0 ? -1 : Model.part(good[i], all[i], part));
            }
            if (all[i] > 0 && (harm < 0 || BigInteger.valueOf(good[i]).multiply(BigInteger.valueOf(all[harm]))
                    .compareTo(BigInteger.valueOf(good[harm]).multiply(BigInteger.valueOf(all[i]))) < 0)) {
                harm = i;
            }
        }
        Due.is("P34 harm", x.harm(deed), harm);
    }

    private void likeliest() {
        long[] ways = new long[7776];
        m.tryAll(m.laws, m.weights, 0, new int[m.laws.size()], 1, (f, n, w) -> ways[Model.digits(f)] += w);
        int best = 0;
        for (int i = 0; i < 7776; i++) {
            best = ways[i] > ways[best] ? i : best;
        }
        Due.is("P35 likeliest", x.likeliest(0), best);
        Due.is("P35 ways", x.likeliest(1), ways[best]);
    }

    // one RULE that tells all its letters: done when its day, w, and counts fit a number
    private void follow(int deed) {
        int a = random.nextInt(4);
        int b = random.nextInt(3);
        String text = "y:l=1&w>" + a + "?1;y:d=1|n>m?" + b + ";y:t/3*3=t?m+1-n";
        int rule = Due.rule(x, text);
        if (rule < 0) {
            return;
        }
        int last = -1;
        int done = 0;
        int unlawful = 0;
        int left = 0;
        for (int t = 0; t < m.dawns.size(); t++) {
            int[] h = m.dawns.get(t).held;
            int w = last < 0 ? t : t - last;
            boolean l = Model.lawful(h, deed);
            boolean d = Model.must(h, deed);
            int worth;
            if (l && w > a) {
                worth = 1;
            } else if (d || Model.by(h, 20 + deed) > Model.by(h, 10 + deed)) {
                worth = b;
            } else {
                worth = t % 3 == 0 ? Model.by(h, 10 + deed) + 1 - Model.by(h, 20 + deed) : 0;
            }
            if (worth > 0) {
                done++;
                last = t;
                unlawful += l ? 0 : 1;
            } else {
                left += d ? 1 : 0;
            }
        }
        Due.is("P32 done", x.follow(rule, deed, 0), done);
        Due.is("P32 not lawful", x.follow(rule, deed, 1), unlawful);
        Due.is("P32 left", x.follow(rule, deed, 2), left);
    }

    private void named(int law) {
        int doubt = 1 + random.nextInt(random.nextBoolean() ? 10 : 1000);
        int enough = -1;
        for (int n = 1; n <= 16; n++) {
            long want = -1;
            if (n <= 15 && n <= m.dawns.size()) {
                BigInteger p = BigInteger.ONE;
                BigInteger even = BigInteger.valueOf(doubt);
                for (int i = m.dawns.size() - n; i < m.dawns.size(); i++) {
                    p = p.multiply(BigInteger.valueOf(m.asked[m.dawns.get(i).faces[law]]));
                    even = even.multiply(BigInteger.TWO);
                }
                want = p.compareTo(even) >= 0 ? 1 : 0;
                enough = enough < 0 && want == 1 ? n : enough;
            }
            Due.is("P27 named", x.named(law, n, doubt), want);
        }
        Due.is("P28 enough", x.enough(law, doubt), enough);
    }

    private void diary() {
        for (int i = 0; i < 3; i++) {
            int deed = random.nextInt(6);
            int row = 0;
            int longest = 0;
            int first = -1;
            for (int t = 0; t < m.dawns.size(); t++) {
                row = Model.lawful(m.dawns.get(t).held, deed) ? row + 1 : 0;
                if (row > longest) {
                    longest = row;
                    first = t - row + 1;
                }
            }
            Due.is("P39 run", x.run(deed, 0), longest);
            Due.is("P39 run from", x.run(deed, 1), first);
        }
        int peace = 0;
        int first = -1;
        int busiest = -1;
        int most = -1;
        for (int t = 0; t < m.dawns.size(); t++) {
            int[] h = m.dawns.get(t).held;
            int forbids = 0;
            int musts = 0;
            for (int c = 0; c < 6; c++) {
                forbids += Model.by(h, 20 + c);
                musts += Model.must(h, c) ? 1 : 0;
            }
            if (forbids == 0) {
                peace++;
                first = first < 0 ? t : first;
            }
            if (musts > most) {
                most = musts;
                busiest = t;
            }
        }
        Due.is("P40 peace", x.peace(0), peace);
        Due.is("P40 peace from", x.peace(1), first);
        Due.is("P42 busiest", x.busiest(), busiest);
        suits();
    }

    private void suits() {
        for (int p = 0; p < 6; p++) {
            int person = p;
            int idle = 0;
            List<Integer> suit = new ArrayList<>();
            for (int t = 0; t < m.dawns.size(); t++) {
                idle += m.dawns.get(t).acts.stream().noneMatch(a -> a[0] == person) ? 1 : 0;
                for (int d = 0; d < 6; d++) {
                    if (m.did(t, p, d) && !Model.lawful(m.dawns.get(t).held, d)) {
                        suit.add(12 * t + 2 * d);
                    }
                    if (!m.did(t, p, d) && Model.must(m.dawns.get(t).held, d)) {
                        suit.add(12 * t + 2 * d + 1);
                    }
                }
            }
            Due.is("P41 idle", x.idle(p), idle);
            Due.is("P25 suits", x.suit(p, -1), suit.size());
            Due.is("P25 behind", x.suit(p, suit.size()), -1);
            if (!suit.isEmpty()) {
                int i = random.nextInt(suit.size());
                Due.is("P25 suit", x.suit(p, i), suit.get(i));
            }
        }
    }

    private void everything() {
        Due.is("P45 laws", x.count(0), m.laws.size());
        Due.is("P45 dawns", x.count(3), m.dawns.size());
        Due.is("P45 deeds", x.count(4), m.acts());
        List<Runnable> checks = new ArrayList<>();
        for (int i = 0; i < m.laws.size(); i++) {
            law(i, checks);
        }
        for (int t = 0; t < m.dawns.size(); t++) {
            day(t, checks);
        }
        Collections.shuffle(checks, random);
        for (int i = 0; i < checks.size() && callsLeft() > 0; i++) {
            checks.get(i).run();
        }
    }

    private void law(int i, List<Runnable> checks) {
        for (int face = 0; face < 6; face++) {
            int f = face;
            checks.add(() -> Due.is("P6 clause", x.clause(i, f), m.laws.get(i)[f]));
            checks.add(() -> Due.is("P8 weight", x.weight(i, f), m.weights.get(i)[f]));
        }
    }

    private void day(int t, List<Runnable> checks) {
        Dawn d = m.dawns.get(t);
        checks.add(() -> Due.is("P13 faces", x.day(t, 0), Model.digits(d.faces)));
        checks.add(() -> Due.is("P13 again", x.day(t, 1), d.again));
        for (int law = 0; law < m.laws.size(); law++) {
            int i = law;
            checks.add(() -> Due.is("P14 held", x.held(i, t), d.held[i]));
        }
        for (int each = 0; each < 6; each++) {
            int deed = each;
            checks.add(() -> Due.is("P15 lawful", x.deed(deed, t, 0), Model.lawful(d.held, deed) ? 1 : 0));
            checks.add(() -> Due.is("P15 must", x.deed(deed, t, 1), Model.must(d.held, deed) ? 1 : 0));
            for (int k = 1; k <= 3; k++) {
                int clause = 10 * k + deed;
                int what = k + 1;
                checks.add(() -> Due.is("P15 by", x.deed(deed, t, what), Model.by(d.held, clause)));
            }
        }
    }

    /** Five LAWS of which each FACE has another DIE thrown again, but one. */
    private static void fullest() {
        ModelTest test = new ModelTest(0);
        for (int law = 0; law < 5; law++) {
            int[] clauses = {40, 41, 42, 43, 44, 10 + 10 * (law % 2)};
            int other = clauses[5 - law];
            clauses[5 - law] = clauses[5];
            clauses[5] = other;
            StringBuilder text = new StringBuilder();
            for (int i = 0; i < 6; i++) {
                text.append(i > 0 ? "," : "").append(told(clauses[i]));
            }
            Due.type(test.x, text.toString());
            Due.is("P5 text(0)", test.x.text(0), law);
            test.m.laws.add(clauses);
            test.m.weights.add(new int[] {2, 2, 2, 2, 2, 2});
        }
        test.odds(0);
        test.given(0);
        test.likeliest();
    }

    public static void main(String[] args) {
        fullest();
        int runs = args.length > 0 ? Integer.parseInt(args[0]) : 1500;
        for (int seed = 1; seed <= runs; seed++) {
            new ModelTest(seed).steps();
        }
        Due.close("ModelTest");
    }
}

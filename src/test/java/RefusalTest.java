import java.util.ArrayList;
import java.util.List;
import java.util.Random;

/**
 * What is refused changes nothing, and no arguments make a call throw but clause(): calls with numbers from the edges
 * in all states. Each object is made anew by the calls that were not refused, as 512 calls are its end.
 */
public final class RefusalTest {
    private static final int[] EDGES = {-1, 0, 1, 2, 3, 4, 5, 6, 7, 9, 10, 12, 15, 16, 20, 25, 26, 30, 35, 36, 40, 44,
        45, 50, 54, 59, 60, 61, 99, 100, 120, 121, 999, 1000, 1001, 7775, 7776, -2, Integer.MAX_VALUE,
        Integer.MIN_VALUE};

    private final Random random;

    private RefusalTest(long seed) {
        random = new Random(seed);
    }

    private int any() {
        return random.nextInt(20) == 0 ? random.nextInt() : EDGES[random.nextInt(EDGES.length)];
    }

    private int low() {
        return random.nextInt(5) == 0 ? any() : random.nextInt(6);
    }

    private static String told(DiceLaw x) {
        StringBuilder s = new StringBuilder();
        for (int what = 0; what < 5; what++) {
            s.append(x.count(what)).append(' ');
        }
        s.append(x.fault(0)).append(' ').append(x.fault(1)).append('/');
        int laws = x.count(0);
        int days = x.count(3);
        for (int law = 0; law < laws; law++) {
            for (int face = 0; face < 6; face++) {
                s.append(x.clause(law, face)).append(':').append(x.weight(law, face)).append(' ');
            }
            for (int dawns = 1; dawns < 4; dawns++) {
                s.append(x.named(law, dawns, 1)).append(x.named(law, dawns, 3));
            }
        }
        for (int day = 0; day < days; day++) {
            s.append(x.day(day, 0)).append(',').append(x.day(day, 1)).append(' ');
            for (int law = 0; law < laws; law++) {
                s.append(x.held(law, day)).append(' ');
            }
        }
        for (int i = 0; i < 6; i++) {
            s.append(x.suit(i, -1)).append('+').append(x.idle(i)).append(' ');
            s.append(x.follow(i, 0, 0)).append(' ').append(x.odds(i, 0, 0)).append(' ');
        }
        // where the draws stand: the next DAWN tells, and is undone
        if (x.dawn() > 0) {
            s.append(x.day(x.count(3) - 1, 0));
            x.undo();
        }
        return s.toString();
    }

    private Edge.Call changing() {
        int a = any();
        int b = any();
        int low = low();
        int law = low();
        int face = low();
        int last = random.nextInt();
        int seldom = random.nextInt(4);
        switch (random.nextInt(13)) {
            case 0:
                return x -> x.feed(a, b << 8, a << 16, last, 0) == -1 ? 0 : 1;
            case 1:
                return x -> x.end(a) ? 1 : 0;
            case 2:
                return x -> x.text(low) == -1 ? 0 : 1;
            case 3:
                return x -> x.weigh(law, a, b, low, face, 2, 2) ? 1 : 0;
            case 4:
                return x -> x.dawn() == -1 ? 0 : 1;
            case 5:
                return x -> x.told(a) == -1 ? 0 : 1;
            case 6:
                return x -> seldom > 0 || x.undo() == -1 ? 0 : 1;
            case 7:
                return x -> x.act(low, law, face) == -1 ? 0 : 1;
            case 8:
                return x -> x.suspect(a, b, low, face, 2, 2) ? 1 : 0;
            case 9:
                return x -> x.amend(law, face, a) ? 1 : 0;
            case 10:
                return x -> seldom == 0 && x.back() != -1 ? 1 : 0;
            case 11:
                return x -> seldom == 0 && x.image() >= 0 ? 1 : 0;
            default:
                return x -> 0;
        }
    }

    private long asking(DiceLaw x) {
        switch (random.nextInt(30)) {
            case 0:
                return x.odds(low(), low(), low());
            case 1:
                return x.both(low(), low(), low());
            case 2:
                return x.free(low());
            case 3:
                return x.holds(low(), any(), low());
            case 4:
                return x.again(low(), low());
            case 5:
                return x.sure(low());
            case 6:
                return x.waits(low(), any());
            case 7:
                return x.value(low(), any(), any(), any());
            case 8:
                return x.suit(low(), any());
            case 9:
                return x.named(low(), any(), any());
            case 10:
                return x.enough(low(), any());
            case 11:
                return x.amended(low(), low(), any(), low());
            case 12:
                return x.help(low(), low());
            case 13:
                return x.follow(low(), low(), low());
            case 14:
                return x.given(low(), low(), low(), low());
            case 15:
                return x.harm(low());
            case 16:
                return x.likeliest(low());
            case 17:
                return x.apart(low(), low());
            case 18:
                return x.mean(low());
            case 19:
                return x.change(low(), low(), low(), low());
            case 20:
                return x.run(low(), low());
            case 21:
                return x.peace(low());
            case 22:
                return x.idle(low());
            case 23:
                return x.busiest();
            case 24:
                return x.count(any());
            case 25:
                return x.deed(low(), low(), low());
            case 26:
                return x.held(low(), low());
            case 27:
                return x.day(low(), low());
            case 28:
                return x.weight(low(), any());
            default:
                return x.fault(low());
        }
    }

    private static DiceLaw made(String[] laws, List<Edge.Call> done) {
        DiceLaw x = Due.with(laws);
        Due.rule(x, "y:l=1&w>1?1;y:d");
        for (Edge.Call call : done) {
            call.on(x);
        }
        return x;
    }

    private void run() {
        String[] some = {"ma,na,oa,t1,t0,y", "c0,nb,ob,y,t4,c2", "na,mc,t0,t1,t2,.", "c4,c3,y,ma,ma,oc",
            "t0,t1,t2,t3,t4,."};
        String[] laws = new String[random.nextInt(6)];
        for (int i = 0; i < laws.length; i++) {
            laws[i] = some[random.nextInt(some.length)];
        }
        List<Edge.Call> done = new ArrayList<>();
        for (int i = 0; i < 40; i++) {
            DiceLaw x = made(laws, done);
            asking(x);
            Edge.Call call = changing();
            if (call.on(x) != 0) {
                done.add(call);
            } else {
                asking(x);
                Due.is("a refused call changes nothing", told(x).equals(told(made(laws, done))), true);
            }
        }
    }

    public static void main(String[] args) {
        int runs = args.length > 0 ? Integer.parseInt(args[0]) : 250;
        for (int seed = 1; seed <= runs; seed++) {
            new RefusalTest(seed).run();
        }
        Due.close("RefusalTest");
    }
}

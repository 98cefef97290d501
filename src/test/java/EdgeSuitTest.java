/** Edges of DEEDS done, of SUITS, of NAMED DICE, of what the DIARY tells: P24 to P28, P39 to P42. */
public final class EdgeSuitTest {
    private static final String SIX = ".,.,.,.,.,.";
    private static final String LAW = "ma,na,oa,.,nb,ob";

    private static DiceLaw told(DiceLaw x, int... days) {
        for (int faces : days) {
            x.told(faces);
        }
        return x;
    }

    private static DiceLaw days(int many, int faces, String... laws) {
        DiceLaw x = Due.with(laws);
        for (int day = 0; day < many; day++) {
            x.told(faces);
        }
        return x;
    }

    private static DiceLaw acted(int many) {
        DiceLaw x = days(2, 0, SIX);
        for (int i = 0; i < many; i++) {
            x.act(i % 6, i / 6 % 6, i / 36);
        }
        return x;
    }

    private static void acts() {
        Edge.of("P24", "A PERSON did a DEED on a day: how many there are.");
        DiceLaw all = days(2, 0, SIX);
        for (int i = 0; i < 60; i++) {
            Edge.is("DEED " + i, all.act(i % 6, i / 6 % 6, i / 36), i + 1);
        }
        Edge.is("on the first of 40 days", days(40, 0, SIX).act(0, 0, 0), 1);
        Edge.is("on the last of 40 days", days(40, 0, SIX).act(5, 5, 39), 1);
        Edge.of("P24", "PERSONS 0 .. 5 do DEEDS on days");
        Edge.is("the first PERSON", acted(0).act(0, 5, 1), 1);
        Edge.is("the last PERSON", acted(0).act(5, 0, 1), 1);
        Edge.refused("none ahead of the first", () -> acted(1), -1, x -> x.act(-1, 0, 0));
        Edge.refused("none behind the last", () -> acted(1), -1, x -> x.act(6, 0, 0));
        Edge.of("P24", "(places in the DIARY): each once at most a day; 60 at most.");
        for (int person = 0; person < 6; person++) {
            for (int deed = 0; deed < 6; deed++) {
                int p = person;
                int d = deed;
                DiceLaw x = days(2, 0, SIX);
                Edge.is("once", x.act(p, d, 0), 1);
                Edge.is("not twice", x.act(p, d, 0), -1);
                Edge.is("on another day", x.act(p, d, 1), 2);
                Edge.is("another one", x.act((p + 1) % 6, d, 0), 3);
                Edge.is("another DEED", x.act(p, (d + 1) % 6, 0), 4);
                Edge.is("not twice all the same", x.act(p, d, 1), -1);
            }
        }
        Edge.of("P24", "NONE: no such ones, it did, there are 60.");
        Edge.is("the 60th", acted(59).act(5, 5, 1), 60);
        Edge.refused("the 61st", () -> acted(60), -1, x -> x.act(5, 5, 1));
        Edge.refused("the 61st of a full one", States.FULL, -1, x -> x.act(1, 0, 0));
        Edge.refused("one that it did", () -> acted(1), -1, x -> x.act(0, 0, 0));
        Edge.refused("one that it did last", () -> acted(59), -1, x -> x.act(58 % 6, 58 / 6 % 6, 1));
        Edge.refused("a day behind the latest", () -> acted(1), -1, x -> x.act(0, 1, 2));
        DiceLaw full = acted(60);
        full.undo();
        Edge.is("fewer when a DAWN is undone", full.count(4), 36);
        full.told(0);
        Edge.is("what was undone can be done", full.act(0, 0, 1), 37);
    }

    private static void suits() {
        Edge.of("P25", "SUIT: BREACHES (i NONE), the i-th.");
        String[] laws = {"oa,.,.,.,.,.", "ob,.,.,.,.,.", "oc,.,.,.,.,.", "od,.,.,.,.,.", "oe,of,.,.,.,."};
        DiceLaw x = days(40, 0, laws);
        Edge.is("five on each of 40 days", x.suit(0, -1), 200);
        Edge.is("the first", x.suit(0, 0), 1);
        Edge.is("the fifth", x.suit(0, 4), 9);
        Edge.is("the sixth is on the next day", x.suit(0, 5), 13);
        Edge.is("the last", x.suit(0, 199), 12 * 39 + 2 * 4 + 1);
        Edge.is("none behind it", x.suit(0, 200), -1);
        DiceLaw none = Due.with(laws);
        Edge.is("none without DAWNS", none.suit(5, -1), 0);
        Edge.is("no first without DAWNS", none.suit(5, 0), -1);
        none.told(7775);
        Edge.is("none where nothing is due", none.suit(5, -1), 0);
        Edge.is("no first where nothing is due", none.suit(5, 0), -1);
        DiceLaw undone = days(2, 0, laws);
        undone.undo();
        Edge.is("five when the second day is undone", undone.suit(0, -1), 5);
        Edge.is("none of the second day", undone.suit(0, 5), -1);
        undone.undo();
        Edge.is("none when all days are undone", undone.suit(0, -1), 0);
        Edge.of("P25", "BREACHES, by days, then DEEDS (how many; the i-th: 12 times the day and 2 times the DEED and "
                + "0 for one it did, 1 for one it left).");
        DiceLaw y = told(Due.with("na,.,.,.,.,of", "nf,.,.,.,.,oa"), 0, 35, 7);
        y.act(2, 5, 0);
        y.act(2, 0, 0);
        y.act(2, 0, 1);
        y.act(2, 5, 2);
        int[] due = {0, 10, 12 + 10 + 1};
        Edge.is("how many", y.suit(2, -1), 3);
        for (int i = 0; i < 3; i++) {
            Edge.is("breach " + i, y.suit(2, i), due[i]);
        }
        Edge.is("of another PERSON", y.suit(1, -1), 2);
        Edge.is("its first", y.suit(1, 0), 13);
        Edge.is("its second", y.suit(1, 1), 23);
        y.act(1, 0, 1);
        y.act(1, 5, 1);
        Edge.is("none any more", y.suit(1, -1), 0);
        eachSuit();
        Edge.of("P25", "its DEEDS that were not LAWFUL that day, and days on which a DEED MUST be done and it did not");
        DiceLaw z = told(Due.with("na,na,na,.,.,.", "ma,oa,.,.,.,.", "ma,oa,.,.,.,oa"), 0, 7, 8, 3 * 36 + 5, 5);
        for (int day = 0; day < 3; day++) {
            z.act(0, 0, day);
        }
        Edge.is("three", z.suit(0, -1), 3);
        Edge.is("none where it was ALLOWED by more, but where it was FORBIDDEN and DUE", z.suit(0, 0), 12);
        Edge.is("where it was FORBIDDEN and DUE by one", z.suit(0, 1), 24);
        Edge.is("one it left, but none that was DUE and not LAWFUL", z.suit(0, 2), 37);
    }

    /** Each PERSON does one DEED, another each day, all of them FORBIDDEN. */
    private static void eachSuit() {
        DiceLaw x = Due.with("na,nb,nc,nd,ne,nf");
        for (int day = 0; day < 6; day++) {
            x.told(day);
            x.act(day, day, day);
            x.act((day + 1) % 6, day, day);
            x.act((day + 2) % 6, (day + 1) % 6, day);
        }
        for (int person = 0; person < 6; person++) {
            int one = 14 * person;
            int other = 14 * ((person + 5) % 6);
            Edge.is("PERSON " + person + " has two", x.suit(person, -1), 2);
            Edge.is("the first of " + person, x.suit(person, 0), Math.min(one, other));
            Edge.is("the second of " + person, x.suit(person, 1), Math.max(one, other));
        }
    }

    private static DiceLaw named(int dawns, int... weights) {
        DiceLaw x = days(dawns, 0, SIX, SIX);
        x.suspect(weights[0], weights[1], weights[2], weights[3], weights[4], weights[5]);
        return x;
    }

    private static void names() {
        Edge.of("P26", "WEIGHTS that are asked (2 each at first).");
        for (int face = 0; face < 6; face++) {
            DiceLaw x = told(Due.with(SIX), face);
            Edge.is("2 on FACE " + face, x.named(0, 1, 1), 1);
            Edge.is("no more on FACE " + face, x.named(0, 1, 2), 0);
            x.told(face);
            Edge.is("twice 2 on FACE " + face, x.named(0, 2, 1), 1);
            Edge.is("no 3 on FACE " + face, x.named(0, 2, 2), 0);
        }
        Edge.is("without LAWS, too", new DiceLaw().suspect(0, 0, 0, 0, 0, 12), true);
        Edge.of("P26", "a DIE with WEIGHTS that are asked (12 together) against even ones");
        Edge.is("12 together", new DiceLaw().suspect(1, 2, 3, 4, 2, 0), true);
        Edge.refused("11 together", () -> acted(1), 0, x -> x.suspect(1, 2, 3, 4, 1, 0) ? 1 : 0);
        Edge.refused("13 together", () -> acted(1), 0, x -> x.suspect(1, 2, 3, 4, 2, 1) ? 1 : 0);
        DiceLaw uneven = named(1, 4, 4, 1, 1, 1, 1);
        uneven.weigh(0, 4, 4, 1, 1, 1, 1);
        Edge.is("against 2 each, whatever the DIE has", uneven.named(0, 1, 2), 1);
        Edge.of("P27", "NAMED by them (1, 0).");
        int power = 1;
        for (int dawns = 1; dawns <= 15; dawns++) {
            power = Math.min(2000, power * 2);
            DiceLaw x = named(dawns, 4, 4, 1, 1, 1, 1);
            Edge.is("so much by " + dawns, x.named(0, dawns, Math.min(1000, power)), 1);
            if (power < 1000) {
                Edge.is("no more by " + dawns, x.named(0, dawns, power + 1), 0);
            }
            Edge.is("not so many: " + (dawns + 1), x.named(0, dawns + 1, 1), -1);
        }
        DiceLaw most = named(20, 12, 0, 0, 0, 0, 0);
        Edge.is("by 15 of 20, all on one", most.named(0, 15, 1000), 1);
        Edge.is("by 16 of 20", most.named(0, 16, 1), -1);
        DiceLaw never = named(15, 0, 12, 0, 0, 0, 0);
        Edge.is("by 15, none on it", never.named(0, 15, 1), 0);
        never.told(6);
        Edge.is("by the latest alone", never.named(0, 1, 6), 1);
        Edge.is("the latest two", never.named(0, 2, 1), 0);
        Edge.of("P27", "it is NAMED, if the product of those WEIGHTS is at least DOUBT (1 .. 1,000) times that of 2 "
                + "each.");
        Edge.is("as much: 3 of 2", told(named(1, 3, 9, 0, 0, 0, 0), 0).named(0, 2, 2), 1);
        Edge.is("9 of 8 is not 2 times", told(named(2, 3, 9, 0, 0, 0, 0), 0).named(0, 3, 3), 1);
        Edge.is("27 of 8", told(named(2, 3, 9, 0, 0, 0, 0), 0).named(0, 3, 4), 0);
        Edge.is("even is as much as even", named(15, 2, 2, 2, 2, 2, 2).named(0, 15, 1), 1);
        Edge.is("1 of 2 is less", named(1, 1, 3, 2, 2, 2, 2).named(0, 1, 1), 0);
        // 8 times 125 is 1,000: twelve, ten and ten against two each
        DiceLaw exact = told(named(0, 10, 2, 0, 0, 0, 0), 0, 0, 0, 7);
        Edge.is("125 of 1", exact.named(0, 4, 125), 1);
        Edge.is("126 of 1", exact.named(0, 4, 126), 0);
        DiceLaw thousand = named(4, 12, 0, 0, 0, 0, 0);
        Edge.is("1,000 at most, 1296 are", thousand.named(0, 4, 1000), 1);
        Edge.is("216 are less than 1,000", thousand.named(0, 3, 1000), 0);
        Edge.of("P27", "of FACES of the latest so many DAWNS (1 .. 15; as they lay in the end)");
        DiceLaw again = Due.with(".,.,.,.,.,t0");
        again.suspect(12, 0, 0, 0, 0, 0);
        again.dawn();
        Edge.is("it fell on 5 first and lay on 0 in the end", again.named(0, 1, 6), 1);
    }

    private static void enough() {
        Edge.of("P28", "ENOUGH.");
        Edge.is("one", named(15, 12, 0, 0, 0, 0, 0).enough(0, 6), 1);
        Edge.is("two", named(15, 12, 0, 0, 0, 0, 0).enough(0, 7), 2);
        Edge.is("one of one", named(1, 12, 0, 0, 0, 0, 0).enough(0, 6), 1);
        Edge.of("P28", "the least number of latest DAWNS by which it is.");
        DiceLaw x = told(named(0, 12, 0, 0, 0, 0, 0), 0, 0, 6);
        Edge.is("not by one, nor by more", x.enough(0, 1), -1);
        DiceLaw y = told(named(0, 8, 1, 3, 0, 0, 0), 0, 6, 12, 0);
        Edge.is("by the latest", y.enough(0, 4), 1);
        Edge.is("by two of which the earlier helps", y.enough(0, 5), 2);
        Edge.is("by four, not by three", y.enough(0, 7), 4);
        Edge.is("by none", y.enough(0, 13), -1);
        Edge.of("P28", "NONE: none to 15, no such ones.");
        DiceLaw z = named(40, 3, 9, 0, 0, 0, 0);
        Edge.is("the 15th", z.enough(0, 437), 15);
        Edge.is("it would be the 16th", z.enough(0, 438), -1);
        Edge.is("the 14th", z.enough(0, 291), 14);
        Edge.is("the 15th again", z.enough(0, 292), 15);
        Edge.is("fewer than 15 there are", named(14, 3, 9, 0, 0, 0, 0).enough(0, 437), -1);
        Edge.is("none there are", named(0, 12, 0, 0, 0, 0, 0).enough(0, 1), -1);
    }

    private static void runs() {
        Edge.of("P39", "RUN: how long (0), its first day (1; NONE: none).");
        DiceLaw none = Due.with(LAW);
        Edge.is("no DAWNS: none", none.run(0, 0), 0);
        Edge.is("no DAWNS: no first", none.run(0, 1), -1);
        DiceLaw never = days(40, 1, LAW);
        Edge.is("never LAWFUL: none", never.run(0, 0), 0);
        Edge.is("never LAWFUL: no first", never.run(0, 1), -1);
        DiceLaw always = days(40, 0, LAW);
        Edge.is("on all of 40 days", always.run(0, 0), 40);
        Edge.is("from the first", always.run(0, 1), 0);
        Edge.of("P39", "the longest row of days one behind the other on which it was LAWFUL; its first day (of "
                + "several the first).");
        DiceLaw rows = told(Due.with(LAW), 1, 0, 0, 1, 0, 0, 1, 0);
        Edge.is("two", rows.run(0, 0), 2);
        Edge.is("of several the first", rows.run(0, 1), 1);
        told(rows, 0);
        Edge.is("as long at the end: the first", rows.run(0, 1), 1);
        told(rows, 0);
        Edge.is("three at the end", rows.run(0, 0), 3);
        Edge.is("from there", rows.run(0, 1), 7);
        DiceLaw last = told(days(39, 1, LAW), 0);
        Edge.is("the last day alone", last.run(0, 0) * 100 + last.run(0, 1), 139);
        DiceLaw first = told(Due.with(LAW), 0, 1, 1);
        Edge.is("the first day alone", first.run(0, 0) * 100 + first.run(0, 1), 100);
    }

    private static void peaces() {
        Edge.of("P40", "PEACE: how many (0), the first (1; NONE: none).");
        DiceLaw none = Due.with(LAW);
        Edge.is("no DAWNS: none", none.peace(0), 0);
        Edge.is("no DAWNS: no first", none.peace(1), -1);
        DiceLaw never = days(40, 1, LAW);
        Edge.is("none of 40", never.peace(0), 0);
        Edge.is("no first of 40", never.peace(1), -1);
        DiceLaw always = days(40, 0, LAW);
        Edge.is("all 40", always.peace(0), 40);
        Edge.is("from the first", always.peace(1), 0);
        DiceLaw last = told(days(39, 4, LAW), 3);
        Edge.is("the last alone", last.peace(0) * 100 + last.peace(1), 139);
        DiceLaw two = told(days(2, 4, LAW), 3, 1, 3);
        Edge.is("two, from the third", two.peace(0) * 100 + two.peace(1), 202);
        Edge.of("P40", "days on which no DEED was FORBIDDEN by any LAW");
        for (int deed = 0; deed < 6; deed++) {
            String not = "n" + (char) ('a' + deed) + ",.,.,.,.,.";
            DiceLaw x = told(Due.with(SIX, not), 0, 1);
            Edge.is("but for DEED " + deed, x.peace(0) * 100 + x.peace(1), 101);
        }
        DiceLaw yet = days(1, 0, "na,.,.,.,.,.", "ma,.,.,.,.,.", "ma,.,.,.,.,.");
        Edge.is("LAWFUL and yet FORBIDDEN", yet.peace(0), 0);
    }

    private static void idles() {
        Edge.of("P41", "IDLE.");
        Edge.is("the first PERSON", days(1, 0, SIX).idle(0), 1);
        Edge.is("the last PERSON", days(1, 0, SIX).idle(5), 1);
        Edge.of("P41", "IDLE of a PERSON: days on which it did nothing.");
        Edge.is("no DAWNS", new DiceLaw().idle(0), 0);
        Edge.is("all of 40", days(40, 0, SIX).idle(5), 40);
        DiceLaw x = days(2, 0, SIX);
        for (int deed = 0; deed < 6; deed++) {
            x.act(0, deed, 1);
        }
        Edge.is("all DEEDS on one of two days", x.idle(0), 1);
        Edge.is("another PERSON", x.idle(1), 2);
        x.act(0, 5, 0);
        Edge.is("none", x.idle(0), 0);
        DiceLaw each = days(6, 0, SIX);
        for (int person = 0; person < 6; person++) {
            for (int day = 0; day < person; day++) {
                each.act(person, 5 - person, day);
            }
        }
        for (int person = 0; person < 6; person++) {
            Edge.is("PERSON " + person + " on so many of 6", each.idle(person), 6 - person);
        }
        x.undo();
        x.undo();
        Edge.is("no DAWNS any more", x.idle(0), 0);
    }

    private static void busy() {
        Edge.of("P42", "NONE: no DAWNS.");
        Edge.refused("a new object", States.FRESH, -1, DiceLaw::busiest);
        Edge.refused("LAWS without DAWNS", States.TWO_LAWS, -1, DiceLaw::busiest);
        Edge.of("P42", "BUSIEST.");
        Edge.is("nothing to be done on any of 40 days: the first", days(40, 0, SIX).busiest(), 0);
        Edge.is("the last of 40", told(days(39, 0, LAW), 2).busiest(), 39);
        Edge.of("P42", "the day on which most DEEDS (each counted once) MUST be done (of several the first).");
        String[] laws = {"oa,ob,oc,od,oe,of", "oa,oa,oa,oa,oa,.", "oa,oa,oa,oa,oa,na"};
        Edge.is("DUE by three counts once", told(Due.with(laws), 0, 36).busiest(), 1);
        Edge.is("two days alike", told(Due.with(laws), 0, 36, 72, 1).busiest(), 1);
        Edge.is("DUE, but not LAWFUL", told(Due.with(laws), 5 * 6 + 5, 5, 4).busiest(), 2);
        Edge.is("the last DEED counts too", told(Due.with(laws), 5 * 6 + 5, 5 * 36).busiest(), 1);
        String[] five = {"oa,.,.,.,.,.", "ob,.,.,.,.,.", "oc,.,.,.,.,.", "oe,.,.,.,.,.", "of,.,.,.,.,."};
        DiceLaw x = told(Due.with(five), 1, 0, 0, 7775);
        Edge.is("five, and four ahead of them", x.busiest(), 1);
    }

    public static void main(String[] args) {
        acts();
        suits();
        names();
        enough();
        runs();
        peaces();
        idles();
        busy();
        Due.close("EdgeSuitTest");
    }
}

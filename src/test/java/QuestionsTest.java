/** The sentences of "Terms" 3 and 4 that name a boundary case, each with a test of its own. */
public final class QuestionsTest {
    private static final int BAD = Edges.BAD, STATE = Edges.STATE, FULL = Edges.FULL, NONE = Edges.NONE, NO = Edges.NO;

    /** Six alive, each the heir of the one behind him: 5's is 4, and so on to 0, who has none. */
    private static final String SIX_IN_LINE = "p1 9;p1 0;p1 1;p1 2;p1 3;p1 4;";

    public static void main(String[] args) throws Exception {
        Edges.run(QuestionsTest.class, args);
    }

    private static void answer(String call, long got, long due) {
        Edges.answer(call, got, due);
    }

    private static GhostRooms of(String text) {
        return Edges.of(text);
    }

    private static void fraction(GhostRooms g, int p, int x, int upper, int lower) {
        answer("odds(" + p + ", " + x + ", 0)", g.odds(p, x, 0), upper);
        answer("odds(" + p + ", " + x + ", 1)", g.odds(p, x, 1), lower);
    }

    // ---- 3: chain

    @Says(terms = 3, words = "CHAIN of a ROOM: how many HEIRS there are from the one it is LEFT to till its OWNER")
    static void chain() {
        GhostRooms g = of("p1 9;p0 0;p0 1;p0 2;p0 3;p0 4;r5;r0;r3;r1;");
        answer("room(0, 2)", g.room(0, 2), 5);
        answer("room(1, 2)", g.room(1, 2), 0);
        answer("room(2, 2)", g.room(2, 2), 3);
        answer("room(3, 2)", g.room(3, 2), 1);
        answer("one alive is no link more", of("p0 1;p1 2;p1 9;r0;").room(0, 2), 1);
    }

    @Says(terms = 3, words = "(0: himself, or it is LEFT to nobody")
    static void chainZero() {
        GhostRooms g = of("p1 0;p1 9;r0;r1;r9;");
        for (int r = 0; r < 3; r++) {
            answer("room(" + r + ", 2)", g.room(r, 2), 0);
        }
        answer("room(2, 1)", g.room(2, 1), NONE);
    }

    @Says(terms = 3, words = "NONE: it ends at nobody, or goes round)")
    static void chainNone() {
        answer("no heir", of("p0 9;r0;").room(0, 2), NONE);
        answer("no such heir", of("p0 1;r0;").room(0, 2), NONE);
        answer("no heir of the heir", of("p0 1;p0 9;p1 9;r0;").room(0, 2), NONE);
        answer("his own heir", of("p0 0;p1 9;r0;").room(0, 2), NONE);
        answer("six round", of("p0 1;p0 2;p0 3;p0 4;p0 5;p0 0;r0;").room(0, 2), NONE);
        answer("to a round", of("p0 1;p0 2;p0 2;p1 9;r0;").room(0, 2), NONE);
        GhostRooms g = of("p0 1;p1 0;r0;");
        answer("before his death", g.room(0, 2), 1);
        g.dies(1);
        answer("after his death", g.room(0, 2), NONE);
    }

    // ---- 3: from when

    @Says(terms = 3, words = "FROM WHEN on one who is not CUT OFF will be, as DAYS go by")
    static void fromWhen() {
        for (int until : new int[] {0, 1, 8, 50, 97, 98}) {
            GhostRooms g = of("p1 9;r9;r9;d0 1;b0 0;w0 1;x0 1 " + until + ";");
            answer("fromWhen(0), a right till " + until, g.fromWhen(0), until + 1);
            answer("now(0)", g.now(0), 0);
        }
        answer("two rights in a room", of("p1 9;r9;r9;d0 1;b0 0;w0 1;x0 1 8;x0 1 3;").fromWhen(0), 9);
        answer("rights in two rooms", of("p1 9;r9;r9;r9;d0 1;d1 2;b0 0;w0 2;x0 1 8;x0 2 3;").fromWhen(0), 4);
    }

    @Says(terms = 3, words = "THE DAY (NOW: he is)")
    static void fromWhenNow() {
        GhostRooms g = of("p1 9;r9;r9;d0 1;b0 0;w0 1;x0 1 3;");
        Edges.days(g, 3);
        answer("fromWhen(0) on day 3", g.fromWhen(0), 4);
        g.day();
        answer("fromWhen(0) on day 4", g.fromWhen(0), 4);
        g.day();
        answer("fromWhen(0) on day 5", g.fromWhen(0), 5);
        Edges.days(g, 94);
        answer("fromWhen(0) on day 99", g.fromWhen(0), 99);
        answer("fromWhen(0) on day 0", of("p1 9;r9;w0 0;").fromWhen(0), 0);
    }

    @Says(terms = 3, words = "NONE: by DAY 99 never")
    static void fromWhenNever() {
        GhostRooms g = of("p1 9;p1 9;r9;r9;d0 1;b0 0;w0 1;x0 1 99;");
        answer("fromWhen(0), a right till 99", g.fromWhen(0), NONE);
        answer("fromWhen(1), wanting nothing", g.fromWhen(1), NONE);
        Edges.days(g, 99);
        answer("fromWhen(0) on day 99", g.fromWhen(0), NONE);
        answer("one's own", of("p1 9;r0;b0 0;w0 0;").fromWhen(0), NONE);
    }

    @Says(terms = 3, words = "dead ones: NONE")
    static void fromWhenDead() {
        GhostRooms g = of("p0 9;p1 9;r9;w0 0;w1 0;");
        answer("fromWhen(0)", g.fromWhen(0), NONE);
        answer("fromWhen(1)", g.fromWhen(1), 0);
        g.dies(1);
        answer("fromWhen(1), dead then", g.fromWhen(1), NONE);
    }

    // ---- 3: needs

    @Says(terms = 3, words = "NEEDS of one who is ALIVE: the fewest ROOMS")
    static void needsFewest() {
        String two = "p1 9;r9;r9;r9;r9;r9;d0 1;d1 2;d2 4;d0 3;d3 4;b0 0;w0 4;";
        answer("two, though they are no less", of(two).needs(0), 24);
        answer("not cut off", of("p1 9;r0;b0 0;w0 0;").needs(0), 0);
        answer("wanting nothing, without a bed", of("p1 9;r9;").needs(0), 0);
        GhostRooms line = of("p1 9;" + "r9;".repeat(7) + "d0 1;d1 2;d2 3;d3 4;d4 5;d5 6;b0 0;w0 6;");
        answer("all but the bed", line.needs(0), 126);
        line.grants(0, 3, 0);
        answer("but for a right", line.needs(0), 118);
        line.day();
        answer("a past right is none", line.needs(0), 126);
        answer("now(3)", line.now(3), 1);
    }

    @Says(terms = 3, words = "(bits; of as few the least) in which he wants a RIGHT")
    static void needsLeast() {
        answer("by 1 or 2", of("p1 9;r9;r9;r9;r9;d0 1;d0 2;d1 3;d2 3;b0 0;w0 3;").needs(0), 10);
        answer("by 5 or 6", of("p1 9;" + "r9;".repeat(7) + "d0 5;d0 6;d5 1;d6 1;b0 0;w0 1;").needs(0), 34);
    }

    @Says(terms = 3, words = "so that he is not CUT OFF; NONE")
    static void needsNone() {
        answer("no bed", of("p1 9;r9;w0 0;").needs(0), NONE);
        answer("no door", of("p1 9;r9;r9;b0 0;w0 1;").needs(0), NONE);
        answer("one of two", of("p1 9;r9;r9;r9;d0 1;b0 0;w0 1;w0 2;").needs(0), NONE);
    }

    // ---- 3: opens

    @Says(terms = 3, words = "OPENS: who (ALIVE, unlike him; bits)")
    static void opensWho() {
        String rooms = "d0 1;d0 2;d0 3;d0 4;d0 5;d1 6;d2 6;d3 6;d4 6;d5 6;";
        GhostRooms first = of("p1 9;p1 0;p1 0;p1 0;p1 0;p1 0;r9;r1;r2;r3;r4;r5;r0;" + rooms + "b0 0;w0 6;");
        answer("opens(0): each other one", first.opens(0), 62);
        GhostRooms last = of("p1 5;p1 5;p1 5;p1 5;p1 5;p1 9;r9;r0;r1;r2;r3;r4;r5;" + rooms + "b5 0;w5 6;");
        answer("opens(5): each other one", last.opens(5), 31);
        last.dies(2);
        answer("opens(5), not cut off then", last.opens(5), 0);
        answer("a dead one is none", of("p1 9;p0 9;p1 0;r9;r2;d0 1;b0 0;w0 1;").opens(0), 4);
        answer("nobody else", of("p1 9;r9;w0 0;").opens(0), 0);
    }

    @Says(terms = 3, words = "by whose death, alone, one who is CUT OFF would not be")
    static void opensAlone() {
        GhostRooms g = of("p1 9;p1 2;p1 0;r9;r1;d0 1;b0 0;w0 1;");
        answer("opens(0), two must die", g.opens(0), 0);
        g.dies(1);
        answer("opens(0), one must die", g.opens(0), 4);
        answer("now(1)", g.now(1), 5);
    }

    @Says(terms = 3, words = "0, if he is not CUT OFF")
    static void opensNotCutOff() {
        GhostRooms g = of("p1 9;p1 0;r0;r1;d0 1;b0 0;w0 0;");
        answer("opens(0)", g.opens(0), 0);
        answer("opens(1), wanting nothing", g.opens(1), 0);
    }

    // ---- 3: exchange

    @Says(terms = 3, words = "EXCHANGE: the two ROOMS (10 times the lesser and the other one)")
    static void exchangeTwo() {
        answer("0 and 1", of("p1 9;p1 9;r1;r0;d0 1;b0 1;w0 0;").exchange(), 1);
        answer("5 and 6", of("p1 9;p1 9;r9;r9;r9;r9;r9;r0;r1;d0 6;b0 0;w0 6;").exchange(), 56);
        answer("0 and 6", of("p1 9;p1 9;r1;r9;r9;r9;r9;r9;r0;d0 3;b0 3;w0 0;").exchange(), 6);
    }

    @Says(terms = 3, words = "by whose being EXCHANGED fewest are CUT OFF")
    static void exchangeFewest() {
        GhostRooms g = of("p1 9;p1 9;r9;r9;r0;r0;r1;d0 4;d0 3;b0 0;b1 0;w0 4;w1 3;");
        answer("now(2)", g.now(2), 3);
        answer("exchange(), not the first that helps one", g.exchange(), 34);
        answer("room(3, 0)", g.room(3, 0), 0);
        answer("room(4, 0)", g.room(4, 0), 1);
        answer("the last one is cut off yet", of("p1 9;".repeat(6) + "r9;r9;r0;d0 1;b0 0;w0 1;w5 0;").exchange(), 12);
    }

    @Says(terms = 3, words = "of several the first")
    static void exchangeFirst() {
        answer("1 and 2, or 3", of("p1 9;r9;r9;r0;r0;d0 1;b0 0;w0 1;").exchange(), 12);
        answer("1 and 2, or 3, one less by either",
            of("p1 9;".repeat(6) + "r9;r9;r0;r5;d0 1;b0 0;b5 0;w0 1;w5 1;").exchange(), 12);
        answer("2 and 6, or 3 and 6", of("p1 9;r9;r9;r0;r0;r9;r9;r9;d0 6;b0 0;w0 6;").exchange(), 26);
    }

    @Says(terms = 3, words = "if fewer are than NOW; NONE")
    static void exchangeNone() {
        answer("as many", of("p1 9;p1 9;r9;r0;r1;d0 1;b0 0;b1 0;w0 1;w1 1;").exchange(), NONE);
        answer("none is cut off", of("p1 9;r0;r9;b0 0;w0 0;").exchange(), NONE);
        answer("no rooms", of("p1 9;").exchange(), NONE);
        answer("one room", of("p1 9;r9;w0 0;").exchange(), NONE);
        answer("nobody", of("r9;r9;").exchange(), NONE);
        answer("nobody alive", of("p0 9;r0;r9;d0 1;b0 0;w0 1;").exchange(), NONE);
    }

    // ---- 3: holds out

    @Says(terms = 3, words = "HOLDS OUT: ROOMS (bits) by which more are CUT OFF than NOW")
    static void holdsOutMore() {
        answer("0 and 6", of("p1 9;" + "r9;".repeat(7) + "d1 0;d1 6;b0 1;w0 0;w0 6;x0 0 0;x0 6 0;").holdsOut(), 65);
        GhostRooms g = of("p1 9;p1 9;r9;r9;r9;d0 1;d0 2;b0 0;b1 0;w0 1;w0 2;w1 1;x0 1 5;x1 1 5;");
        answer("one is cut off now, by the other it is more", g.holdsOut(), 2);
        g.dies(1);
        answer("cut off now already", g.holdsOut(), 0);
        answer("no rights", of("p1 9;r0;b0 0;w0 0;").holdsOut(), 0);
        answer("nobody", of("r9;").holdsOut(), 0);
        answer("a dead one's", of("p0 9;r9;r9;d0 1;b0 0;w0 1;x0 1 9;").holdsOut(), 0);
    }

    @Says(terms = 3, words = "if (in that one alone) no RIGHT holds")
    static void holdsOutAlone() {
        String ways = "p1 9;r9;r9;r9;r0;d0 1;d0 2;d1 3;d2 3;b0 0;w0 3;x0 1 9;x0 2 9;";
        GhostRooms g = of(ways);
        answer("either will do", g.holdsOut(), 0);
        answer("all in that one", of("p1 9;r9;r9;d0 1;b0 0;w0 1;x0 1 9;x0 1 8;x0 1 9;").holdsOut(), 2);
        answer("one's own, and a right", of("p1 9;r9;r0;d0 1;b0 0;w0 1;x0 1 9;").holdsOut(), 0);
        answer("a right till 99", of("p1 9;r9;r9;d0 1;b0 0;w0 1;x0 1 99;").holdsOut(), 2);
        answer("one's bed, and a right", of("p1 9;r9;b0 0;w0 0;x0 0 9;").holdsOut(), 0);
        answer("the rights stay", g.now(3), 2);
        answer("they hold", g.person(0, 6), 15);
    }

    // ---- 3: dinner

    @Says(terms = 3, words = "DINNER from a ROOM to another one: the fewest DOORS")
    static void dinnerFewest() {
        GhostRooms line = of("p1 9;" + "r0;".repeat(7) + "d0 1;d1 2;d2 3;d3 4;d4 5;d5 6;");
        for (int a = 0; a < 7; a++) {
            for (int b = 0; b < 7; b++) {
                answer("dinner(" + a + ", " + b + ") in a line", line.dinner(a, b), Math.abs(a - b));
            }
        }
        GhostRooms ring = of("p1 9;" + "r0;".repeat(7) + "d0 1;d1 2;d2 3;d3 4;d4 5;d5 6;d6 0;");
        answer("dinner(0, 3) in a ring", ring.dinner(0, 3), 3);
        answer("dinner(0, 4) in a ring", ring.dinner(0, 4), 3);
        answer("dinner(6, 0) in a ring", ring.dinner(6, 0), 1);
    }

    @Says(terms = 3, words = "through ROOMS (both ends too) in each of which some one who is ALIVE MAY be; NONE")
    static void dinnerNone() {
        GhostRooms g = of("p1 9;p1 9;p0 9;r0;r1;r9;r0;r2;d0 1;d1 2;d2 3;d3 4;b2 4;x2 4 9;");
        answer("from one's to another's", g.dinner(0, 1), 1);
        answer("to nobody's", g.dinner(1, 2), NONE);
        answer("from nobody's", g.dinner(2, 1), NONE);
        answer("nobody's to itself", g.dinner(2, 2), NONE);
        answer("through nobody's", g.dinner(1, 3), NONE);
        answer("to a dead one's", g.dinner(3, 4), NONE);
        g.grants(1, 2, 0);
        answer("through a right", g.dinner(0, 3), 3);
        answer("from a right", g.dinner(2, 3), 1);
        g.day();
        answer("through a past one", g.dinner(0, 3), NONE);
        g.wills(2, 0);
        answer("to a dead one's with an heir", g.dinner(3, 4), 1);
        answer("no door", of("p1 9;r0;r0;").dinner(0, 1), NONE);
        GhostRooms first = of("p1 9;r9;r0;d0 1;");
        answer("from nobody's, the first room", first.dinner(0, 1), NONE);
        answer("to nobody's, the first room", first.dinner(1, 0), NONE);
        answer("nobody's, the first room, to itself", first.dinner(0, 0), NONE);
    }

    // ---- 3: seen and said

    @Says(terms = 3, words = "SEEN (5 at most)")
    static void fiveSeen() {
        GhostRooms g = of("p1 9;p0 9;r1;r0;");
        for (int count = 1; count <= 4; count++) {
            answer("seen(0, 1, 1)", g.seen(0, 1, 1), count);
        }
        answer("seen(0, 0, 1), the fifth", g.seen(0, 0, 1), 5);
        answer("seen(0, 1, 0), the sixth", g.seen(0, 1, 0), FULL);
        answer("said(1): the fifth counts, the sixth does not", g.said(1), 1);
        answer("count(2)", g.count(2), 5);
        answer("forget()", g.forget(), 5);
        answer("seen(0, 1, 0) then", g.seen(0, 1, 0), 1);
        answer("said(1)", g.said(1), 0);
    }

    @Says(terms = 3, words = "a PERSON MAY be, or MAY not be, in a ROOM NOW")
    static void mayOrMayNot() {
        GhostRooms g = of("p1 9;p0 9;r0;r9;");
        g.seen(0, 0, 1);
        g.seen(0, 1, 0);
        g.seen(1, 0, 0);
        answer("said(1), all so", g.said(1), 127);
        g.seen(1, 1, 1);
        answer("said(1), a dead one may not", g.said(1), 0);
    }

    @Says(terms = 3, words = "SAID: HEIRS (bits 0 .. 5; 64: none) of a PERSON")
    static void saidBits() {
        answer("nothing was seen", of("p1 9;").said(0), 127);
        for (int heir = 0; heir < 6; heir++) {
            // All live but one, to whom the room is left; the last lot has him be his own heir.
            int dead = heir == 5 ? 0 : 5;
            StringBuilder text = new StringBuilder();
            for (int p = 0; p < 6; p++) {
                text.append(p == dead ? "p0 9;" : "p1 9;");
            }
            GhostRooms g = of(text + "r" + dead + ";");
            g.seen(heir, 0, 1);
            answer("said(" + dead + ") by " + heir, g.said(dead), 1 << heir);
            g.forget();
            g.seen(heir, 0, 0);
            answer("said(" + dead + ") not by " + heir, g.said(dead), 127 - (1 << heir));
        }
        GhostRooms two = of("p0 9;p1 9;r0;");
        two.seen(1, 0, 0);
        answer("himself, such as there is not, none", two.said(0), 125);
        answer("said(1) of one alive", two.said(1), 127);
    }

    @Says(terms = 3, words = "by which all that was SEEN is so, all else as it is")
    static void saidAll() {
        GhostRooms g = of("p0 9;p0 9;p1 9;p1 9;r0;r1;r9;");
        g.seen(2, 0, 1);
        g.seen(3, 1, 1);
        answer("said(0), the other's heir stays none", g.said(0), 0);
        g.wills(1, 3);
        answer("said(0)", g.said(0), 4);
        answer("said(1), his stays none", g.said(1), 0);
        g.wills(0, 2);
        answer("said(1)", g.said(1), 8);
        g.seen(2, 2, 1);
        answer("said(1), what no will tells", g.said(1), 0);
        g.grants(2, 2, 0);
        answer("said(1), by a right", g.said(1), 8);
        g.day();
        answer("said(1), a past right", g.said(1), 0);
        answer("person(1, 1)", g.person(1, 1), 3);
        answer("count(2)", g.count(2), 3);
    }

    // ---- 3: deaths

    @Says(terms = 3, words = "LAST: how many ROOMS one who is ALIVE would OWN, if all others were dead")
    static void last() {
        GhostRooms g = of(SIX_IN_LINE + "r0;r1;r2;r3;r4;r5;r5;");
        for (int p = 0; p < 6; p++) {
            answer("last(" + p + ")", g.last(p), 7 - p);
        }
        answer("now(1)", g.now(1), 63);
        answer("nothing", of("p1 9;p1 9;p1 1;r1;r2;r9;").last(0), 0);
        answer("no rooms", of("p1 9;").last(0), 0);
        answer("a bed and a right", of("p1 9;r9;r9;b0 0;x0 1 9;").last(0), 0);
        answer("alone already", of("p1 9;p0 0;r0;r1;r9;").last(0), 2);
        answer("no heir through a round", of("p1 9;p1 2;p1 1;r1;r2;r0;").last(0), 1);
    }

    @Says(terms = 3, words = "ODDS by p (0 .. 10) of one who is ALIVE")
    static void oddsByNoneAndAll() {
        GhostRooms g = of("p1 9;p1 0;r9;r1;b0 0;d0 1;w0 1;b1 1;w1 1;");
        fraction(g, 0, 0, 0, 1);
        fraction(g, 0, 1, 1, 10);
        fraction(g, 0, 9, 9, 10);
        fraction(g, 0, 10, 1, 1);
        fraction(g, 1, 0, 1, 1);
        fraction(g, 1, 10, 1, 1);
        answer("odds(0, 11, 0)", g.odds(0, 11, 0), BAD);
        answer("odds(0, -1, 0)", g.odds(0, -1, 0), BAD);
    }

    @Says(terms = 3, words = "each other one who is dies by p of 10, for himself")
    static void oddsEachForHimself() {
        GhostRooms both = of("p1 9;p1 0;p0 0;p1 0;r9;r1;r2;r3;b0 0;d0 1;d1 2;d2 3;w0 3;");
        fraction(both, 0, 3, 9, 100);
        both.dies(3);
        fraction(both, 0, 3, 3, 10);
        both.dies(1);
        fraction(both, 0, 3, 1, 1);
        GhostRooms either = of("p1 9;p1 0;p1 0;r9;r1;r2;r0;b0 0;d0 1;d0 2;d1 3;d2 3;w0 3;");
        fraction(either, 0, 3, 51, 100);
        fraction(either, 0, 5, 3, 4);
        GhostRooms six = of("p1 9;p1 0;p1 1;p1 2;p1 3;p1 4;r9;r5;b0 0;d0 1;w0 1;");
        fraction(six, 0, 9, 59049, 100000);
        fraction(six, 0, 1, 1, 100000);
        GhostRooms alone = of("p1 9;p0 9;r9;w0 0;");
        fraction(alone, 0, 7, 0, 1);
    }

    @Says(terms = 3, words = "that he is not CUT OFF: a fraction")
    static void oddsThatHeIsNotCutOff() {
        GhostRooms g = of("p1 9;p1 0;p1 9;r1;r9;b0 1;d0 1;w0 0;b2 0;w2 1;x2 1 0;");
        fraction(g, 0, 4, 2, 5);
        fraction(g, 1, 4, 1, 1);
        fraction(g, 2, 4, 1, 1);
        g.day();
        fraction(g, 2, 4, 0, 1);
        fraction(g, 0, 5, 1, 2);
        GhostRooms lost = of("p1 9;p1 9;p0 1;r2;r9;b1 1;d0 1;w1 0;b0 1;w0 0;");
        fraction(lost, 1, 6, 1, 1);
        fraction(lost, 0, 6, 0, 1);
    }

    @Says(terms = 3, words = "WAITS of one for a ROOM: the fewest (bits; ALIVE, unlike him; of as few the least)")
    static void waitsFewest() {
        GhostRooms g = of(SIX_IN_LINE + "r5;r0;r2;");
        answer("waits(0, 0): all others", g.waits(0, 0), 62);
        answer("waits(5, 0): it is his", g.waits(5, 0), 0);
        answer("waits(4, 0)", g.waits(4, 0), 32);
        answer("waits(0, 1)", g.waits(0, 1), 0);
        answer("waits(1, 2)", g.waits(1, 2), 4);
        g.dies(3);
        answer("waits(0, 0), but for a dead one", g.waits(0, 0), 54);
        answer("now(1)", g.now(1), 55);
        answer("waits(5, 0): all others", of("p1 1;p1 2;p1 3;p1 4;p1 5;p1 9;r0;").waits(5, 0), 31);
    }

    @Says(terms = 3, words = "who must be dead so that he OWNS it; NONE")
    static void waitsNone() {
        GhostRooms g = of("p1 9;p1 2;p1 1;p1 5;r1;r9;r3;");
        answer("a round", g.waits(0, 0), NONE);
        answer("in the round", g.waits(2, 0), 2);
        answer("nobody's", g.waits(0, 1), NONE);
        answer("no such heir", g.waits(0, 2), NONE);
        answer("alone", of("p1 9;r9;").waits(0, 0), NONE);
        answer("a bed is not owned", of("p1 9;r9;b0 0;x0 0 9;").waits(0, 0), NONE);
    }

    // ---- 4: kinds

    @Says(terms = 4, words = "0 ROOM; 1 HALL, 2 STAIR, 5 BATH (each under ROOM); 3 ATTIC (under HALL); 4 CELLAR (under STAIR)")
    static void kinds() {
        GhostRooms g = of("p1 9;p1 9;r9;r9;r9;r9;d3 0;d3 1;d3 2;b0 3;x1 3 9;");
        g.day();
        int[] due = {3, 5, 2, 10, 5, 4};
        for (int kind = 0; kind < 6; kind++) {
            answer("rate(" + kind + ", 3)", g.rate(kind, 3), due[kind]);
        }
        answer("rate(6, 3)", g.rate(6, 3), NO);
        answer("rate(-1, 3)", g.rate(-1, 3), NO);
    }

    @Says(terms = 4, words = "added to THE TRACE, 0 at first, as often as rate() asks that body: each once")
    static void eachBodyOnce() {
        int[] due = {1, 11, 101, 1011, 10101, 100001};
        for (int kind = 0; kind < 6; kind++) {
            GhostRooms g = of("p1 9;r0;");
            answer("trace() at first", g.trace(), 0);
            g.rate(kind, 0);
            answer("trace() after kind " + kind, g.trace(), due[kind]);
            g.rate(kind, 0);
            answer("trace() after kind " + kind + " twice", g.trace(), 2L * due[kind]);
        }
    }

    @Says(terms = 4, words = "ROOM how many DOORS it has (1)")
    static void roomKind() {
        GhostRooms g = of("r9;".repeat(7) + "d0 1;d0 2;d0 3;d0 4;d0 5;d6 0;d0 6;");
        answer("rate(0, 0)", g.rate(0, 0), 6);
        answer("rate(0, 6)", g.rate(0, 6), 1);
        answer("rate(0, 0) of none", of("r9;").rate(0, 0), 0);
    }

    @Says(terms = 4, words = "HALL up, and how many MAY be in it (10)")
    static void hallKind() {
        GhostRooms g = of("p1 9;".repeat(6) + "r0;b1 0;b2 0;b3 0;b4 0;x5 0 0;x0 0 0;x0 0 9;");
        answer("rate(1, 0) of all", g.rate(1, 0), 6);
        g.day();
        answer("rate(1, 0), a right is past", g.rate(1, 0), 5);
        g.dies(4);
        answer("rate(1, 0), one is dead", g.rate(1, 0), 4);
        answer("rate(1, 0) of nobody", of("r9;").rate(1, 0), 0);
    }

    @Says(terms = 4, words = "STAIR up less how many RIGHTS there are in it, past ones too (100)")
    static void stairKind() {
        GhostRooms g = of("p1 9;p0 9;r9;r9;d0 1;" + "x0 0 0;".repeat(8) + "x1 0 9;x0 1 9;");
        answer("rate(2, 0), alike ones and dead ones' too", g.rate(2, 0), -8);
        answer("rate(2, 1)", g.rate(2, 1), 0);
        g.day();
        answer("rate(2, 0), past ones too", g.rate(2, 0), -8);
        answer("rate(2, 0) of ten", of("p1 9;r9;" + "x0 0 0;".repeat(10)).rate(2, 0), -10);
    }

    @Says(terms = 4, words = "ATTIC twice up (1000)")
    static void atticKind() {
        answer("rate(3, 0)", of("p1 9;p1 9;r0;r9;d0 1;b1 0;").rate(3, 0), 6);
        answer("rate(3, 0) of nothing", of("r9;").rate(3, 0), 0);
    }

    @Says(terms = 4, words = "CELLAR up, and its number (10000)")
    static void cellarKind() {
        GhostRooms g = of("p1 9;" + "r9;".repeat(7) + "x0 0 1;d6 5;");
        answer("rate(4, 0)", g.rate(4, 0), -1);
        answer("rate(4, 6)", g.rate(4, 6), 7);
        answer("rate(4, 1)", g.rate(4, 1), 1);
    }

    @Says(terms = 4, words = "BATH up, and THE DAY (100000)")
    static void bathKind() {
        GhostRooms g = of("r9;r9;d0 1;");
        answer("rate(5, 0) on day 0", g.rate(5, 0), 1);
        Edges.days(g, 99);
        answer("rate(5, 0) on day 99", g.rate(5, 0), 100);
        g.undo();
        answer("rate(5, 0) on day 98", g.rate(5, 0), 99);
    }

    // ---- 4: images

    @Says(terms = 4, words = "IMAGES 0, 1 keep NOW (THE DAY, who is ALIVE, HEIRS, what ROOMS are LEFT to, RIGHTS)")
    static void imagesKeep() {
        GhostRooms g = of("p1 9;p1 9;r0;r9;x0 1 5;");
        g.keep(0);
        g.day();
        g.dies(1);
        g.wills(0, 5);
        g.exchanges(0, 1);
        g.grants(1, 0, 7);
        g.keep(1);
        g.wills(1, 0);
        g.back(0);
        // A right that an image does not have may be told anew in its place.
        g.grants(0, 1, 3);
        image(g, 1, new int[] {1, 1, 5, 9, 0, 2, 7});
        image(g, 0, new int[] {0, 3, 9, 0, 9, 1, BAD});
        image(g, 1, new int[] {1, 1, 5, 9, 0, 2, 7});
        answer("person(1, 1)", g.person(1, 1), 9);
        answer("right(0, 2)", g.right(0, 2), 5);
        answer("right(1, 0)", g.right(1, 0), 1);
        answer("right(1, 1)", g.right(1, 1), 0);
    }

    private static void image(GhostRooms g, int image, int[] due) {
        answer("back(" + image + ")", g.back(image), due[0]);
        int[] got = {g.now(0), g.now(1), g.person(0, 1), g.room(0, 0), g.room(1, 0), g.now(3), g.right(1, 2)};
        for (int n = 0; n < due.length; n++) {
            answer("what image " + image + " has at " + n, got[n], due[n]);
        }
    }

    @Says(terms = 4, words = "nothing else (nothing can be UNDONE behind back())")
    static void imagesKeepNothingElse() {
        GhostRooms g = of("p1 9;p1 9;r0;r9;");
        g.day();
        g.seen(0, 0, 1);
        g.keep(0);
        answer("keep() leaves what may be undone", g.now(4), 1);
        g.seen(0, 1, 1);
        g.type('p');
        g.rate(0, 0);
        g.dies(1);
        answer("back(0)", g.back(0), 1);
        answer("now(4)", g.now(4), 0);
        answer("undo()", g.undo(), STATE);
        answer("what was seen stays", g.count(2), 2);
        answer("the text stays", g.count(3), 1);
        answer("the trace stays", g.trace(), 1);
        g.dies(0);
        answer("a deed behind it: now(4)", g.now(4), 1);
        answer("undo() of that one", g.undo(), 0);
        answer("now(1)", g.now(1), 3);
        answer("undo()", g.undo(), STATE);
    }

    @Says(terms = 4, words = "(Read anew: as told, DAY 0, nothing SEEN, IMAGES are gone.)")
    static void readAnew() {
        GhostRooms g = new GhostRooms();
        // More than once: nothing of any earlier house may come again.
        for (int time = 0; time < 3; time++) {
            readAnewAfterMuch(g);
        }
        answer("keep(1)", g.keep(1), 0);
        answer("back(0), of an earlier house alone", g.back(0), STATE);
        answer("house() of no text again", g.house(), 0);
        answer("count(0)", g.count(0), 0);
        answer("count(1)", g.count(1), 0);
        answer("back(1)", g.back(1), STATE);
        answer("person(0, 0)", g.person(0, 0), BAD);
        answer("room(0, 0)", g.room(0, 0), BAD);
    }

    private static void readAnewAfterMuch(GhostRooms g) {
        answer("house() of much", Edges.tell(g, "p0 1;p1 0;r1;r1;d0 1;b0 0;b1 1;w1 0;x1 0 9;x0 1 9;"), 10);
        g.seen(1, 1, 0);
        g.day();
        g.keep(0);
        g.keep(1);
        answer("house()", Edges.tell(g, "p1 9;p0 9;r0;r9;"), 4);
        answer("now(0)", g.now(0), 0);
        answer("now(1)", g.now(1), 1);
        answer("now(2)", g.now(2), 0);
        answer("now(3)", g.now(3), 0);
        answer("count(2)", g.count(2), 0);
        answer("back(0)", g.back(0), STATE);
        answer("back(1)", g.back(1), STATE);
        answer("said(0)", g.said(0), 127);
        for (int n = 0; n < 2; n++) {
            answer("person(" + n + ", 1)", g.person(n, 1), 9);
            answer("person(" + n + ", 2)", g.person(n, 2), NONE);
            answer("person(" + n + ", 3)", g.person(n, 3), 0);
            answer("room(" + n + ", 0)", g.room(n, 0), n == 0 ? 0 : 9);
            answer("room(" + n + ", 3)", g.room(n, 3), 0);
        }
        g.day();
        g.dies(0);
        g.keep(0);
        answer("house() of no text", g.house(), 0);
        answer("now(0), nobody's", g.now(0), 0);
        answer("now(1), nobody's", g.now(1), 0);
        answer("back(0), nobody's", g.back(0), STATE);
    }

    @Says(terms = 4, words = "NO = -1000000")
    static void constants() {
        answer("BAD", GhostRooms.BAD, -1);
        answer("STATE", GhostRooms.STATE, -2);
        answer("FULL", GhostRooms.FULL, -3);
        answer("NONE", GhostRooms.NONE, -9);
        answer("NO", GhostRooms.NO, -1000000);
    }

    @Says(words = "An object is used for at most 512 calls after it has been made")
    static void theLastCall() {
        GhostRooms g = new GhostRooms();
        for (int call = 1; call <= 200; call++) {
            answer("call " + call, g.type(';'), call);
        }
        for (int call = 201; call <= 299; call++) {
            answer("call " + call, g.day(), call - 200);
        }
        for (int call = 300; call <= 510; call++) {
            answer("call " + call, g.day(), STATE);
        }
        answer("call 511", g.house(), -10);
        answer("call 512", g.undo(), 9);
    }
}

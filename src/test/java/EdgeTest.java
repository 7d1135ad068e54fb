import java.util.function.IntUnaryOperator;

/** What each promise says of its edges, each with a test of its own; that a refused call changes nothing: RefusedTest. */
public final class EdgeTest {
    private static final int BAD = Edges.BAD, STATE = Edges.STATE, FULL = Edges.FULL, NONE = Edges.NONE, NO = Edges.NO;

    public static void main(String[] args) throws Exception {
        Edges.run(EdgeTest.class, args);
    }

    private static void answer(String call, long got, long due) {
        Edges.answer(call, got, due);
    }

    private static GhostRooms of(String text) {
        return Edges.of(text);
    }

    /** A call answers as is due for 0 .. end - 1, and refuses every other number. */
    private static void range(String call, int end, int refusal, IntUnaryOperator ask) {
        for (int number = 0; number < end; number++) {
            int got = ask.applyAsInt(number);
            answer(call + " of " + number + " refused", got == refusal ? 1 : 0, 0);
        }
        for (int number : Edges.outside(end)) {
            answer(call + " of " + number, ask.applyAsInt(number), refusal);
        }
    }

    private static final String SIX = "p1 9;".repeat(6), SEVEN = "r9;".repeat(7);

    @Says(promise = 1, words = "As told; nobody, no ROOMS.")
    static void aNewObject() {
        GhostRooms g = new GhostRooms();
        for (int what = 0; what < 4; what++) {
            answer("count(" + what + ")", g.count(what), 0);
        }
        for (int what = 0; what < 5; what++) {
            answer("now(" + what + ")", g.now(what), 0);
        }
        answer("person(0, 0)", g.person(0, 0), BAD);
        answer("room(0, 0)", g.room(0, 0), BAD);
        answer("right(0, 0)", g.right(0, 0), BAD);
        answer("dies(0)", g.dies(0), BAD);
        answer("grants(0, 0, 0)", g.grants(0, 0, 0), BAD);
        answer("exchanges(0, 1)", g.exchanges(0, 1), BAD);
        answer("wills(0, 9)", g.wills(0, 9), BAD);
        answer("undo()", g.undo(), STATE);
        answer("fromWhen(0)", g.fromWhen(0), BAD);
        answer("needs(0)", g.needs(0), BAD);
        answer("opens(0)", g.opens(0), BAD);
        answer("exchange()", g.exchange(), NONE);
        answer("holdsOut()", g.holdsOut(), 0);
        answer("dinner(0, 0)", g.dinner(0, 0), BAD);
        answer("seen(0, 0, 0)", g.seen(0, 0, 0), BAD);
        answer("forget()", g.forget(), 0);
        answer("said(0)", g.said(0), BAD);
        answer("last(0)", g.last(0), BAD);
        answer("waits(0, 0)", g.waits(0, 0), BAD);
        answer("odds(0, 0, 0)", g.odds(0, 0, 0), BAD);
        answer("rate(0, 0)", g.rate(0, 0), NO);
        answer("back(0)", g.back(0), STATE);
        answer("back(1)", g.back(1), STATE);
        answer("trace()", g.trace(), 0);
        answer("clear()", g.clear(), 0);
        answer("house()", g.house(), 0);
        answer("keep(0)", g.keep(0), 0);
        answer("day()", g.day(), 1);
        answer("back(0) then", g.back(0), 0);
    }

    @Says(promise = 2, words = "A letter (0 .. 255) comes to THE TEXT: how many it has.")
    static void typeLetters() {
        GhostRooms g = new GhostRooms();
        for (int letter = 56; letter < 256; letter++) {
            answer("type(" + letter + ")", g.type(letter), letter - 55);
        }
        g.clear();
        for (int letter = 0; letter < 56; letter++) {
            answer("type(" + letter + ")", g.type(letter), letter + 1);
        }
        g.clear();
        for (int letter : Edges.outside(256)) {
            answer("type(" + letter + ")", g.type(letter), BAD);
        }
        answer("count(3)", g.count(3), 0);
    }

    @Says(promise = 2, words = "BAD; FULL.")
    static void typeFull() {
        GhostRooms g = new GhostRooms();
        Edges.type(g, " ".repeat(199));
        answer("type(0), the last", g.type(0), 200);
        answer("type(0)", g.type(0), FULL);
        answer("type(256), BAD first", g.type(256), BAD);
        answer("type(-1), BAD first", g.type(-1), BAD);
        answer("house(), the last letter", g.house(), -10 - 199);
        answer("type(0), full yet", g.type(0), FULL);
        g.clear();
        answer("type(0), empty then", g.type(0), 1);
    }

    @Says(promise = 3, words = "THE TEXT is empty: how many letters it had.")
    static void clear() {
        GhostRooms g = new GhostRooms();
        answer("clear() of none", g.clear(), 0);
        Edges.type(g, "p1 9;");
        answer("clear()", g.clear(), 5);
        answer("clear() again", g.clear(), 0);
        answer("count(3)", g.count(3), 0);
        answer("house() of none", g.house(), 0);
        answer("count(0)", g.count(0), 0);
        Edges.tell(g, "p1 9;r0;");
        g.day();
        g.keep(0);
        g.seen(0, 0, 1);
        Edges.type(g, "r");
        answer("clear() of a house's next text", g.clear(), 1);
        answer("the house stays", g.room(0, 1), 0);
        answer("what was seen stays", g.count(2), 1);
        answer("what may be undone stays", g.now(4), 1);
        answer("the image stays", g.back(0), 1);
        Edges.type(g, ";".repeat(200));
        answer("clear() of all", g.clear(), 200);
        answer("house() of another text", Edges.tell(g, "r9;"), 1);
    }

    @Says(promise = 4, words = "THE TEXT tells all anew, and is empty then: how many ITEMS.")
    static void house() {
        GhostRooms g = of(SIX + SEVEN + "d0 1;x0 0 5;");
        answer("count(3)", g.count(3), 0);
        answer("house() of none", g.house(), 0);
        answer("count(0)", g.count(0), 0);
        answer("count(1)", g.count(1), 0);
        answer("now(3)", g.now(3), 0);
        Edges.items("    ", 0);
        Edges.items(SIX + SEVEN, 13);
        Edges.items("r9;r9;" + "d0 1;".repeat(38), 40);
        answer("nothing of the one before: room(0, 0)", Edges.tell(g, "d0 1;"), -11);
        answer("clear()", g.clear(), 5);
        answer("house()", Edges.tell(g, "r9;r9;"), 2);
        answer("room(0, 3)", g.room(0, 3), 0);
    }

    @Says(promise = 4, words = "-10 less FAULT: nothing changes.")
    static void houseFault() {
        GhostRooms g = of("p1 9;r0;");
        answer("house()", Edges.tell(g, "p0 9;r9;q"), -18);
        answer("house() again", g.house(), -18);
        answer("count(3)", g.count(3), 9);
        answer("count(0)", g.count(0), 1);
        answer("now(1)", g.now(1), 1);
        answer("room(0, 0)", g.room(0, 0), 0);
        g.clear();
        answer("house() of fault 0", Edges.tell(g, ";"), -10);
        g.clear();
        answer("house() of fault 200", Edges.tell(g, " ".repeat(199) + "p"), -210);
        // What a faulty text told is not there when another one is read.
        g.clear();
        Edges.tell(g, "p1 9;p1 9;r0;r1;d0 1;b0 1;w0 1;x0 0 9;?");
        g.clear();
        answer("house()", Edges.tell(g, "p1 9;r9;r9;"), 3);
        answer("count(0)", g.count(0), 1);
        answer("person(0, 2)", g.person(0, 2), NONE);
        answer("person(0, 3)", g.person(0, 3), 0);
        answer("room(0, 3)", g.room(0, 3), 0);
        answer("now(3)", g.now(3), 0);
    }

    @Says(promise = 5, words = "0 ALIVE, 1 HEIR as told (9: none), 2 BED (NONE), 3 WANTS (bits), 4 ROOMS he GOES to (bits),"
        + " 5 CUT OFF (1, 0), 6 ROOMS he MAY be in (bits).")
    static void person() {
        GhostRooms g = of("p1 5;p0 9;p1 0;" + "r0;".repeat(7) + "d0 1;d1 2;d2 3;d3 4;d4 5;d5 6;b0 6;w0 0;w0 6;b1 0;w1 1;w2 5;");
        int[][] due = {{1, 5, 6, 65, 127, 0, 127}, {0, 9, 0, 2, 0, 0, 0}, {1, 0, NONE, 32, 0, 1, 0}};
        for (int p = 0; p < 3; p++) {
            for (int what = 0; what < 7; what++) {
                answer("person(" + p + ", " + what + ")", g.person(p, what), due[p][what]);
            }
        }
    }

    @Says(promise = 5, words = "BAD.")
    static void personBad() {
        GhostRooms six = of(SIX);
        for (int what = 0; what < 7; what++) {
            int asked = what;
            range("person(p, " + what + ")", 6, BAD, p -> six.person(p, asked));
        }
        range("person(5, what)", 7, BAD, what -> six.person(5, what));
        range("person(p, 0) of one", 1, BAD, p -> of("p1 9;").person(p, 0));
    }

    @Says(promise = 6, words = "0 to whom it is LEFT (9: nobody), 1 OWNER (NONE), 2 CHAIN (NONE), 3 those it has a DOOR to"
        + " (bits), 4 who MAY be in it (bits).")
    static void room() {
        GhostRooms g = of("p0 1;p1 9;p0 9;p1 9;p1 9;p1 9;r0;r9;r2;r5;d0 3;d0 1;b5 0;x3 0 0;b4 2;");
        int[][] due = {{0, 1, 1, 10, 42}, {9, NONE, 0, 1, 0}, {2, NONE, NONE, 0, 16}, {5, 5, 0, 1, 32}};
        for (int r = 0; r < 4; r++) {
            for (int what = 0; what < 5; what++) {
                answer("room(" + r + ", " + what + ")", g.room(r, what), due[r][what]);
            }
        }
    }

    @Says(promise = 6, words = "BAD.")
    static void roomBad() {
        GhostRooms seven = of("p1 9;" + "r0;".repeat(7));
        for (int what = 0; what < 5; what++) {
            int asked = what;
            range("room(r, " + what + ")", 7, BAD, r -> seven.room(r, asked));
        }
        range("room(6, what)", 5, BAD, what -> seven.room(6, what));
        range("room(r, 0) of one", 1, BAD, r -> of("r9;").room(r, 0));
    }

    @Says(promise = 7, words = "0 the PERSON, 1 the ROOM, 2 the DAY. BAD.")
    static void right() {
        GhostRooms ten = of("p1 9;".repeat(6) + SEVEN + "x0 0 0;x5 6 99;" + "x1 2 3;".repeat(8));
        int[][] due = {{0, 0, 0}, {5, 6, 99}, {1, 2, 3}};
        for (int what = 0; what < 3; what++) {
            int asked = what;
            answer("right(0, " + what + ")", ten.right(0, what), due[0][what]);
            answer("right(1, " + what + ")", ten.right(1, what), due[1][what]);
            answer("right(9, " + what + ")", ten.right(9, what), due[2][what]);
            range("right(i, " + what + ")", 10, BAD, i -> ten.right(i, asked));
        }
        range("right(9, what)", 3, BAD, what -> ten.right(9, what));
        range("right(i, 0) of one", 1, BAD, i -> of("p1 9;r9;x0 0 0;").right(i, 0));
        range("right(i, 0) of none", 0, BAD, i -> of("p1 9;r9;").right(i, 0));
        ten.day();
        answer("right(0, 2), past", ten.right(0, 2), 0);
    }

    @Says(promise = 8, words = "0 THE DAY, 1 who is ALIVE (bits), 2 CUT OFF (bits), 3 RIGHTS, 4 how many may be UNDONE. BAD.")
    static void now() {
        GhostRooms g = of(SIX + "r9;w0 0;w1 0;w2 0;w3 0;w4 0;w5 0;x0 0 0;");
        int[] due = {0, 63, 63, 1, 0};
        for (int what = 0; what < 5; what++) {
            answer("now(" + what + ")", g.now(what), due[what]);
        }
        range("now", 5, BAD, g::now);
        for (int p = 0; p < 6; p++) {
            g.dies(p);
        }
        answer("now(1), nobody", g.now(1), 0);
        answer("now(2), nobody", g.now(2), 0);
        answer("now(4)", g.now(4), 6);
        g.day();
        answer("now(3), past ones too", g.now(3), 1);
    }

    @Says(promise = 9, words = "A DAY: which it is. STATE: it is DAY 99.")
    static void day() {
        GhostRooms g = new GhostRooms();
        for (int day = 1; day <= 99; day++) {
            answer("day()", g.day(), day);
        }
        answer("day() on day 99", g.day(), STATE);
        answer("day() on day 99 again", g.day(), STATE);
        answer("now(4)", g.now(4), 10);
        answer("undo()", g.undo(), 9);
        answer("day() on day 98", g.day(), 99);
        answer("day() on day 99", g.day(), STATE);
    }

    @Says(promise = 10, words = "DIES: how many are ALIVE yet. BAD; STATE: he is dead.")
    static void dies() {
        GhostRooms g = of(SIX);
        for (int p = 5; p >= 0; p--) {
            answer("dies(" + p + ")", g.dies(p), p);
            answer("dies(" + p + ") again", g.dies(p), STATE);
        }
        for (int p : Edges.outside(6)) {
            answer("dies(" + p + ")", g.dies(p), BAD);
        }
        answer("now(4)", g.now(4), 6);
        g.undo();
        answer("dies(0), alive again", g.dies(0), 0);
        answer("dies(0), told dead", of("p0 9;").dies(0), STATE);
    }

    @Says(promise = 11, words = "GRANTED: how many RIGHTS. BAD; FULL.")
    static void grants() {
        String house = SIX + SEVEN;
        range("grants(p, 0, 0)", 6, BAD, p -> of(house).grants(p, 0, 0));
        range("grants(0, r, 0)", 7, BAD, r -> of(house).grants(0, r, 0));
        range("grants(0, 0, until)", 100, BAD, until -> of(house).grants(0, 0, until));
        GhostRooms g = of(house);
        for (int count = 1; count <= 10; count++) {
            answer("grants(5, 6, 99)", g.grants(5, 6, 99), count);
        }
        answer("grants(5, 6, 99)", g.grants(5, 6, 99), FULL);
        answer("grants(6, 6, 99), BAD first", g.grants(6, 6, 99), BAD);
        answer("grants(5, 7, 99), BAD first", g.grants(5, 7, 99), BAD);
        answer("grants(5, 6, 100), BAD first", g.grants(5, 6, 100), BAD);
        answer("now(4)", g.now(4), 10);
        Edges.days(g, 1);
        answer("past ones are rights too", g.grants(5, 6, 0), FULL);
    }

    @Says(promise = 12, words = "EXCHANGED: to whom the first one is LEFT then (9). BAD (alike, too).")
    static void exchanges() {
        GhostRooms g = of("p1 9;p1 9;r0;r1;r9;r9;r9;r9;r9;");
        answer("exchanges(0, 1)", g.exchanges(0, 1), 1);
        answer("exchanges(0, 6)", g.exchanges(0, 6), 9);
        answer("exchanges(0, 6) again", g.exchanges(0, 6), 1);
        answer("exchanges(2, 3), both nobody's", g.exchanges(2, 3), 9);
        answer("exchanges(6, 1)", g.exchanges(6, 1), 0);
        for (int r = 0; r < 7; r++) {
            answer("exchanges, alike", g.exchanges(r, r), BAD);
        }
        for (int r : Edges.outside(7)) {
            answer("exchanges(" + r + ", 0)", g.exchanges(r, 0), BAD);
            answer("exchanges(0, " + r + ")", g.exchanges(0, r), BAD);
            answer("exchanges(" + r + ", " + r + ")", g.exchanges(r, r), BAD);
        }
        answer("now(4)", g.now(4), 5);
        answer("exchanges(0, 1) of one room", of("r9;").exchanges(0, 1), BAD);
    }

    @Says(promise = 13, words = "WILLED (heir 0 .. 5, 9): who was (9). BAD.")
    static void wills() {
        GhostRooms g = of("p1 3;p0 9;");
        answer("wills(0, 9)", g.wills(0, 9), 3);
        for (int heir = 0; heir <= 5; heir++) {
            answer("wills(0, " + heir + ")", g.wills(0, heir), heir == 0 ? 9 : heir - 1);
        }
        answer("wills(1, 1)", g.wills(1, 1), 9);
        for (int heir : new int[] {6, 7, 8, 10, 11, 99, 64, -1, -9, 32, Integer.MIN_VALUE, Integer.MAX_VALUE}) {
            answer("wills(0, " + heir + ")", g.wills(0, heir), BAD);
        }
        for (int p : Edges.outside(2)) {
            answer("wills(" + p + ", 0)", g.wills(p, 0), BAD);
        }
        answer("person(0, 1)", g.person(0, 1), 5);
        answer("now(4)", g.now(4), 8);
    }

    @Says(promise = 14, words = "UNDONE: how many more may be. STATE: none.")
    static void undo() {
        answer("undo() of a new one", new GhostRooms().undo(), STATE);
        GhostRooms g = of("p1 9;");
        g.dies(0);
        answer("undo()", g.undo(), 0);
        answer("undo() again", g.undo(), STATE);
        Edges.days(g, 11);
        for (int more = 9; more >= 0; more--) {
            answer("undo()", g.undo(), more);
            answer("now(4)", g.now(4), more);
        }
        answer("undo() of what is lost", g.undo(), STATE);
        answer("now(0)", g.now(0), 1);
        g.day();
        Edges.tell(g, "p1 9;");
        answer("undo() of an earlier house's", g.undo(), STATE);
    }

    @Says(promise = 15, words = "FROM WHEN; NONE. BAD.")
    static void fromWhen() {
        GhostRooms g = of("p1 9;".repeat(5) + "p0 9;r9;w0 0;w5 0;");
        answer("fromWhen(0)", g.fromWhen(0), 0);
        answer("fromWhen(4)", g.fromWhen(4), NONE);
        answer("fromWhen(5), dead", g.fromWhen(5), NONE);
        range("fromWhen", 6, BAD, g::fromWhen);
        range("fromWhen of one", 1, BAD, of("p0 9;")::fromWhen);
    }

    @Says(promise = 16, words = "NEEDS, as bits; NONE. BAD; STATE: he is dead.")
    static void needs() {
        GhostRooms g = of("p1 9;".repeat(5) + "p0 9;r9;r9;w0 0;w5 0;b1 0;b1 1;d0 1;w1 0;");
        answer("needs(0)", g.needs(0), NONE);
        answer("needs(1)", g.needs(1), 1);
        answer("needs(4)", g.needs(4), 0);
        answer("needs(5)", g.needs(5), STATE);
        range("needs", 6, BAD, g::needs);
    }

    @Says(promise = 17, words = "OPENS, as bits. BAD; STATE: he is dead.")
    static void opens() {
        GhostRooms g = of("p1 9;p1 0;p1 9;p1 9;p1 9;p0 9;r9;r1;d0 1;b0 0;w0 1;");
        answer("opens(0)", g.opens(0), 2);
        answer("opens(1)", g.opens(1), 0);
        answer("opens(5)", g.opens(5), STATE);
        range("opens", 6, BAD, g::opens);
    }

    @Says(promise = 18, words = "EXCHANGE; NONE.")
    static void exchange() {
        GhostRooms g = of("p1 9;p1 9;r1;r0;d0 1;b0 1;w0 0;");
        answer("exchange()", g.exchange(), 1);
        answer("exchange() again", g.exchange(), 1);
        answer("room(0, 0)", g.room(0, 0), 1);
        g.exchanges(0, 1);
        answer("exchange(), nobody is cut off", g.exchange(), NONE);
    }

    @Says(promise = 19, words = "HOLDS OUT, as bits.")
    static void holdsOut() {
        GhostRooms g = of("p1 9;r9;r9;d0 1;b0 0;w0 1;x0 1 0;");
        answer("holdsOut()", g.holdsOut(), 2);
        answer("holdsOut() again", g.holdsOut(), 2);
        g.day();
        answer("holdsOut(), past", g.holdsOut(), 0);
        answer("holdsOut() of nobody", of("").holdsOut(), 0);
    }

    @Says(promise = 20, words = "DINNER; NONE. BAD.")
    static void dinner() {
        GhostRooms g = of("p1 9;" + "r0;".repeat(6) + "r9;d0 1;");
        answer("dinner(0, 0)", g.dinner(0, 0), 0);
        answer("dinner(0, 1)", g.dinner(0, 1), 1);
        answer("dinner(0, 2)", g.dinner(0, 2), NONE);
        answer("dinner(6, 6)", g.dinner(6, 6), NONE);
        range("dinner(a, 0)", 7, BAD, a -> g.dinner(a, 0));
        range("dinner(0, b)", 7, BAD, b -> g.dinner(0, b));
    }

    @Says(promise = 21, words = "SEEN (may 1, 0): how much there is. BAD; FULL.")
    static void seen() {
        String house = SIX + SEVEN;
        range("seen(p, 0, 0)", 6, BAD, p -> of(house).seen(p, 0, 0));
        range("seen(0, r, 0)", 7, BAD, r -> of(house).seen(0, r, 0));
        range("seen(0, 0, may)", 2, BAD, may -> of(house).seen(0, 0, may));
        GhostRooms g = of(house);
        for (int much = 1; much <= 5; much++) {
            answer("seen(5, 6, 1)", g.seen(5, 6, 1), much);
        }
        answer("seen(5, 6, 1), the sixth", g.seen(5, 6, 1), FULL);
        answer("seen(6, 6, 1), BAD first", g.seen(6, 6, 1), BAD);
        answer("seen(5, 7, 1), BAD first", g.seen(5, 7, 1), BAD);
        answer("seen(5, 6, 2), BAD first", g.seen(5, 6, 2), BAD);
        answer("count(2)", g.count(2), 5);
    }

    @Says(promise = 22, words = "Nothing was SEEN: how much there was.")
    static void forget() {
        GhostRooms g = of("p0 9;r0;");
        answer("forget() of nothing", g.forget(), 0);
        g.seen(0, 0, 1);
        answer("said(0)", g.said(0), 0);
        answer("forget()", g.forget(), 1);
        answer("said(0)", g.said(0), 127);
        answer("forget() again", g.forget(), 0);
        for (int n = 0; n < 6; n++) {
            g.seen(0, 0, 1);
        }
        answer("forget() of all", g.forget(), 5);
        answer("count(2)", g.count(2), 0);
        answer("seen(0, 0, 0)", g.seen(0, 0, 0), 1);
        answer("said(0), of that alone", g.said(0), 127);
    }

    @Says(promise = 23, words = "SAID, as bits. BAD.")
    static void said() {
        GhostRooms g = of("p1 9;".repeat(5) + "p0 9;r5;");
        answer("said(5), nothing seen", g.said(5), 127);
        g.seen(4, 0, 1);
        answer("said(5)", g.said(5), 16);
        answer("said(0)", g.said(0), 0);
        range("said", 6, BAD, g::said);
    }

    @Says(promise = 24, words = "LAST: how many ROOMS. BAD; STATE: he is dead.")
    static void last() {
        GhostRooms g = of("p1 9;".repeat(5) + "p0 4;r5;r9;r0;");
        answer("last(4)", g.last(4), 1);
        answer("last(0)", g.last(0), 1);
        answer("last(1)", g.last(1), 0);
        answer("last(5)", g.last(5), STATE);
        range("last", 6, BAD, g::last);
    }

    @Says(promise = 25, words = "WAITS, as bits; NONE. BAD; STATE: he is dead.")
    static void waits() {
        GhostRooms g = of("p1 9;".repeat(4) + "p1 0;p0 4;" + "r9;".repeat(6) + "r5;");
        answer("waits(0, 6)", g.waits(0, 6), 16);
        answer("waits(4, 6)", g.waits(4, 6), 0);
        answer("waits(0, 0)", g.waits(0, 0), NONE);
        answer("waits(5, 6)", g.waits(5, 6), STATE);
        answer("waits(5, 7), BAD first", g.waits(5, 7), BAD);
        answer("waits(5, -1), BAD first", g.waits(5, -1), BAD);
        answer("waits(6, 7)", g.waits(6, 7), BAD);
        range("waits(p, 6)", 6, BAD, p -> g.waits(p, 6));
        range("waits(0, r)", 7, BAD, r -> g.waits(0, r));
    }

    @Says(promise = 26, words = "ODDS: upper (what = 0), lower number (1), in least terms. BAD; STATE: he is dead.")
    static void odds() {
        GhostRooms g = of("p1 9;p1 0;p1 9;p1 9;p1 9;p0 9;r9;r1;d0 1;b0 0;w0 1;");
        int[] upper = {0, 1, 1, 3, 2, 1, 3, 7, 4, 9, 1};
        int[] lower = {1, 10, 5, 10, 5, 2, 5, 10, 5, 10, 1};
        for (int x = 0; x <= 10; x++) {
            answer("odds(0, " + x + ", 0)", g.odds(0, x, 0), upper[x]);
            answer("odds(0, " + x + ", 1)", g.odds(0, x, 1), lower[x]);
            answer("odds(1, " + x + ", 0), wanting nothing", g.odds(1, x, 0), 1);
            answer("odds(1, " + x + ", 1), wanting nothing", g.odds(1, x, 1), 1);
        }
        answer("odds(5, 0, 0)", g.odds(5, 0, 0), STATE);
        answer("odds(5, 11, 0), BAD first", g.odds(5, 11, 0), BAD);
        answer("odds(5, -1, 0), BAD first", g.odds(5, -1, 0), BAD);
        answer("odds(5, 0, 2), BAD first", g.odds(5, 0, 2), BAD);
        range("odds(p, 0, 0)", 6, BAD, p -> g.odds(p, 0, 0));
        range("odds(0, x, 1)", 11, BAD, x -> g.odds(0, x, 1));
        range("odds(0, 0, what)", 2, BAD, what -> g.odds(0, 0, what));
    }

    @Says(promise = 27, words = "RATE. NO: BAD.")
    static void rate() {
        GhostRooms g = of("p1 9;" + SEVEN);
        for (int r = 0; r < 7; r++) {
            int room = r;
            range("rate(kind, " + r + ")", 6, NO, kind -> g.rate(kind, room));
        }
        for (int kind = 0; kind < 6; kind++) {
            int asked = kind;
            range("rate(" + kind + ", r)", 7, NO, r -> g.rate(asked, r));
        }
        GhostRooms below = of("p1 9;r9;" + "x0 0 0;".repeat(9));
        answer("as BAD is", below.rate(2, 0), -9);
        GhostRooms one = of("p1 9;r9;x0 0 0;");
        answer("rate(2, 0) below 0 is an answer", one.rate(2, 0), -1);
    }

    @Says(promise = 28, words = "An IMAGE is kept: THE DAY. BAD.")
    static void keep() {
        GhostRooms g = new GhostRooms();
        range("keep", 2, BAD, g::keep);
        Edges.days(g, 99);
        answer("keep(1)", g.keep(1), 99);
        answer("back(0)", g.back(0), 0);
        g.day();
        answer("keep(0), in the other's place", g.keep(0), 1);
        g.day();
        answer("back(0)", g.back(0), 1);
        answer("back(1)", g.back(1), 99);
    }

    @Says(promise = 29, words = "All of that becomes as an IMAGE has it: THE DAY. BAD; STATE: none was kept.")
    static void back() {
        GhostRooms g = of("p1 9;");
        answer("back(0)", g.back(0), STATE);
        answer("back(1)", g.back(1), STATE);
        g.day();
        answer("keep(1)", g.keep(1), 1);
        answer("back(0), the other was kept", g.back(0), STATE);
        answer("now(4), nothing changed", g.now(4), 1);
        g.day();
        answer("back(1)", g.back(1), 1);
        answer("back(1) again", g.back(1), 1);
        answer("now(4)", g.now(4), 0);
        answer("day()", g.day(), 2);
        for (int image : Edges.outside(2)) {
            answer("back(" + image + ")", g.back(image), BAD);
        }
        answer("now(4), nothing changed", g.now(4), 1);
    }

    @Says(promise = 30, words = "0 PEOPLE, 1 ROOMS, 2 SEEN, 3 letters of THE TEXT. BAD.")
    static void count() {
        GhostRooms g = of("p1 9;p0 9;r9;");
        g.seen(0, 0, 0);
        g.seen(0, 0, 0);
        g.seen(0, 0, 0);
        Edges.type(g, "1234");
        int[] due = {2, 1, 3, 4};
        for (int what = 0; what < 4; what++) {
            answer("count(" + what + ")", g.count(what), due[what]);
        }
        range("count", 4, BAD, g::count);
        GhostRooms most = of(SIX + SEVEN);
        answer("count(0)", most.count(0), 6);
        answer("count(1)", most.count(1), 7);
    }

    @Says(promise = 31, words = "THE TRACE.")
    static void trace() {
        GhostRooms g = of("p1 9;r0;");
        answer("trace()", g.trace(), 0);
        g.rate(6, 0);
        g.rate(5, 1);
        g.rate(-1, 0);
        answer("trace(), none of what was refused", g.trace(), 0);
        g.rate(5, 0);
        g.undo();
        g.keep(0);
        g.back(0);
        answer("trace()", g.trace(), 100001);
        answer("house()", g.house(), 0);
        answer("trace() is not told anew", g.trace(), 100001);
        Edges.tell(g, "r9;");
        for (int n = 2; n <= 400; n++) {
            g.rate(5, 0);
        }
        answer("trace() of 400", g.trace(), 40000400L);
    }
}

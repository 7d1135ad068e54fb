/** For each promise: ordinary inputs, the edges that the document names, wrong inputs. */
public final class PromiseTest {
    private static final int BAD = -1, STATE = -2, FULL = -3, NONE = -9, NO = -1000000;
    private static final int[] WRONG = {-1, Integer.MIN_VALUE, Integer.MAX_VALUE, 1000};

    private static int wrong = 0;
    private static int promise = 0;

    public static void main(String[] args) {
        promise = 1; aNewObject();
        promise = 2; type();
        promise = 3; clear();
        promise = 4; house(); faults(); readAnew();
        promise = 5; person();
        promise = 6; room();
        promise = 7; right(); rightInRoomZero();
        promise = 8; now();
        promise = 9; day();
        promise = 10; dies();
        promise = 11; grants();
        promise = 12; exchanges();
        promise = 13; wills();
        promise = 14; undo();
        promise = 15; fromWhen();
        promise = 16; needs();
        promise = 17; opens();
        promise = 18; exchange();
        promise = 19; holdsOut();
        promise = 20; dinner();
        promise = 21; seen();
        promise = 22; forget();
        promise = 23; said();
        promise = 24; last();
        promise = 25; waits();
        promise = 26; odds();
        promise = 27; rate();
        promise = 28; keep();
        promise = 29; back();
        promise = 30; count();
        promise = 31; trace();
        System.out.println(wrong == 0 ? "every promise answers as is due" : wrong + " answers are not as due");
        if (wrong != 0) {
            System.exit(1);
        }
    }

    private static void due(String call, long got, long want) {
        if (got != want) {
            wrong++;
            System.out.println("promise " + promise + ": " + call + " answered " + got + ", due is " + want);
        }
    }

    private static int tell(GhostRooms g, String text) {
        for (int i = 0; i < text.length(); i++) {
            g.type(text.charAt(i));
        }
        return g.house();
    }

    private static GhostRooms of(String text) {
        GhostRooms g = new GhostRooms();
        if (tell(g, text) < 0) {
            due("house() of " + text, -1, 0);
        }
        return g;
    }

    private static void aNewObject() {
        GhostRooms g = new GhostRooms();
        for (int what = 0; what <= 3; what++) {
            due("count(" + what + ")", g.count(what), 0);
        }
        for (int what = 0; what <= 4; what++) {
            due("now(" + what + ")", g.now(what), 0);
        }
        due("trace()", g.trace(), 0);
        due("person(0, 0)", g.person(0, 0), BAD);
        due("room(0, 0)", g.room(0, 0), BAD);
        due("right(0, 0)", g.right(0, 0), BAD);
        due("undo()", g.undo(), STATE);
        due("back(0)", g.back(0), STATE);
        due("back(1)", g.back(1), STATE);
        due("exchange()", g.exchange(), NONE);
        due("holdsOut()", g.holdsOut(), 0);
        due("forget()", g.forget(), 0);
        due("clear()", g.clear(), 0);
        due("house()", g.house(), 0);
        due("BAD", GhostRooms.BAD, BAD);
        due("STATE", GhostRooms.STATE, STATE);
        due("FULL", GhostRooms.FULL, FULL);
        due("NONE", GhostRooms.NONE, NONE);
        due("NO", GhostRooms.NO, NO);
    }

    private static void type() {
        GhostRooms g = new GhostRooms();
        due("type(-1)", g.type(-1), BAD);
        due("type(256)", g.type(256), BAD);
        due("type(0)", g.type(0), 1);
        due("type(255)", g.type(255), 2);
        for (int n = 3; n <= 200; n++) {
            due("type(112)", g.type(112), n);
        }
        due("type of a full text", g.type(112), FULL);
        due("BAD is before FULL", g.type(256), BAD);
        due("count(3)", g.count(3), 200);
        due("clear()", g.clear(), 200);
        due("type(112) again", g.type(112), 1);
    }

    private static void clear() {
        GhostRooms g = of("p1 9;r0;");
        g.type('p');
        g.type(' ');
        due("clear()", g.clear(), 2);
        due("clear() again", g.clear(), 0);
        due("count(3)", g.count(3), 0);
        due("the house stays", g.count(0), 1);
    }

    private static void house() {
        GhostRooms g = new GhostRooms();
        due("all items", tell(g, "  p 1 9;p0 0;r0 ;r9;d0 1;d1 0;b0 0;b0 1;w0 0;w0 1;w0 0;x1 0 99;x1 0 0;  "), 13);
        due("the text is empty", g.count(3), 0);
        due("people", g.count(0), 2);
        due("rooms", g.count(1), 2);
        due("the later bed", g.person(0, 2), 1);
        due("wants", g.person(0, 3), 3);
        due("a door told again", g.room(0, 3), 2);
        due("its other side", g.room(1, 3), 1);
        due("rights", g.now(3), 2);
        due("blanks alone", tell(g, "   "), 0);
        due("nobody", g.count(0), 0);
        due("no rooms", g.count(1), 0);
        due("tokens without blanks", tell(g, "p1 9;r0;w0 0;b0 0;"), 4);
        due("ten rights", tell(g, "p1 9;r9;" + "x0 0 1;".repeat(10)), 12);
        due("rights", g.now(3), 10);
        due("six people", tell(g, "p0 9;".repeat(6) + "r5;"), 7);
        due("seven rooms", tell(g, "r9;".repeat(7) + "d6 0;"), 8);
        due("heirs", tell(g, "p1 0;p1 1;p1 2;p1 3;p1 4;p1 5;"), 6);
        for (int p = 0; p < 6; p++) {
            due("heir " + p, g.person(p, 1), p);
        }
    }

    private static void fault(String text, int place) {
        GhostRooms g = of("p1 9;r0;r0;d0 1;b0 0;w0 1;x0 1 7;");
        g.day();
        g.keep(0);
        g.seen(0, 0, 1);
        due("house() of " + text, tell(g, text), -10 - place);
        due("the text stays", g.count(3), text.length());
        due("the day stays", g.now(0), 1);
        due("the people stay", g.count(0), 1);
        due("the rooms stay", g.count(1), 2);
        due("the door stays", g.room(0, 3), 2);
        due("the bed stays", g.person(0, 2), 0);
        due("the wants stay", g.person(0, 3), 2);
        due("the rights stay", g.now(3), 1);
        due("what was seen stays", g.count(2), 1);
        due("what may be undone stays", g.now(4), 1);
        due("the image stays", g.back(0), 1);
        due("house() again", g.house(), -10 - place);
    }

    private static void faults() {
        fault("q", 0);
        fault("P1 9;", 0);
        fault("p1 9;\t", 5);
        fault(";", 0);
        fault("p1 9;;", 5);
        fault("7", 0);
        fault("p2 9;", 1);
        fault("p1 6;", 3);
        fault("p1 7;", 3);
        fault("p1 8;", 3);
        fault("p1 10;", 3);
        fault("p1 100;", 3);
        fault("p01 9;", 1);
        fault("p1 09;", 3);
        fault("p1 00;", 3);
        fault("p19;", 1);
        fault("p1;", 2);
        fault("p1 9 9;", 5);
        fault("p1 9p1 9;", 4);
        fault("p1 9", 4);
        fault("p1 9 ", 5);
        fault("p", 1);
        fault("p1", 2);
        fault("p1 9;".repeat(6) + " p1 9;", 31);
        fault("r9;".repeat(7) + "r9;", 21);
        fault("p1 9;r9;" + "x0 0 0;".repeat(10) + "x", 78);
        fault("r0;", 1);
        fault("p1 9;r1;", 6);
        fault("p1 9;r8;", 6);
        fault("p1 9;r10;", 6);
        fault("r9", 2);
        fault("d0 1;", 1);
        fault("r9;d0 0;", 6);
        fault("r9;d0 1;", 6);
        fault("r9;r9;d1 1;", 9);
        fault("r9;r9;d2 1;", 7);
        fault("p1 9;b0 0;", 8);
        fault("r9;b0 0;", 4);
        fault("p1 9;r9;b1 0;", 9);
        fault("p1 9;r9;b0 1;", 11);
        fault("p1 9;r9;w1 0;", 9);
        fault("p1 9;r9;w0 1;", 11);
        fault("p1 9;r9;x1 0 0;", 9);
        fault("p1 9;r9;x0 1 0;", 11);
        fault("p1 9;r9;x0 0 100;", 13);
        fault("p1 9;r9;x0 0 99999999999999999999;", 13);
        fault("p1 9;r9;x0 0 4294967296;", 13);
        fault("p1 9;r9;x0 0 01;", 13);
        fault("p1 9;r9;x0 0;", 12);
        fault("p1 9;r9;x0 0 5 5;", 15);
        fault("p1 9;r9;x0 0 5", 14);
        fault("p1 9;r9;" + (char) 233, 8);
        fault("p1 9;r9;" + (char) 0, 8);
    }

    private static void readAnew() {
        GhostRooms g = new GhostRooms();
        // More than once: nothing of any earlier house may come again.
        for (int time = 1; time <= 3; time++) {
            readAnewAfterMuch(g, time);
        }
        for (int time = 1; time <= 2; time++) {
            tell(g, "p1 1;p1 0;r0;r0;x0 0 5;d0 1;b0 0;w0 1;");
        }
        due("a house of little", tell(g, "p0 9;p1 9;r9;r9;"), 4);
        due("alive as told", g.now(1), 2);
        due("no rights", g.now(3), 0);
        due("no heir", g.person(0, 1), 9);
        due("no bed", g.person(0, 2), NONE);
        due("no wants", g.person(0, 3), 0);
        due("left to nobody", g.room(0, 0), 9);
        due("no doors", g.room(1, 3), 0);
    }

    private static void readAnewAfterMuch(GhostRooms g, int time) {
        due("house() of much", tell(g, "p1 9;p1 0;r0;r0;x0 0 5;d0 1;b0 0;w0 1;"), 8);
        g.rate(0, 0);
        g.day();
        g.dies(0);
        g.seen(0, 0, 0);
        g.keep(0);
        g.keep(1);
        due("house()", tell(g, "p1 9;p0 9;r0;r0;"), 4);
        due("day 0", g.now(0), 0);
        due("alive as told", g.now(1), 1);
        due("no rights", g.now(3), 0);
        due("nobody is cut off", g.now(2), 0);
        due("no bed", g.person(0, 2), NONE);
        due("no wants", g.person(0, 3), 0);
        due("no doors", g.room(0, 3), 0);
        due("nothing to undo", g.now(4), 0);
        due("undo()", g.undo(), STATE);
        due("nothing seen", g.count(2), 0);
        due("image 0 is gone", g.back(0), STATE);
        due("image 1 is gone", g.back(1), STATE);
        due("the trace stays", g.trace(), time);
        g.day();
        g.dies(0);
    }

    /** 0 lives by 2's room and a right; 1 is dead, his heir is 0; 2 has no bed. */
    private static final String HOUSE =
        "p1 9;p0 0;p1 5;r0;r1;r2;r9;r1;d0 1;d1 2;d2 3;d3 4;b0 0;w0 1;w0 2;w0 1;x0 2 3;b1 1;w1 0;";

    private static void person() {
        GhostRooms g = of(HOUSE);
        int[][] people = {{1, 9, 0, 6, 7, 0, 23}, {0, 0, 1, 1, 0, 0, 0}, {1, 5, NONE, 0, 0, 0, 4}};
        for (int p = 0; p < 3; p++) {
            for (int what = 0; what <= 6; what++) {
                due("person(" + p + ", " + what + ")", g.person(p, what), people[p][what]);
            }
        }
        due("person(3, 0)", g.person(3, 0), BAD);
        due("person(0, 7)", g.person(0, 7), BAD);
        for (int n : WRONG) {
            due("person(n, 0)", g.person(n, 0), BAD);
            due("person(0, n)", g.person(0, n), BAD);
        }
        for (int day = 1; day <= 3; day++) {
            g.day();
        }
        due("that day too", g.person(0, 6), 23);
        g.day();
        due("the day after", g.person(0, 6), 19);
        due("goes no more", g.person(0, 4), 3);
        due("is cut off", g.person(0, 5), 1);
        due("without a bed", of("p1 9;r0;w0 0;").person(0, 5), 1);
        due("without a bed, wanting nothing", of("p1 9;r0;").person(0, 5), 0);
        due("a bed in another's room", of("p1 9;r9;b0 0;w0 0;").person(0, 4), 1);
        due("a dead one with all", of("p0 9;r0;b0 0;w0 0;x0 0 9;").person(0, 6), 0);
        GhostRooms ring = of("p1 9;r0;r0;r0;r0;r0;r0;r0;d6 5;d5 4;d4 3;d3 2;d2 1;d1 0;b0 6;w0 0;");
        due("a long way", ring.person(0, 4), 127);
    }

    private static void room() {
        GhostRooms g = of(HOUSE);
        int[][] rooms = {{0, 0, 0, 2, 1}, {1, 0, 1, 5, 1}, {2, 2, 0, 10, 5}, {9, NONE, 0, 20, 0}, {1, 0, 1, 8, 1}};
        for (int r = 0; r < 5; r++) {
            for (int what = 0; what <= 4; what++) {
                due("room(" + r + ", " + what + ")", g.room(r, what), rooms[r][what]);
            }
        }
        due("room(5, 0)", g.room(5, 0), BAD);
        due("room(0, 5)", g.room(0, 5), BAD);
        for (int n : WRONG) {
            due("room(n, 0)", g.room(n, 0), BAD);
            due("room(0, n)", g.room(0, n), BAD);
        }
        GhostRooms far = of("p0 1;p0 2;p0 3;p0 4;p0 5;p1 0;r0;");
        due("five heirs on", far.room(0, 2), 5);
        due("the sixth owns", far.room(0, 1), 5);
        due("a round: chain", of("p0 1;p0 0;r0;").room(0, 2), NONE);
        due("a round: owner", of("p0 1;p0 0;p1 9;r0;").room(0, 1), NONE);
        due("his own heir", of("p0 0;r0;").room(0, 2), NONE);
        due("his own heir, alive", of("p1 0;r0;").room(0, 2), 0);
        due("no heir: chain", of("p0 9;r0;").room(0, 2), NONE);
        due("no such heir: chain", of("p0 3;r0;").room(0, 2), NONE);
        due("no such heir: owner", of("p0 3;r0;").room(0, 1), NONE);
    }

    /** A right in room 0 holds in every question. */
    private static void rightInRoomZero() {
        GhostRooms g = of("p1 9;p1 9;r9;r9;r1;d0 1;b0 1;w0 0;x0 0 9;");
        due("person(0, 5)", g.person(0, 5), 0);
        due("now(2)", g.now(2), 0);
        due("room(0, 4)", g.room(0, 4), 1);
        due("fromWhen(0)", g.fromWhen(0), 10);
        due("needs(0)", g.needs(0), 0);
        due("opens(0)", g.opens(0), 0);
        due("exchange()", g.exchange(), NONE);
        due("holdsOut()", g.holdsOut(), 1);
        due("dinner(0, 1)", g.dinner(0, 1), 1);
        due("odds(0, 5, 0)", g.odds(0, 5, 0), 1);
        GhostRooms other = of("p1 9;p1 9;r9;r9;r1;r0;d0 1;d1 2;b0 1;w0 0;w0 2;x0 0 9;");
        due("an exchange and a right", other.exchange(), 23);
        due("nothing more is held", other.holdsOut(), 0);
    }

    private static void right() {
        GhostRooms g = of("p1 9;p0 9;r9;r9;x1 0 99;x0 1 0;");
        g.grants(1, 1, 42);
        int[][] rights = {{1, 0, 99}, {0, 1, 0}, {1, 1, 42}};
        for (int i = 0; i < 3; i++) {
            for (int what = 0; what <= 2; what++) {
                due("right(" + i + ", " + what + ")", g.right(i, what), rights[i][what]);
            }
        }
        due("right(3, 0)", g.right(3, 0), BAD);
        due("right(0, 3)", g.right(0, 3), BAD);
        for (int n : WRONG) {
            due("right(n, 0)", g.right(n, 0), BAD);
            due("right(0, n)", g.right(0, n), BAD);
        }
        g.undo();
        due("an undone right", g.right(2, 0), BAD);
    }

    private static void now() {
        GhostRooms g = of("p1 9;p0 9;p1 9;p1 9;r9;b0 0;w0 0;w1 0;w2 0;w3 0;x2 0 9;");
        int[] first = {0, 13, 12, 1, 0};
        for (int what = 0; what <= 4; what++) {
            due("now(" + what + ")", g.now(what), first[what]);
        }
        g.day();
        g.dies(3);
        g.grants(3, 0, 5);
        int[] later = {1, 5, 4, 2, 3};
        for (int what = 0; what <= 4; what++) {
            due("now(" + what + ") later", g.now(what), later[what]);
        }
        due("now(5)", g.now(5), BAD);
        for (int n : WRONG) {
            due("now(n)", g.now(n), BAD);
        }
    }

    private static void day() {
        GhostRooms g = new GhostRooms();
        for (int day = 1; day <= 99; day++) {
            due("day()", g.day(), day);
        }
        due("day 99", g.day(), STATE);
        due("stays", g.now(0), 99);
        due("ten known", g.now(4), 10);
        due("undo()", g.undo(), 9);
        due("day()", g.day(), 99);
    }

    private static void dies() {
        GhostRooms g = of("p1 9;p0 9;p1 9;");
        due("dies(3)", g.dies(3), BAD);
        due("dies(1)", g.dies(1), STATE);
        due("refused ones are not known", g.now(4), 0);
        due("dies(0)", g.dies(0), 1);
        due("dies(0) again", g.dies(0), STATE);
        due("dies(2)", g.dies(2), 0);
        due("alive", g.now(1), 0);
        for (int n : WRONG) {
            due("dies(n)", g.dies(n), BAD);
        }
    }

    private static void grants() {
        GhostRooms g = of("p1 9;p0 9;r9;r9;x0 0 1;");
        due("till day 0", g.grants(0, 1, 0), 2);
        due("of a dead one till day 99", g.grants(1, 0, 99), 3);
        for (int count = 4; count <= 10; count++) {
            due("alike", g.grants(0, 1, 0), count);
        }
        due("an eleventh", g.grants(0, 0, 0), FULL);
        due("BAD is before FULL", g.grants(0, 0, 100), BAD);
        due("refused ones are not known", g.now(4), 9);
        due("grants(2, 0, 0)", g.grants(2, 0, 0), BAD);
        due("grants(0, 2, 0)", g.grants(0, 2, 0), BAD);
        for (int n : WRONG) {
            due("grants(n, 0, 0)", g.grants(n, 0, 0), BAD);
            due("grants(0, n, 0)", g.grants(0, n, 0), BAD);
            due("grants(0, 0, n)", g.grants(0, 0, n), BAD);
        }
        due("it may be there", g.person(0, 6), 3);
    }

    private static void exchanges() {
        GhostRooms g = of("p1 9;p1 9;r0;r1;r9;");
        due("exchanges(0, 1)", g.exchanges(0, 1), 1);
        due("the other", g.room(1, 0), 0);
        due("exchanges(1, 2)", g.exchanges(1, 2), 9);
        due("exchanges(1, 2) back", g.exchanges(1, 2), 0);
        due("alike", g.exchanges(1, 1), BAD);
        due("exchanges(3, 0)", g.exchanges(3, 0), BAD);
        due("exchanges(0, 3)", g.exchanges(0, 3), BAD);
        for (int n : WRONG) {
            due("exchanges(n, 0)", g.exchanges(n, 0), BAD);
            due("exchanges(0, n)", g.exchanges(0, n), BAD);
        }
        due("refused ones are not known", g.now(4), 3);
    }

    private static void wills() {
        GhostRooms g = of("p0 4;p1 9;r0;");
        due("who was, though there is not such", g.wills(0, 1), 4);
        due("he owns", g.room(0, 1), 1);
        due("wills(0, 9)", g.wills(0, 9), 1);
        due("none", g.room(0, 1), NONE);
        due("wills(1, 5)", g.wills(1, 5), 9);
        due("as willed", g.person(1, 1), 5);
        due("himself", g.wills(1, 1), 5);
        for (int heir : new int[] {6, 7, 8, 10, -1, Integer.MIN_VALUE, Integer.MAX_VALUE}) {
            due("wills(0, " + heir + ")", g.wills(0, heir), BAD);
        }
        due("wills(2, 0)", g.wills(2, 0), BAD);
        for (int n : WRONG) {
            due("wills(n, 0)", g.wills(n, 0), BAD);
        }
        due("refused ones are not known", g.now(4), 4);
    }

    private static void undo() {
        GhostRooms g = of("p1 9;p1 9;r0;r1;x0 0 5;");
        g.day();
        g.dies(1);
        g.grants(0, 1, 7);
        g.exchanges(0, 1);
        g.wills(1, 0);
        g.seen(0, 0, 1);
        g.keep(0);
        due("the will", g.undo(), 4);
        due("heir", g.person(1, 1), 9);
        due("the exchange", g.undo(), 3);
        due("left", g.room(0, 0), 0);
        due("left", g.room(1, 0), 1);
        due("the right", g.undo(), 2);
        due("rights", g.now(3), 1);
        due("the death", g.undo(), 1);
        due("alive", g.now(1), 3);
        due("the day", g.undo(), 0);
        due("day", g.now(0), 0);
        due("none", g.undo(), STATE);
        due("what was seen stays", g.count(2), 1);
        due("the image stays", g.back(0), 1);
        due("heir by the image", g.person(1, 1), 0);
        g.undo();
        for (int n = 0; n < 13; n++) {
            g.wills(0, n % 6);
        }
        due("ten are known", g.now(4), 10);
        for (int left = 9; left >= 0; left--) {
            due("undo()", g.undo(), left);
        }
        due("older ones are lost", g.undo(), STATE);
        due("as it was ten before", g.person(0, 1), 2);
        undoOfAllKinds();
    }

    private static void undoOfAllKinds() {
        GhostRooms g = of("p1 9;p1 9;p1 9;r0;r1;r2;");
        g.day();
        g.day();
        g.dies(2);
        g.exchanges(1, 2);
        g.wills(1, 0);
        g.grants(1, 2, 3);
        g.dies(1);
        g.exchanges(0, 2);
        g.wills(2, 1);
        g.day();
        g.grants(0, 0, 0);
        g.wills(0, 2);
        due("ten of twelve", g.now(4), 10);
        for (int left = 9; left >= 0; left--) {
            due("undo()", g.undo(), left);
        }
        due("two days are lost", g.now(0), 2);
        due("all live", g.now(1), 7);
        due("no rights", g.now(3), 0);
        for (int i = 0; i < 3; i++) {
            due("left " + i, g.room(i, 0), i);
            due("heir " + i, g.person(i, 1), 9);
        }
        due("none", g.undo(), STATE);
    }

    private static void fromWhen() {
        GhostRooms g = of("p1 9;p1 9;p0 9;p1 9;p1 9;r9;r9;b0 0;w0 1;d0 1;x0 1 4;x0 1 8;w1 0;w2 0;b3 0;x4 1 99;b4 0;w4 1;");
        due("when both rights are past", g.fromWhen(0), 9);
        due("now", g.fromWhen(1), 0);
        due("dead", g.fromWhen(2), NONE);
        due("wanting nothing", g.fromWhen(3), NONE);
        due("till day 99", g.fromWhen(4), NONE);
        g.grants(0, 1, 98);
        due("on day 99", g.fromWhen(0), 99);
        g.day();
        due("now is the day", g.fromWhen(1), 1);
        due("day stays", g.now(0), 1);
        due("fromWhen(5)", g.fromWhen(5), BAD);
        for (int n : WRONG) {
            due("fromWhen(n)", g.fromWhen(n), BAD);
        }
    }

    private static void needs() {
        GhostRooms g = of("p1 9;p1 9;p1 9;p0 9;r9;r9;r9;r9;r9;d0 1;d0 2;d1 3;d2 3;b0 0;w0 3;b1 0;w1 4;w2 0;");
        due("of as few the least", g.needs(0), 10);
        due("no door", g.needs(1), NONE);
        due("no bed", g.needs(2), NONE);
        due("dead", g.needs(3), STATE);
        g.grants(0, 2, 0);
        due("fewest", g.needs(0), 8);
        g.grants(0, 3, 0);
        due("none", g.needs(0), 0);
        g.day();
        due("past rights", g.needs(0), 10);
        due("fewer though greater", of("p1 9;r9;r9;r9;r9;r9;d0 1;d1 2;d2 4;d0 3;d3 4;b0 0;w0 4;").needs(0), 24);
        due("needs(4)", g.needs(4), BAD);
        for (int n : WRONG) {
            due("needs(n)", g.needs(n), BAD);
        }
    }

    private static void opens() {
        GhostRooms g = of("p1 9;p1 0;p1 1;p0 9;r9;r1;b0 0;w0 1;d0 1;");
        due("his death", g.opens(0), 2);
        due("not cut off", g.opens(1), 0);
        due("dead", g.opens(3), STATE);
        g.wills(1, 2);
        due("two deaths would", g.opens(0), 0);
        due("nobody is alive unlike him", of("p1 9;r9;w0 0;").opens(0), 0);
        GhostRooms two = of("p1 9;p1 0;p1 0;r1;r2;r9;b0 2;d0 2;d1 2;w0 0;w0 1;");
        due("each opens one alone", two.opens(0), 0);
        due("alive yet", two.now(1), 7);
        GhostRooms worse = of("p1 9;p1 0;r1;b0 0;w0 0;");
        due("not cut off though one might die", worse.opens(0), 0);
        GhostRooms several = of("p1 9;p0 0;p1 0;p0 4;p1 0;p1 9;r2;r4;r9;b5 2;d2 0;w5 0;b0 2;w0 0;");
        due("by the first heir", several.opens(0), 4);
        due("by nobody", several.opens(5), 0);
        GhostRooms ways = of("p1 9;p1 0;p1 0;r9;r1;r2;r0;d0 1;d1 3;d0 2;d2 3;b0 0;w0 3;");
        due("by one or the other", ways.opens(0), 6);
        GhostRooms more = of("p1 9;p1 0;r9;r9;r1;d1 0;d1 2;b0 1;w0 0;w0 2;x0 0 9;");
        due("by a death and a right", more.opens(0), 2);
        due("by the first one's death", of("p1 1;p1 9;r0;r9;d0 1;b1 1;w1 0;").opens(1), 1);
        GhostRooms either = of("p0 1;p1 2;p1 3;p1 9;r0;r9;b3 1;w3 0;d0 1;");
        either.dies(1);
        due("by the next heir", either.opens(3), 4);
        due("opens(4)", g.opens(4), BAD);
        for (int n : WRONG) {
            due("opens(n)", g.opens(n), BAD);
        }
    }

    private static void exchange() {
        GhostRooms g = of("p1 9;p1 9;r9;r1;r0;r0;b0 0;w0 1;d0 1;");
        due("of several the first", g.exchange(), 12);
        due("nothing is exchanged", g.room(1, 0), 1);
        due("nothing is known", g.now(4), 0);
        g.exchanges(1, 2);
        due("not fewer", g.exchange(), NONE);
        due("the best one", of("p1 9;p1 9;r9;r9;r0;r1;r9;d0 1;b0 0;w0 1;b1 0;w1 1;w1 0;x1 0 9;").exchange(), 12);
        GhostRooms many = of("p1 9;p1 9;p1 0;r0;r1;r1;r9;d0 3;d1 3;d2 3;b0 0;b1 1;w0 3;w1 0;w1 3;");
        due("two are cut off", many.now(2), 3);
        due("who is cut off after", many.exchange(), 3);
    }

    private static void holdsOut() {
        GhostRooms g = of("p1 9;p1 9;r9;r9;r0;r9;d0 1;d1 2;d0 3;b0 0;w0 2;x0 1 5;x0 3 5;x0 2 5;x1 1 5;");
        due("by one room", g.holdsOut(), 2);
        g.grants(0, 1, 9);
        due("several rights in it", g.holdsOut(), 2);
        due("right stays", g.right(0, 2), 5);
        for (int n = 0; n < 10; n++) {
            g.day();
        }
        due("cut off now already", g.holdsOut(), 0);
        due("two rooms", of("p1 9;r9;r9;r9;d0 1;d1 2;b0 0;w0 2;x0 1 0;x0 2 0;").holdsOut(), 6);
        due("one's own", of("p1 9;r0;r0;d0 1;b0 0;w0 1;x0 1 0;").holdsOut(), 0);
    }

    private static void dinner() {
        GhostRooms g = of("p1 9;p1 9;p0 9;r0;r1;r0;r9;r2;r1;d0 1;d1 2;d2 3;d0 4;d4 2;d3 5;");
        due("handed on", g.dinner(0, 2), 2);
        due("back", g.dinner(2, 0), 2);
        due("the same", g.dinner(1, 1), 0);
        due("nobody may", g.dinner(0, 3), NONE);
        due("from where nobody may", g.dinner(3, 0), NONE);
        due("nobody may, the same", g.dinner(3, 3), NONE);
        due("nobody may, in room 0", of("p1 9;r9;r0;d0 1;").dinner(1, 0), NONE);
        due("through where nobody may", g.dinner(0, 5), NONE);
        g.grants(0, 3, 0);
        due("by a right", g.dinner(0, 5), 4);
        due("by a right, from there", g.dinner(3, 1), 2);
        g.day();
        due("past", g.dinner(0, 5), NONE);
        due("longest", of("p1 9;r0;r0;r0;r0;r0;r0;r0;d0 1;d1 2;d2 3;d3 4;d4 5;d5 6;").dinner(6, 0), 6);
        due("dinner(6, 0)", g.dinner(6, 0), BAD);
        due("dinner(0, 6)", g.dinner(0, 6), BAD);
        for (int n : WRONG) {
            due("dinner(n, 0)", g.dinner(n, 0), BAD);
            due("dinner(0, n)", g.dinner(0, n), BAD);
        }
    }

    private static void seen() {
        GhostRooms g = of("p1 9;p0 9;r9;r9;");
        for (int n = 1; n <= 5; n++) {
            due("seen", g.seen(n % 2, n % 2, n % 2), n);
        }
        due("a sixth", g.seen(0, 0, 0), FULL);
        due("BAD is before FULL", g.seen(0, 0, 2), BAD);
        due("count(2)", g.count(2), 5);
        due("seen(2, 0, 0)", g.seen(2, 0, 0), BAD);
        due("seen(0, 2, 0)", g.seen(0, 2, 0), BAD);
        for (int n : WRONG) {
            due("seen(n, 0, 0)", g.seen(n, 0, 0), BAD);
            due("seen(0, n, 0)", g.seen(0, n, 0), BAD);
            due("seen(0, 0, n)", g.seen(0, 0, n), BAD);
        }
    }

    private static void forget() {
        GhostRooms g = of("p1 9;p0 9;r1;");
        g.seen(0, 0, 1);
        g.seen(1, 0, 0);
        due("said(1)", g.said(1), 1);
        due("forget()", g.forget(), 2);
        due("said(1) again", g.said(1), 127);
        due("forget() again", g.forget(), 0);
        due("count(2)", g.count(2), 0);
        due("seen anew", g.seen(0, 0, 0), 1);
    }

    private static void said() {
        GhostRooms g = of("p0 9;p0 2;p1 9;p1 9;r0;r9;");
        due("nothing seen", g.said(0), 127);
        g.seen(2, 0, 1);
        due("by one heir, too", g.said(0), 6);
        due("not by this one's", g.said(1), 0);
        g.seen(3, 0, 0);
        due("both", g.said(0), 6);
        g.wills(1, 9);
        due("as it is now", g.said(0), 4);
        due("the will stays", g.person(0, 1), 9);
        g.forget();
        g.seen(2, 0, 0);
        due("none, and such as there is not", g.said(0), 64 + 32 + 16 + 8 + 2 + 1);
        g.grants(2, 0, 0);
        due("by a right", g.said(0), 0);
        g.day();
        due("past", g.said(0), 123);
        g.forget();
        g.seen(2, 1, 1);
        due("in a room that is nobody's", g.said(0), 0);
        g.grants(2, 1, 9);
        due("in another room", g.said(0), 127);
        GhostRooms six = of("p0 9;p0 9;p0 9;p0 9;p0 9;p1 9;r0;");
        six.seen(5, 0, 1);
        due("the sixth alone", six.said(0), 32);
        six.forget();
        six.seen(5, 0, 0);
        due("all but the sixth", six.said(0), 95);
        due("said(4)", g.said(4), BAD);
        for (int n : WRONG) {
            due("said(n)", g.said(n), BAD);
        }
    }

    private static void last() {
        GhostRooms g = of("p1 9;p1 2;p1 0;p0 9;p1 4;r0;r1;r2;r3;r4;r9;");
        due("all that come to him", g.last(0), 3);
        due("last(1)", g.last(1), 1);
        due("last(2)", g.last(2), 2);
        due("last(4)", g.last(4), 1);
        due("dead", g.last(3), STATE);
        due("alive yet", g.now(1), 23);
        due("last(5)", g.last(5), BAD);
        for (int n : WRONG) {
            due("last(n)", g.last(n), BAD);
        }
    }

    private static void waits() {
        GhostRooms g = of("p1 9;p1 2;p1 0;p0 1;p1 0;r0;r1;r3;r9;r4;");
        due("his own", g.waits(0, 0), 0);
        due("two deaths", g.waits(0, 1), 6);
        due("behind a dead one", g.waits(0, 2), 6);
        due("nobody's", g.waits(0, 3), NONE);
        due("another's", g.waits(0, 4), 16);
        due("never", g.waits(4, 0), NONE);
        due("one death", g.waits(2, 1), 2);
        due("dead", g.waits(3, 0), STATE);
        due("alive yet", g.now(1), 23);
        due("BAD is before STATE", g.waits(3, 5), BAD);
        due("waits(5, 0)", g.waits(5, 0), BAD);
        for (int n : WRONG) {
            due("waits(n, 0)", g.waits(n, 0), BAD);
            due("waits(0, n)", g.waits(0, n), BAD);
        }
    }

    private static void fraction(GhostRooms g, int p, int x, int upper, int lower) {
        due("odds(" + p + ", " + x + ", 0)", g.odds(p, x, 0), upper);
        due("odds(" + p + ", " + x + ", 1)", g.odds(p, x, 1), lower);
    }

    private static void odds() {
        GhostRooms g = of("p1 9;p1 0;p1 1;p0 9;r9;r1;r2;b0 0;d0 1;d0 2;w0 1;b1 0;w1 0;w2 0;");
        fraction(g, 0, 0, 0, 1);
        fraction(g, 0, 3, 3, 10);
        fraction(g, 0, 5, 1, 2);
        fraction(g, 0, 10, 1, 1);
        fraction(g, 1, 7, 1, 1);
        fraction(g, 2, 7, 0, 1);
        GhostRooms both = of("p1 9;p1 0;p1 0;r9;r1;r2;b0 0;d0 1;d1 2;w0 2;");
        fraction(both, 0, 4, 4, 25);
        fraction(both, 0, 3, 9, 100);
        GhostRooms six = of("p1 9;p1 2;p1 3;p1 4;p1 5;p1 0;r9;r1;b0 0;d0 1;w0 1;");
        fraction(six, 0, 3, 243, 100000);
        fraction(six, 0, 2, 1, 3125);
        GhostRooms lost = of("p1 9;p1 9;p0 1;r9;r2;b0 0;d0 1;w0 1;");
        fraction(lost, 0, 5, 0, 1);
        due("dead", g.odds(3, 0, 0), STATE);
        due("BAD is before STATE", g.odds(3, 11, 0), BAD);
        due("odds(0, 11, 0)", g.odds(0, 11, 0), BAD);
        due("odds(0, 0, 2)", g.odds(0, 0, 2), BAD);
        due("odds(4, 0, 0)", g.odds(4, 0, 0), BAD);
        for (int n : WRONG) {
            due("odds(n, 0, 0)", g.odds(n, 0, 0), BAD);
            due("odds(0, n, 0)", g.odds(0, n, 0), BAD);
            due("odds(0, 0, n)", g.odds(0, 0, n), BAD);
        }
    }

    private static void rate() {
        GhostRooms g = of("p1 9;p1 9;r0;r1;r9;r9;d0 2;d1 2;x0 2 0;x0 2 9;x1 2 0;x1 0 9;");
        g.day();
        int[] rates = {2, 3, -1, 6, 1, 3};
        for (int kind = 0; kind <= 5; kind++) {
            due("rate(" + kind + ", 2)", g.rate(kind, 2), rates[kind]);
        }
        due("no doors", g.rate(0, 3), 0);
        due("its number", g.rate(4, 3), 3);
        due("rate(6, 0)", g.rate(6, 0), NO);
        due("rate(0, 4)", g.rate(0, 4), NO);
        for (int n : WRONG) {
            due("rate(n, 0)", g.rate(n, 0), NO);
            due("rate(0, n)", g.rate(0, n), NO);
        }
    }

    private static void keep() {
        GhostRooms g = of("p1 9;r0;");
        due("keep(0)", g.keep(0), 0);
        g.day();
        due("keep(1)", g.keep(1), 1);
        due("nothing is known of it", g.now(4), 1);
        g.day();
        due("kept again", g.keep(0), 2);
        due("keep(2)", g.keep(2), BAD);
        for (int n : WRONG) {
            due("keep(n)", g.keep(n), BAD);
        }
        due("back(1)", g.back(1), 1);
        due("back(0)", g.back(0), 2);
    }

    private static void back() {
        GhostRooms g = of("p1 9;p1 9;r0;r1;x0 1 5;");
        due("none kept", g.back(0), STATE);
        g.keep(0);
        g.day();
        g.dies(1);
        g.grants(1, 0, 9);
        g.exchanges(0, 1);
        g.wills(0, 1);
        g.seen(0, 0, 1);
        due("the other is not kept", g.back(1), STATE);
        due("refused: all stays known", g.now(4), 5);
        g.keep(1);
        due("back(0)", g.back(0), 0);
        due("nothing can be undone", g.undo(), STATE);
        due("day", g.now(0), 0);
        due("alive", g.now(1), 3);
        due("rights", g.now(3), 1);
        due("left", g.room(0, 0), 0);
        due("heir", g.person(0, 1), 9);
        due("seen stays", g.count(2), 1);
        due("back(1)", g.back(1), 1);
        due("alive", g.now(1), 1);
        due("rights", g.now(3), 2);
        due("right", g.right(1, 2), 9);
        g.undo();
        g.back(0);
        g.grants(0, 1, 77);
        due("back(1) again", g.back(1), 1);
        due("who has the right", g.right(1, 0), 1);
        due("where", g.right(1, 1), 0);
        due("till when", g.right(1, 2), 9);
        due("left", g.room(0, 0), 1);
        due("heir", g.person(0, 1), 1);
        g.dies(0);
        due("an image is not what is now", g.back(1), 1);
        due("alive", g.now(1), 1);
        due("back(2)", g.back(2), BAD);
        for (int n : WRONG) {
            due("back(n)", g.back(n), BAD);
        }
    }

    private static void count() {
        GhostRooms g = of("p1 9;p1 9;p1 9;r0;r1;");
        g.seen(0, 0, 0);
        for (int n = 0; n < 4; n++) {
            g.type(' ');
        }
        int[] counts = {3, 2, 1, 4};
        for (int what = 0; what <= 3; what++) {
            due("count(" + what + ")", g.count(what), counts[what]);
        }
        due("count(4)", g.count(4), BAD);
        for (int n : WRONG) {
            due("count(n)", g.count(n), BAD);
        }
    }

    private static void trace() {
        GhostRooms g = of("p1 9;r0;");
        int[] added = {1, 11, 101, 1011, 10101, 100001};
        long sum = 0;
        for (int kind = 0; kind <= 5; kind++) {
            g.rate(kind, 0);
            sum += added[kind];
            due("trace() after " + kind, g.trace(), sum);
        }
        g.rate(6, 0);
        g.rate(0, 1);
        g.day();
        due("refused ones add nothing", g.trace(), sum);
        g.keep(0);
        g.back(0);
        due("no image of it", g.trace(), sum);
        for (int n = 0; n < 400; n++) {
            g.rate(5, 0);
        }
        due("many", g.trace(), sum + 40000400L);
    }
}

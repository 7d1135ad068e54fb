import java.util.ArrayList;
import java.util.List;
import java.util.function.Function;
import java.util.function.Supplier;
import java.util.function.ToIntFunction;

/**
 * A refused call answers as is due and changes nothing, nor does a question.
 * Two objects live through the same; one of them is asked besides; then both must answer alike whatever is asked.
 */
public final class RefusedTest {
    private static final int BAD = Edges.BAD, STATE = Edges.STATE, FULL = Edges.FULL, NO = Edges.NO;
    private static final String HOUSE = "p1 1;p0 2;p1 0;r0;r1;r2;d0 1;d1 2;b0 0;w0 1;w0 2;x0 1 3;x2 0 0;";
    private static final int PEOPLE = 3, ROOMS = 3;

    private static final List<Function<GhostRooms, List<Long>>> PROBES = List.of(RefusedTest::askAll,
        RefusedTest::undoAll, RefusedTest::bringBack, RefusedTest::readOn, RefusedTest::forgetAll);

    public static void main(String[] args) throws Exception {
        Edges.run(RefusedTest.class, args);
    }

    // ---- lives

    /** Something of everything: a right is past, one dead, image 0 is kept, two were seen, a text is half told. */
    private static GhostRooms lived() {
        GhostRooms g = Edges.of(HOUSE);
        g.day();
        g.grants(2, 1, 9);
        g.wills(2, 1);
        g.seen(0, 1, 1);
        g.seen(2, 0, 0);
        g.keep(0);
        g.exchanges(0, 2);
        g.day();
        g.rate(3, 1);
        Edges.type(g, "p1 9;r0; r");
        return g;
    }

    /** Nothing more can be granted or seen. */
    private static GhostRooms full() {
        GhostRooms g = lived();
        for (int n = 0; n < 7; n++) {
            g.grants(n % PEOPLE, n % ROOMS, n);
        }
        for (int n = 0; n < 3; n++) {
            g.seen(n, n, 1);
        }
        return g;
    }

    private static GhostRooms fullText() {
        GhostRooms g = lived();
        Edges.type(g, "9;" + " ".repeat(188));
        return g;
    }

    private static GhostRooms lastDay() {
        GhostRooms g = lived();
        Edges.days(g, 97);
        return g;
    }

    /** Nothing can be undone. */
    private static GhostRooms broughtBack() {
        GhostRooms g = lived();
        g.back(0);
        return g;
    }

    // ---- what can be asked of them

    private static List<Long> askAll(GhostRooms g) {
        List<Long> answers = new ArrayList<>();
        for (int what = 0; what < 5; what++) {
            answers.add((long) g.now(what));
            answers.add((long) g.count(Math.min(what, 3)));
            for (int r = 0; r < ROOMS; r++) {
                answers.add((long) g.room(r, what));
            }
        }
        for (int p = 0; p < PEOPLE; p++) {
            for (int what = 0; what < 7; what++) {
                answers.add((long) g.person(p, what));
            }
            for (int r = 0; r < ROOMS; r++) {
                answers.add((long) g.waits(p, r));
                answers.add((long) g.dinner(p, r));
            }
            answers.add((long) g.fromWhen(p));
            answers.add((long) g.needs(p));
            answers.add((long) g.opens(p));
            answers.add((long) g.said(p));
            answers.add((long) g.last(p));
            answers.add((long) g.odds(p, 3, 0));
            answers.add((long) g.odds(p, 3, 1));
        }
        for (int i = 0; i < 10; i++) {
            for (int what = 0; what < 3; what++) {
                answers.add((long) g.right(i, what));
            }
        }
        answers.add((long) g.exchange());
        answers.add((long) g.holdsOut());
        answers.add(g.trace());
        return answers;
    }

    private static void askSome(GhostRooms g, List<Long> answers) {
        for (int n = 0; n < 3; n++) {
            answers.add((long) g.person(n, 1));
            answers.add((long) g.room(n, 0));
        }
        answers.add((long) g.now(0));
        answers.add((long) g.now(1));
        answers.add((long) g.now(3));
        answers.add((long) g.count(2));
    }

    private static List<Long> undoAll(GhostRooms g) {
        List<Long> answers = new ArrayList<>();
        for (int n = 0; n < 11; n++) {
            answers.add((long) g.undo());
            askSome(g, answers);
        }
        return answers;
    }

    private static List<Long> bringBack(GhostRooms g) {
        List<Long> answers = new ArrayList<>();
        for (int image = 0; image < 2; image++) {
            answers.add((long) g.back(image));
            askSome(g, answers);
        }
        answers.add((long) g.undo());
        answers.addAll(askAll(g));
        return answers;
    }

    private static List<Long> readOn(GhostRooms g) {
        List<Long> answers = new ArrayList<>();
        answers.add((long) g.house());
        answers.add((long) g.type('9'));
        answers.add((long) g.type(';'));
        answers.add((long) g.house());
        answers.addAll(askAll(g));
        answers.add((long) g.back(0));
        answers.add((long) g.undo());
        return answers;
    }

    private static List<Long> forgetAll(GhostRooms g) {
        List<Long> answers = new ArrayList<>();
        for (int n = 0; n < 4; n++) {
            answers.add((long) g.seen(1, n, 0));
            answers.add((long) g.said(1));
        }
        answers.add((long) g.forget());
        answers.add((long) g.said(1));
        answers.add((long) g.seen(0, 0, 1));
        answers.add((long) g.said(1));
        return answers;
    }

    // ---- twins

    private static void unchanged(String call, Supplier<GhostRooms> life, ToIntFunction<GhostRooms> ask) {
        for (Function<GhostRooms, List<Long>> probe : PROBES) {
            GhostRooms asked = life.get();
            ask.applyAsInt(asked);
            Edges.same(call, probe.apply(asked), probe.apply(life.get()));
        }
    }

    private static void refused(String call, Supplier<GhostRooms> life, int due, ToIntFunction<GhostRooms> ask) {
        Edges.answer(call, ask.applyAsInt(life.get()), due);
        unchanged(call, life, ask);
    }

    private static void bad(String call, ToIntFunction<GhostRooms> ask) {
        refused(call, RefusedTest::lived, BAD, ask);
    }

    /** Where a number of 0 .. end - 1 is wanted, every other one is BAD. */
    private static void badNumbers(String call, int end, NumberCall ask) {
        for (int number : Edges.outside(end)) {
            bad(call + " of " + number, g -> ask.of(g, number));
        }
    }

    private interface NumberCall {
        int of(GhostRooms g, int number);
    }

    @Says(promise = 2, words = "BAD; FULL.")
    static void type() {
        badNumbers("type", 256, GhostRooms::type);
        refused("type(32)", RefusedTest::fullText, FULL, g -> g.type(32));
        refused("type(255)", RefusedTest::fullText, FULL, g -> g.type(255));
        refused("type(256), BAD first", RefusedTest::fullText, BAD, g -> g.type(256));
    }

    @Says(promise = 4, words = "-10 less FAULT: nothing changes.")
    static void house() {
        refused("house()", RefusedTest::lived, -20, GhostRooms::house);
        String[] faulty = {";", "p1 9;p1 9;r0;r1;r1;d0 1;d0 2;b0 2;b1 2;w0 2;w1 0;x1 0 9;x0 2 9;", "r9;", "r9;r9;d0 1;",
            "p0 9;p0 9;p0 9;r9;r9;r9;x0 0 0;", "r9;r9;r9;d0 2;"};
        for (String text : faulty) {
            Supplier<GhostRooms> life = () -> {
                GhostRooms g = lived();
                g.clear();
                Edges.type(g, text + "q");
                return g;
            };
            refused("house() of " + text + "q", life, text.equals(";") ? -10 : -10 - text.length(), GhostRooms::house);
        }
    }

    @Says(promise = 5, words = "BAD.")
    static void person() {
        badNumbers("person(p, 0)", PEOPLE, (g, p) -> g.person(p, 0));
        badNumbers("person(0, what)", 7, (g, what) -> g.person(0, what));
    }

    @Says(promise = 6, words = "BAD.")
    static void room() {
        badNumbers("room(r, 0)", ROOMS, (g, r) -> g.room(r, 0));
        badNumbers("room(0, what)", 5, (g, what) -> g.room(0, what));
    }

    @Says(promise = 7, words = "BAD.")
    static void right() {
        badNumbers("right(i, 0)", 3, (g, i) -> g.right(i, 0));
        badNumbers("right(0, what)", 3, (g, what) -> g.right(0, what));
    }

    @Says(promise = 8, words = "BAD.")
    static void now() {
        badNumbers("now", 5, GhostRooms::now);
    }

    @Says(promise = 9, words = "STATE: it is DAY 99.")
    static void day() {
        refused("day()", RefusedTest::lastDay, STATE, GhostRooms::day);
    }

    @Says(promise = 10, words = "BAD; STATE: he is dead.")
    static void dies() {
        badNumbers("dies", PEOPLE, GhostRooms::dies);
        refused("dies(1)", RefusedTest::lived, STATE, g -> g.dies(1));
    }

    @Says(promise = 11, words = "BAD; FULL.")
    static void grants() {
        badNumbers("grants(p, 0, 0)", PEOPLE, (g, p) -> g.grants(p, 0, 0));
        badNumbers("grants(0, r, 0)", ROOMS, (g, r) -> g.grants(0, r, 0));
        badNumbers("grants(0, 0, until)", 100, (g, until) -> g.grants(0, 0, until));
        refused("grants(0, 0, 0)", RefusedTest::full, FULL, g -> g.grants(0, 0, 0));
        refused("grants(0, 0, 100), BAD first", RefusedTest::full, BAD, g -> g.grants(0, 0, 100));
    }

    @Says(promise = 12, words = "BAD (alike, too).")
    static void exchanges() {
        badNumbers("exchanges(a, 0)", ROOMS, (g, a) -> g.exchanges(a, 0));
        badNumbers("exchanges(0, b)", ROOMS, (g, b) -> g.exchanges(0, b));
        bad("exchanges(0, 0)", g -> g.exchanges(0, 0));
        bad("exchanges(2, 2)", g -> g.exchanges(2, 2));
    }

    @Says(promise = 13, words = "BAD.")
    static void wills() {
        badNumbers("wills(p, 0)", PEOPLE, (g, p) -> g.wills(p, 0));
        badNumbers("wills(0, heir)", 10, (g, heir) -> g.wills(0, heir));
        for (int heir = 6; heir <= 8; heir++) {
            int other = heir;
            bad("wills(0, " + heir + ")", g -> g.wills(0, other));
        }
    }

    @Says(promise = 14, words = "STATE: none.")
    static void undo() {
        refused("undo()", RefusedTest::broughtBack, STATE, GhostRooms::undo);
    }

    @Says(promise = 15, words = "BAD.")
    static void fromWhen() {
        badNumbers("fromWhen", PEOPLE, GhostRooms::fromWhen);
    }

    @Says(promise = 16, words = "BAD; STATE: he is dead.")
    static void needs() {
        badNumbers("needs", PEOPLE, GhostRooms::needs);
        refused("needs(1)", RefusedTest::lived, STATE, g -> g.needs(1));
    }

    @Says(promise = 17, words = "BAD; STATE: he is dead.")
    static void opens() {
        badNumbers("opens", PEOPLE, GhostRooms::opens);
        refused("opens(1)", RefusedTest::lived, STATE, g -> g.opens(1));
    }

    @Says(promise = 20, words = "BAD.")
    static void dinner() {
        badNumbers("dinner(a, 0)", ROOMS, (g, a) -> g.dinner(a, 0));
        badNumbers("dinner(0, b)", ROOMS, (g, b) -> g.dinner(0, b));
    }

    @Says(promise = 21, words = "BAD; FULL.")
    static void seen() {
        badNumbers("seen(p, 0, 0)", PEOPLE, (g, p) -> g.seen(p, 0, 0));
        badNumbers("seen(0, r, 0)", ROOMS, (g, r) -> g.seen(0, r, 0));
        badNumbers("seen(0, 0, may)", 2, (g, may) -> g.seen(0, 0, may));
        refused("seen(0, 0, 0)", RefusedTest::full, FULL, g -> g.seen(0, 0, 0));
        refused("seen(0, 0, 2), BAD first", RefusedTest::full, BAD, g -> g.seen(0, 0, 2));
    }

    @Says(promise = 23, words = "BAD.")
    static void said() {
        badNumbers("said", PEOPLE, GhostRooms::said);
    }

    @Says(promise = 24, words = "BAD; STATE: he is dead.")
    static void last() {
        badNumbers("last", PEOPLE, GhostRooms::last);
        refused("last(1)", RefusedTest::lived, STATE, g -> g.last(1));
    }

    @Says(promise = 25, words = "BAD; STATE: he is dead.")
    static void waits() {
        badNumbers("waits(p, 0)", PEOPLE, (g, p) -> g.waits(p, 0));
        badNumbers("waits(0, r)", ROOMS, (g, r) -> g.waits(0, r));
        badNumbers("waits(1, r), BAD first", ROOMS, (g, r) -> g.waits(1, r));
        refused("waits(1, 0)", RefusedTest::lived, STATE, g -> g.waits(1, 0));
    }

    @Says(promise = 26, words = "BAD; STATE: he is dead.")
    static void odds() {
        badNumbers("odds(p, 0, 0)", PEOPLE, (g, p) -> g.odds(p, 0, 0));
        badNumbers("odds(0, x, 0)", 11, (g, x) -> g.odds(0, x, 0));
        badNumbers("odds(0, 0, what)", 2, (g, what) -> g.odds(0, 0, what));
        badNumbers("odds(1, x, 0), BAD first", 11, (g, x) -> g.odds(1, x, 0));
        badNumbers("odds(1, 0, what), BAD first", 2, (g, what) -> g.odds(1, 0, what));
        refused("odds(1, 0, 0)", RefusedTest::lived, STATE, g -> g.odds(1, 0, 0));
    }

    @Says(promise = 27, words = "NO: BAD.")
    static void rate() {
        for (int kind : Edges.outside(6)) {
            refused("rate(" + kind + ", 0)", RefusedTest::lived, NO, g -> g.rate(kind, 0));
        }
        for (int r : Edges.outside(ROOMS)) {
            for (int kind = 0; kind < 6; kind++) {
                int asked = kind;
                refused("rate(" + kind + ", " + r + ")", RefusedTest::lived, NO, g -> g.rate(asked, r));
            }
        }
    }

    @Says(promise = 28, words = "BAD.")
    static void keep() {
        badNumbers("keep", 2, GhostRooms::keep);
    }

    @Says(promise = 29, words = "BAD; STATE: none was kept.")
    static void back() {
        badNumbers("back", 2, GhostRooms::back);
        refused("back(1)", RefusedTest::lived, STATE, g -> g.back(1));
    }

    @Says(promise = 30, words = "BAD.")
    static void count() {
        badNumbers("count", 4, GhostRooms::count);
    }

    @Says(terms = 3, words = "(Nothing is changed.)")
    static void questions() {
        List<Supplier<GhostRooms>> lives = List.of(RefusedTest::lived, RefusedTest::full, RefusedTest::lastDay);
        for (Supplier<GhostRooms> life : lives) {
            unchanged("exchange()", life, GhostRooms::exchange);
            unchanged("holdsOut()", life, GhostRooms::holdsOut);
            unchanged("trace()", life, g -> (int) g.trace());
            unchanged("all questions", life, g -> askAll(g).size());
            for (int p = 0; p < PEOPLE; p++) {
                int who = p;
                unchanged("fromWhen(" + p + ")", life, g -> g.fromWhen(who));
                unchanged("needs(" + p + ")", life, g -> g.needs(who));
                unchanged("opens(" + p + ")", life, g -> g.opens(who));
                unchanged("said(" + p + ")", life, g -> g.said(who));
                unchanged("last(" + p + ")", life, g -> g.last(who));
                unchanged("waits(" + p + ", 0)", life, g -> g.waits(who, 0));
                unchanged("odds(" + p + ", 5, 0)", life, g -> g.odds(who, 5, 0));
                unchanged("dinner(" + p + ", 1)", life, g -> g.dinner(who, 1));
            }
        }
    }

    @Says(terms = 4, words = "Refused, and nothing changes, the first of these: BAD (a number is not as told, or there is no such"
        + " thing), STATE (as told), FULL.")
    static void manyRefusedOnes() {
        unchanged("many refused ones", RefusedTest::full, g -> {
            for (int number : Edges.outside(100)) {
                g.type(number > 0 ? number + 256 : number);
                g.dies(number);
                g.grants(number, number, number);
                g.exchanges(number, number);
                g.wills(number, number);
                g.seen(number, number, number);
                g.keep(number);
                g.back(number);
                g.rate(number, number);
            }
            return g.dies(1) + g.grants(0, 0, 0) + g.seen(0, 0, 0) + g.back(1) + g.house();
        });
    }
}

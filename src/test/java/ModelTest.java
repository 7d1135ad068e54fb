import java.util.ArrayDeque;
import java.util.ArrayList;
import java.util.Arrays;
import java.util.Deque;
import java.util.HashSet;
import java.util.LinkedHashSet;
import java.util.List;
import java.util.Random;
import java.util.Set;
import java.util.function.Predicate;
import java.util.regex.Matcher;
import java.util.regex.Pattern;

/** Runs of calls, the same ones each time, on the class and on a slow model written from the document alone. */
public final class ModelTest {
    private static final int RUNS = 3000, CALLS = 512, MOST_TOLD = 20;
    private static final String[] NAMES = {"type", "clear", "house", "person", "room", "right", "now", "day", "dies",
        "grants", "exchanges", "wills", "undo", "fromWhen", "needs", "opens", "exchange", "holdsOut", "dinner", "seen",
        "forget", "said", "last", "waits", "odds", "rate", "keep", "back", "count", "trace"};

    public static void main(String[] args) {
        int wrong = 0;
        long[] answered = new long[NAMES.length];
        for (int run = 0; run < RUNS && wrong < MOST_TOLD; run++) {
            wrong += playRun(run, answered);
        }
        for (int call = 0; call < NAMES.length; call++) {
            if (answered[call] == 0) {
                wrong++;
                System.out.println(NAMES[call] + " was never answered with more than 0");
            }
        }
        System.out.println(wrong == 0 ? "class and model answer alike" : wrong + " answers differ");
        if (wrong != 0) {
            System.exit(1);
        }
    }

    private static int playRun(int run, long[] answered) {
        Random random = new Random(run);
        GhostRooms g = new GhostRooms();
        Model m = new Model();
        StringBuilder told = new StringBuilder();
        String text = "";
        int letter = 0;
        for (int n = 0; n < CALLS; n++) {
            int[] a = new int[4];
            if (letter < text.length()) {
                a[1] = text.charAt(letter);
                letter++;
            } else if (letter == text.length() && letter > 0) {
                a[0] = 2;
                letter++;
            } else if (n == 0 || random.nextInt(120) == 0) {
                text = randomText(random);
                letter = 0;
                a[0] = 1;
            } else {
                a[0] = 1 + random.nextInt(NAMES.length - 1);
                // Seldom an empty text or a letter of no text: else most houses would be empty.
                a[0] = a[0] <= 2 && random.nextInt(20) != 0 ? 3 : a[0];
                for (int i = 1; i <= 3; i++) {
                    a[i] = randomArgument(random, NAMES[a[0]], i);
                }
            }
            told.append(NAMES[a[0]]).append(Arrays.toString(Arrays.copyOfRange(a, 1, 4))).append(' ');
            long got = ask(g, a);
            long due = m.ask(a);
            if (got != due) {
                System.out.println("run " + run + ": " + told + "answered " + got + ", due is " + due);
                return 1;
            }
            answered[a[0]] += got > 0 ? 1 : 0;
        }
        return 0;
    }

    private static int randomArgument(Random random, String call, int i) {
        if (random.nextInt(100) == 0) {
            return new int[] {Integer.MIN_VALUE, Integer.MAX_VALUE, -1, 31, 32, 64, 100, 256}[random.nextInt(8)];
        }
        boolean isFlag = call.equals("keep") || call.equals("back") || i == 3 && !call.equals("grants");
        if (isFlag) {
            return random.nextInt(10) == 0 ? 2 : random.nextInt(2);
        }
        boolean isWide = random.nextInt(8) == 0 || call.equals("odds") && i == 2;
        return random.nextInt(isWide ? 12 : 5);
    }

    private static String randomText(Random random) {
        StringBuilder text = new StringBuilder();
        int people = random.nextInt(9) == 0 ? random.nextInt(7) : 3 + random.nextInt(4);
        int rooms = random.nextInt(9) == 0 ? random.nextInt(8) : 4 + random.nextInt(4);
        for (int p = 0; p < people; p++) {
            text.append("p").append(random.nextInt(5) == 0 ? 0 : 1).append(' ');
            text.append(random.nextInt(4) == 0 ? 9 : random.nextInt(6)).append(';');
        }
        for (int r = 0; r < rooms; r++) {
            text.append("r").append(people == 0 || random.nextInt(5) == 0 ? 9 : random.nextInt(people)).append(';');
        }
        int items = 5 + random.nextInt(30);
        for (int i = 0; i < items && text.length() < 185; i++) {
            int sort = random.nextInt(8);
            if (sort > 3 && rooms > 1) {
                int a = random.nextInt(rooms);
                text.append("d").append(a).append(' ').append((a + 1 + random.nextInt(rooms - 1)) % rooms).append(';');
            } else if (people > 0 && rooms > 0) {
                char letter = "xbww".charAt(sort % 4);
                text.append(letter).append(random.nextInt(people)).append(' ').append(random.nextInt(rooms));
                if (letter == 'x') {
                    text.append(' ').append(random.nextInt(9) == 0 ? 99 : random.nextInt(8));
                }
                text.append(';');
            }
        }
        while (random.nextInt(6) == 0) {
            spoil(text, random);
        }
        return text.toString();
    }

    private static void spoil(StringBuilder text, Random random) {
        String letters = "  prdbwx;0123456789q";
        char letter = letters.charAt(random.nextInt(letters.length()));
        int place = random.nextInt(text.length() + 1);
        if (random.nextInt(3) > 0 || place == text.length()) {
            text.insert(place, letter);
        } else {
            text.setCharAt(place, letter);
        }
    }

    private static long ask(GhostRooms g, int[] a) {
        switch (NAMES[a[0]]) {
            case "type": return g.type(a[1]);
            case "clear": return g.clear();
            case "house": return g.house();
            case "person": return g.person(a[1], a[2]);
            case "room": return g.room(a[1], a[2]);
            case "right": return g.right(a[1], a[2]);
            case "now": return g.now(a[1]);
            case "day": return g.day();
            case "dies": return g.dies(a[1]);
            case "grants": return g.grants(a[1], a[2], a[3]);
            case "exchanges": return g.exchanges(a[1], a[2]);
            case "wills": return g.wills(a[1], a[2]);
            case "undo": return g.undo();
            case "fromWhen": return g.fromWhen(a[1]);
            case "needs": return g.needs(a[1]);
            case "opens": return g.opens(a[1]);
            case "exchange": return g.exchange();
            case "holdsOut": return g.holdsOut();
            case "dinner": return g.dinner(a[1], a[2]);
            case "seen": return g.seen(a[1], a[2], a[3]);
            case "forget": return g.forget();
            case "said": return g.said(a[1]);
            case "last": return g.last(a[1]);
            case "waits": return g.waits(a[1], a[2]);
            case "odds": return g.odds(a[1], a[2], a[3]);
            case "rate": return g.rate(a[1], a[2]);
            case "keep": return g.keep(a[1]);
            case "back": return g.back(a[1]);
            case "count": return g.count(a[1]);
            default: return g.trace();
        }
    }

    private record Right(int who, int where, int until) { }

    private record Sight(int who, int where, boolean may) { }

    /** What an image keeps; each change makes another one. */
    private record State(int day, Set<Integer> alive, List<Integer> heirs, List<Integer> left, List<Right> rights) {
        State onDay(int other) {
            return new State(other, alive, heirs, left, rights);
        }

        State without(Set<Integer> dead) {
            Set<Integer> rest = new HashSet<>(alive);
            rest.removeAll(dead);
            return new State(day, rest, heirs, left, rights);
        }

        State willed(int p, int heir) {
            List<Integer> other = new ArrayList<>(heirs);
            other.set(p, heir);
            return new State(day, alive, other, left, rights);
        }

        State exchanged(int a, int b) {
            List<Integer> other = new ArrayList<>(left);
            other.set(a, left.get(b));
            other.set(b, left.get(a));
            return new State(day, alive, heirs, other, rights);
        }

        State withRights(List<Right> other) {
            return new State(day, alive, heirs, left, other);
        }

        State granted(Right right) {
            List<Right> other = new ArrayList<>(rights);
            other.add(right);
            return withRights(other);
        }
    }

    private static final class Fault extends Exception {
        private static final long serialVersionUID = 1L;
        final int place;

        Fault(int place) {
            super(null, null, false, false);
            this.place = place;
        }
    }

    private static final class Model {
        private static final int BAD = -1, STATE = -2, FULL = -3, NONE = -9, NO = -1000000;

        private String text = "";
        private State s = new State(0, Set.of(), List.of(), List.of(), List.of());
        private Set<Set<Integer>> doors = new HashSet<>();
        private Integer[] beds = new Integer[6];
        private List<Set<Integer>> wants = List.of();
        private List<State> past = new ArrayList<>();
        private List<Sight> sights = new ArrayList<>();
        private State[] images = new State[2];
        private long trace = 0;

        long ask(int[] c) {
            int a = c[1];
            int b = c[2];
            int d = c[3];
            switch (NAMES[c[0]]) {
                case "type":
                    if (a < 0 || a > 255) return BAD;
                    if (text.length() == 200) return FULL;
                    text += (char) a;
                    return text.length();
                case "clear": {
                    int had = text.length();
                    text = "";
                    return had;
                }
                case "house":
                    try {
                        return read();
                    } catch (Fault fault) {
                        return -10 - fault.place;
                    }
                case "person": return isPerson(a) ? person(a, b) : BAD;
                case "room": return isRoom(a) ? room(a, b) : BAD;
                case "right":
                    if (a < 0 || a >= s.rights.size() || b < 0 || b > 2) return BAD;
                    Right right = s.rights.get(a);
                    return b == 0 ? right.who : b == 1 ? right.where : right.until;
                case "now":
                    if (a < 0 || a > 4) return BAD;
                    return List.of(s.day, bits(s.alive), bits(cutOff(s)), s.rights.size(), past.size()).get(a);
                case "day":
                    if (s.day == 99) return STATE;
                    become(s.onDay(s.day + 1));
                    return s.day;
                case "dies":
                    if (!isPerson(a)) return BAD;
                    if (!s.alive.contains(a)) return STATE;
                    become(s.without(Set.of(a)));
                    return s.alive.size();
                case "grants":
                    if (!isPerson(a) || !isRoom(b) || d < 0 || d > 99) return BAD;
                    if (s.rights.size() == 10) return FULL;
                    become(s.granted(new Right(a, b, d)));
                    return s.rights.size();
                case "exchanges":
                    if (!isRoom(a) || !isRoom(b) || a == b) return BAD;
                    become(s.exchanged(a, b));
                    return s.left.get(a);
                case "wills": {
                    if (!isPerson(a) || !Set.of(0, 1, 2, 3, 4, 5, 9).contains(b)) return BAD;
                    int was = s.heirs.get(a);
                    become(s.willed(a, b));
                    return was;
                }
                case "undo":
                    if (past.isEmpty()) return STATE;
                    s = past.remove(past.size() - 1);
                    return past.size();
                case "fromWhen": return isPerson(a) ? fromWhen(a) : BAD;
                case "needs": return refused(a) != 0 ? refused(a) : needs(a);
                case "opens": return refused(a) != 0 ? refused(a) : opens(a);
                case "exchange": return exchange();
                case "holdsOut": return holdsOut();
                case "dinner": return isRoom(a) && isRoom(b) ? dinner(a, b) : BAD;
                case "seen":
                    if (!isPerson(a) || !isRoom(b) || d < 0 || d > 1) return BAD;
                    if (sights.size() == 5) return FULL;
                    sights.add(new Sight(a, b, d == 1));
                    return sights.size();
                case "forget": {
                    int had = sights.size();
                    sights.clear();
                    return had;
                }
                case "said": return isPerson(a) ? said(a) : BAD;
                case "last": return refused(a) != 0 ? refused(a) : last(a);
                case "waits": return !isRoom(b) ? BAD : refused(a) != 0 ? refused(a) : waits(a, b);
                case "odds":
                    if (b < 0 || b > 10 || d < 0 || d > 1) return BAD;
                    return refused(a) != 0 ? refused(a) : odds(a, b)[d];
                case "rate": return a < 0 || a > 5 || !isRoom(b) ? NO : rate(a, b);
                case "keep":
                    if (a < 0 || a > 1) return BAD;
                    images[a] = s;
                    return s.day;
                case "back":
                    if (a < 0 || a > 1) return BAD;
                    if (images[a] == null) return STATE;
                    s = images[a];
                    past.clear();
                    return s.day;
                case "count":
                    if (a < 0 || a > 3) return BAD;
                    return List.of(s.heirs.size(), s.left.size(), sights.size(), text.length()).get(a);
                default: return trace;
            }
        }

        private boolean isPerson(int p) {
            return p >= 0 && p < s.heirs.size();
        }

        private boolean isRoom(int r) {
            return r >= 0 && r < s.left.size();
        }

        private int refused(int p) {
            return !isPerson(p) ? BAD : !s.alive.contains(p) ? STATE : 0;
        }

        private void become(State other) {
            past.add(s);
            if (past.size() > 10) {
                past.remove(0);
            }
            s = other;
        }

        private static int bits(Set<Integer> set) {
            int sum = 0;
            for (int element : set) {
                sum += Math.round(Math.pow(2, element));
            }
            return sum;
        }

        private static Set<Integer> setOf(int bits) {
            Set<Integer> set = new LinkedHashSet<>();
            for (int i = 0; i < 7; i++) {
                if ((bits & 1 << i) != 0) {
                    set.add(i);
                }
            }
            return set;
        }

        // ---- reading

        private int read() throws Fault {
            Matcher tokens = Pattern.compile("[0-9]+|[^ ]", Pattern.DOTALL).matcher(text);
            int people = 0;
            int items = 0;
            Set<Integer> alive = new HashSet<>();
            List<Integer> heirs = new ArrayList<>();
            List<Integer> left = new ArrayList<>();
            List<Right> rights = new ArrayList<>();
            Set<Set<Integer>> newDoors = new HashSet<>();
            Integer[] newBeds = new Integer[6];
            List<Set<Integer>> newWants = new ArrayList<>();
            while (tokens.find()) {
                List<Integer> none = List.of(9);
                List<Integer> known = upTo(people);
                List<Integer> rooms = upTo(left.size());
                List<Integer> heirsToBe = List.of(0, 1, 2, 3, 4, 5, 9);
                int at = tokens.start();
                switch (tokens.group()) {
                    case "p": {
                        if (people == 6) throw new Fault(at);
                        if (number(tokens, List.of(0, 1)) == 1) alive.add(people);
                        heirs.add(number(tokens, heirsToBe));
                        newWants.add(new HashSet<>());
                        people++;
                        break;
                    }
                    case "r": {
                        if (left.size() == 7) throw new Fault(at);
                        List<Integer> to = new ArrayList<>(known);
                        to.addAll(none);
                        left.add(number(tokens, to));
                        break;
                    }
                    case "d": {
                        int a = number(tokens, rooms);
                        List<Integer> others = new ArrayList<>(rooms);
                        others.remove((Integer) a);
                        newDoors.add(Set.of(a, number(tokens, others)));
                        break;
                    }
                    case "b": newBeds[number(tokens, known)] = number(tokens, rooms); break;
                    case "w": newWants.get(number(tokens, known)).add(number(tokens, rooms)); break;
                    case "x":
                        if (rights.size() == 10) throw new Fault(at);
                        rights.add(new Right(number(tokens, known), number(tokens, rooms), number(tokens, upTo(100))));
                        break;
                    default: throw new Fault(at);
                }
                if (!tokens.find()) throw new Fault(text.length());
                if (!tokens.group().equals(";")) throw new Fault(tokens.start());
                items++;
            }
            s = new State(0, alive, heirs, left, rights);
            doors = newDoors;
            beds = newBeds;
            wants = newWants;
            text = "";
            past.clear();
            sights.clear();
            images = new State[2];
            return items;
        }

        private static List<Integer> upTo(int end) {
            List<Integer> all = new ArrayList<>();
            for (int i = 0; i < end; i++) {
                all.add(i);
            }
            return all;
        }

        private int number(Matcher tokens, List<Integer> allowed) throws Fault {
            if (!tokens.find()) throw new Fault(text.length());
            for (int number : allowed) {
                if (tokens.group().equals(Integer.toString(number))) {
                    return number;
                }
            }
            throw new Fault(tokens.start());
        }

        // ---- what is so

        /** Those a room goes through; the owner is the last, or null if there is none. */
        private List<Integer> line(State at, int r) {
            List<Integer> line = new ArrayList<>();
            Integer who = at.left.get(r);
            while (true) {
                if (who >= at.heirs.size() || line.contains(who)) {
                    line.add(null);
                    return line;
                }
                line.add(who);
                if (at.alive.contains(who)) {
                    return line;
                }
                who = at.heirs.get(who);
            }
        }

        private Integer owner(State at, int r) {
            List<Integer> line = line(at, r);
            return line.get(line.size() - 1);
        }

        private boolean may(State at, int p, int r) {
            if (!at.alive.contains(p)) {
                return false;
            }
            boolean owns = owner(at, r) != null && owner(at, r) == p;
            boolean sleeps = beds[p] != null && beds[p] == r;
            boolean allowed = at.rights.stream().anyMatch(x -> x.who == p && x.where == r && x.until >= at.day);
            return owns || sleeps || allowed;
        }

        /** How many doors from a room through good ones; those that are not reached are -1. */
        private int[] distances(Integer from, Predicate<Integer> good) {
            int[] distance = new int[7];
            Arrays.fill(distance, -1);
            Deque<Integer> queue = new ArrayDeque<>();
            if (from != null && good.test(from)) {
                distance[from] = 0;
                queue.add(from);
            }
            while (!queue.isEmpty()) {
                int room = queue.remove();
                for (int next = 0; next < s.left.size(); next++) {
                    if (next != room && distance[next] < 0 && doors.contains(Set.of(room, next)) && good.test(next)) {
                        distance[next] = distance[room] + 1;
                        queue.add(next);
                    }
                }
            }
            return distance;
        }

        private Set<Integer> goes(State at, int p, Set<Integer> more) {
            int[] distance = distances(beds[p], r -> may(at, p, r) || more.contains(r));
            Set<Integer> reached = new HashSet<>();
            for (int r = 0; r < 7; r++) {
                if (distance[r] >= 0) {
                    reached.add(r);
                }
            }
            return reached;
        }

        private boolean isCutOff(State at, int p) {
            return at.alive.contains(p) && !goes(at, p, Set.of()).containsAll(wants.get(p));
        }

        private Set<Integer> cutOff(State at) {
            Set<Integer> all = new HashSet<>();
            for (int p = 0; p < at.heirs.size(); p++) {
                if (isCutOff(at, p)) {
                    all.add(p);
                }
            }
            return all;
        }

        private int person(int p, int what) {
            switch (what) {
                case 0: return s.alive.contains(p) ? 1 : 0;
                case 1: return s.heirs.get(p);
                case 2: return beds[p] == null ? NONE : beds[p];
                case 3: return bits(wants.get(p));
                case 4: return bits(goes(s, p, Set.of()));
                case 5: return isCutOff(s, p) ? 1 : 0;
                case 6: {
                    int sum = 0;
                    for (int r = 0; r < s.left.size(); r++) {
                        sum += may(s, p, r) ? 1 << r : 0;
                    }
                    return sum;
                }
                default: return BAD;
            }
        }

        private int room(int r, int what) {
            List<Integer> line = line(s, r);
            switch (what) {
                case 0: return s.left.get(r);
                case 1: return owner(s, r) == null ? NONE : owner(s, r);
                case 2: return s.left.get(r) == 9 ? 0 : owner(s, r) == null ? NONE : line.size() - 1;
                case 3: {
                    int sum = 0;
                    for (int other = 0; other < s.left.size(); other++) {
                        sum += other != r && doors.contains(Set.of(r, other)) ? 1 << other : 0;
                    }
                    return sum;
                }
                case 4: {
                    int sum = 0;
                    for (int p = 0; p < s.heirs.size(); p++) {
                        sum += may(s, p, r) ? 1 << p : 0;
                    }
                    return sum;
                }
                default: return BAD;
            }
        }

        // ---- what would be

        private int fromWhen(int p) {
            for (int day = s.day; day <= 99; day++) {
                if (isCutOff(s.onDay(day), p)) {
                    return day;
                }
            }
            return NONE;
        }

        private int least(int count, Predicate<Set<Integer>> good) {
            for (int size = 0; size <= count; size++) {
                for (int set = 0; set < 1 << count; set++) {
                    if (setOf(set).size() == size && good.test(setOf(set))) {
                        return set;
                    }
                }
            }
            return NONE;
        }

        private int needs(int p) {
            return least(s.left.size(), set -> goes(s, p, set).containsAll(wants.get(p)));
        }

        private int opens(int p) {
            int sum = 0;
            for (int other : s.alive) {
                boolean opened = other != p && isCutOff(s, p) && !isCutOff(s.without(Set.of(other)), p);
                sum += opened ? 1 << other : 0;
            }
            return sum;
        }

        private int exchange() {
            int best = NONE;
            int fewest = cutOff(s).size();
            for (int pair = 0; pair <= 66; pair++) {
                int a = pair / 10;
                int b = pair % 10;
                if (a < b && isRoom(b) && cutOff(s.exchanged(a, b)).size() < fewest) {
                    best = pair;
                    fewest = cutOff(s.exchanged(a, b)).size();
                }
            }
            return best;
        }

        private int holdsOut() {
            int sum = 0;
            for (int r = 0; r < s.left.size(); r++) {
                int room = r;
                State without = s.withRights(s.rights.stream().filter(x -> x.where != room).toList());
                sum += cutOff(without).size() > cutOff(s).size() ? 1 << r : 0;
            }
            return sum;
        }

        private int dinner(int a, int b) {
            int doorsBetween = distances(a, r -> s.alive.stream().anyMatch(p -> may(s, p, r)))[b];
            return doorsBetween < 0 ? NONE : doorsBetween;
        }

        private int said(int p) {
            int sum = 0;
            for (int heir : new int[] {0, 1, 2, 3, 4, 5, 9}) {
                State at = s.willed(p, heir);
                boolean fits = sights.stream().allMatch(x -> may(at, x.who, x.where) == x.may);
                sum += fits ? 1 << Math.min(heir, 6) : 0;
            }
            return sum;
        }

        private int last(int p) {
            State alone = new State(s.day, Set.of(p), s.heirs, s.left, s.rights);
            int rooms = 0;
            for (int r = 0; r < s.left.size(); r++) {
                rooms += owner(alone, r) != null ? 1 : 0;
            }
            return rooms;
        }

        private int waits(int p, int r) {
            return least(s.heirs.size(), dead -> s.alive.containsAll(dead) && !dead.contains(p)
                && owner(s.without(dead), r) != null && owner(s.without(dead), r) == p);
        }

        private int[] odds(int p, int x) {
            int upper = 0;
            int lower = 1;
            for (int n = 1; n < s.alive.size(); n++) {
                lower *= 10;
            }
            for (int set = 0; set < 64; set++) {
                Set<Integer> dead = setOf(set);
                if (!s.alive.containsAll(dead) || dead.contains(p) || isCutOff(s.without(dead), p)) {
                    continue;
                }
                int weight = 1;
                for (int other : s.alive) {
                    weight *= other == p ? 1 : dead.contains(other) ? x : 10 - x;
                }
                upper += weight;
            }
            for (int divisor : new int[] {2, 5}) {
                while (upper != 0 && upper % divisor == 0 && lower % divisor == 0) {
                    upper /= divisor;
                    lower /= divisor;
                }
            }
            return new int[] {upper, upper == 0 ? 1 : lower};
        }

        private int rate(int kind, int r) {
            int[] above = {-1, 0, 0, 1, 2, 0};
            int[] mark = {1, 10, 100, 1000, 10000, 100000};
            trace += mark[kind];
            int up = kind == 0 ? 0 : rate(above[kind], r);
            switch (kind) {
                case 0: return setOf(room(r, 3)).size();
                case 1: return up + setOf(room(r, 4)).size();
                case 2: return up - (int) s.rights.stream().filter(x -> x.where == r).count();
                case 3: return 2 * up;
                case 4: return up + r;
                default: return up + s.day;
            }
        }
    }
}

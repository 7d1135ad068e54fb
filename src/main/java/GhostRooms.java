/** A house half of whose people are dead: whose its rooms are, who may go where, who is cut off. */
public final class GhostRooms {
    public static final int BAD = -1, STATE = -2, FULL = -3, NONE = -9;
    public static final int NO = -1000000;

    private static final int MOST_PEOPLE = 6, MOST_ROOMS = 7, MOST_RIGHTS = 10;
    private static final int MOST_LETTERS = 200, MOST_DEEDS = 10, MOST_SEEN = 5, IMAGES = 2;
    private static final int LAST_DAY = 99, LAST_LETTER = 255, NOBODY = 9, NO_ROOMS = 0, TENTHS = 10;

    private final Reader reader = new Reader();
    private final Deeds deeds = new Deeds();
    private final Seen seen = new Seen();
    private final Rates rates = new Rates();
    private final Now[] images = new Now[IMAGES];
    private int imagesKept;
    private House house = new House();
    // A text is read into this one, so that a fault leaves the other as it is.
    private House spare = new House();

    public GhostRooms() {
        for (int image = 0; image < IMAGES; image++) {
            images[image] = new Now();
        }
    }

    // ---- the house

    public int type(int letter) {
        if (letter < 0 || letter > LAST_LETTER) {
            return BAD;
        }
        return reader.text.add(letter) ? reader.text.length : FULL;
    }

    public int clear() {
        int had = reader.text.length;
        reader.text.length = 0;
        return had;
    }

    public int house() {
        int items = reader.readInto(spare);
        if (items < 0) {
            return items;
        }
        House old = house;
        house = spare;
        spare = old;
        reader.text.length = 0;
        seen.size = 0;
        deeds.size = 0;
        imagesKept = 0;
        return items;
    }

    public int person(int p, int what) {
        if (!house.isPerson(p)) {
            return BAD;
        }
        switch (what) {
            case 0: return house.lives(p) ? 1 : 0;
            case 1: return house.now.heirs[p];
            case 2: return house.beds[p];
            case 3: return house.wants[p];
            case 4: return house.reach(p, house.mayNow(p));
            case 5: return house.isCutOff(p, house.now.alive, house.now.day, NO_ROOMS) ? 1 : 0;
            case 6: return house.mayNow(p);
            default: return BAD;
        }
    }

    public int room(int r, int what) {
        if (!house.isRoom(r)) {
            return BAD;
        }
        switch (what) {
            case 0: return house.now.left[r];
            case 1: return house.owner(r, house.now.alive);
            case 2: return house.chain(r);
            case 3: return house.doors[r];
            case 4: return house.whoMay(r);
            default: return BAD;
        }
    }

    public int right(int i, int what) {
        if (i < 0 || i >= house.now.rights) {
            return BAD;
        }
        switch (what) {
            case 0: return house.now.holders[i];
            case 1: return house.now.places[i];
            case 2: return house.now.tills[i];
            default: return BAD;
        }
    }

    public int now(int what) {
        switch (what) {
            case 0: return house.now.day;
            case 1: return house.now.alive;
            case 2: return house.cutOff(NO_ROOMS);
            case 3: return house.now.rights;
            case 4: return deeds.size;
            default: return BAD;
        }
    }

    // ---- what is done

    public int day() {
        if (house.now.day >= LAST_DAY) {
            return STATE;
        }
        house.now.day++;
        deeds.add(Deeds.DAY, 0, 0);
        return house.now.day;
    }

    public int dies(int p) {
        if (!house.isPerson(p)) {
            return BAD;
        }
        if (!house.lives(p)) {
            return STATE;
        }
        house.now.alive &= ~(1 << p);
        deeds.add(Deeds.DEATH, p, 0);
        return Integer.bitCount(house.now.alive);
    }

    public int grants(int p, int r, int until) {
        if (!house.isPerson(p) || !house.isRoom(r) || until < 0 || until > LAST_DAY) {
            return BAD;
        }
        if (house.now.rights >= MOST_RIGHTS) {
            return FULL;
        }
        house.now.addRight(p, r, until);
        deeds.add(Deeds.RIGHT, 0, 0);
        return house.now.rights;
    }

    public int exchanges(int a, int b) {
        if (!house.isRoom(a) || !house.isRoom(b) || a == b) {
            return BAD;
        }
        house.now.swap(a, b);
        deeds.add(Deeds.EXCHANGE, a, b);
        return house.now.left[a];
    }

    public int wills(int p, int heir) {
        if (!house.isPerson(p) || !House.canBeHeir(heir)) {
            return BAD;
        }
        int was = house.now.heirs[p];
        house.now.heirs[p] = heir;
        deeds.add(Deeds.WILL, p, was);
        return was;
    }

    public int undo() {
        if (deeds.size == 0) {
            return STATE;
        }
        deeds.takeBack(house.now);
        return deeds.size;
    }

    // ---- who can live

    public int fromWhen(int p) {
        return house.isPerson(p) ? Living.firstDayCutOff(house, p) : BAD;
    }

    public int needs(int p) {
        int refused = unlessAlive(p);
        return refused != 0 ? refused : Living.fewestRights(house, p);
    }

    public int opens(int p) {
        int refused = unlessAlive(p);
        return refused != 0 ? refused : Living.openers(house, p);
    }

    public int exchange() {
        return Living.bestExchange(house);
    }

    public int holdsOut() {
        return Living.roomsHeldByRight(house);
    }

    public int dinner(int a, int b) {
        return house.isRoom(a) && house.isRoom(b) ? Living.doorsBetween(house, a, b) : BAD;
    }

    // ---- wills, deaths

    public int seen(int p, int r, int may) {
        if (!house.isPerson(p) || !house.isRoom(r) || may < 0 || may > 1) {
            return BAD;
        }
        return seen.add(p, r, may) ? seen.size : FULL;
    }

    public int forget() {
        int had = seen.size;
        seen.size = 0;
        return had;
    }

    public int said(int p) {
        return house.isPerson(p) ? seen.heirsThatFit(house, p) : BAD;
    }

    public int last(int p) {
        int refused = unlessAlive(p);
        return refused != 0 ? refused : Integer.bitCount(house.owned(p, 1 << p));
    }

    public int waits(int p, int r) {
        if (!house.isRoom(r)) {
            return BAD;
        }
        int refused = unlessAlive(p);
        return refused != 0 ? refused : Deaths.fewestBefore(house, p, r);
    }

    public int odds(int p, int x, int what) {
        if (x < 0 || x > TENTHS || what < 0 || what > 1) {
            return BAD;
        }
        int refused = unlessAlive(p);
        return refused != 0 ? refused : Deaths.chance(house, p, x, what == 0);
    }

    // ---- kinds, images

    public int rate(int kind, int r) {
        if (!house.isRoom(r)) {
            return NO;
        }
        switch (kind) {
            case 0: return rates.asRoom(house, r);
            case 1: return rates.asHall(house, r);
            case 2: return rates.asStair(house, r);
            case 3: return rates.asAttic(house, r);
            case 4: return rates.asCellar(house, r);
            case 5: return rates.asBath(house, r);
            default: return NO;
        }
    }

    public int keep(int image) {
        if (image < 0 || image >= IMAGES) {
            return BAD;
        }
        images[image].copy(house.now);
        imagesKept |= 1 << image;
        return house.now.day;
    }

    public int back(int image) {
        if (image < 0 || image >= IMAGES) {
            return BAD;
        }
        if ((imagesKept >> image & 1) == 0) {
            return STATE;
        }
        house.now.copy(images[image]);
        deeds.size = 0;
        return house.now.day;
    }

    public int count(int what) {
        switch (what) {
            case 0: return house.people;
            case 1: return house.rooms;
            case 2: return seen.size;
            case 3: return reader.text.length;
            default: return BAD;
        }
    }

    public long trace() {
        return rates.trace;
    }

    /** How a call about one who is alive is refused; 0: it is not. */
    private int unlessAlive(int p) {
        if (!house.isPerson(p)) {
            return BAD;
        }
        return house.lives(p) ? 0 : STATE;
    }

    /** The letters told, and the tokens in them, one after another. */
    private static final class Text {
        static final int END = 0, SIGN = 1, NUMBER = 2, WRONG = 3;
        private static final int BLANK = 32, LAST_NUMBER = 99;

        private final int[] letters = new int[MOST_LETTERS];
        int length;
        // The token that next() came to: its sort, its first letter's place, its letter or number.
        int sort, start, value;
        private int end;

        boolean add(int letter) {
            if (length >= MOST_LETTERS) {
                return false;
            }
            letters[length] = letter;
            length++;
            return true;
        }

        void rewind() {
            end = 0;
        }

        void next() {
            while (end < length && letters[end] == BLANK) {
                end++;
            }
            start = end;
            if (end >= length) {
                sort = END;
            } else if (isDigitAt(end)) {
                takeNumber();
            } else {
                sort = SIGN;
                value = letters[end];
                end++;
            }
        }

        private void takeNumber() {
            value = 0;
            while (end < length && isDigitAt(end)) {
                // Beyond the last number it need not grow: it is wrong already.
                if (value <= LAST_NUMBER) {
                    value = value * 10 + letters[end] - '0';
                }
                end++;
            }
            boolean zeroAhead = letters[start] == '0' && end > start + 1;
            sort = zeroAhead || value > LAST_NUMBER ? WRONG : NUMBER;
        }

        private boolean isDigitAt(int place) {
            return letters[place] >= '0' && letters[place] <= '9';
        }
    }

    /** Reads the items of a text into a house. */
    private static final class Reader {
        private static final int FAULT = -10, MOST_NUMBERS = 3;

        final Text text = new Text();
        private final int[] numbers = new int[MOST_NUMBERS];

        /** How many items; -10 less the fault. */
        int readInto(House house) {
            house.empty();
            text.rewind();
            for (int items = 0; items <= MOST_LETTERS; items++) {
                text.next();
                if (text.sort == Text.END) {
                    return items;
                }
                if (!readItem(house)) {
                    break;
                }
            }
            return FAULT - text.start;
        }

        /** Whether an item begins with the text's token and goes on rightly; if not, that token is the fault. */
        private boolean readItem(House house) {
            if (text.sort != Text.SIGN || !hasPlaceFor(text.value, house)) {
                return false;
            }
            int sign = text.value;
            int count = howManyNumbers(sign);
            for (int i = 0; i < count; i++) {
                text.next();
                if (text.sort != Text.NUMBER || !fits(sign, i, text.value, house)) {
                    return false;
                }
                numbers[i] = text.value;
            }
            text.next();
            if (text.sort != Text.SIGN || text.value != ';') {
                return false;
            }
            tell(sign, house);
            return true;
        }

        /** Whether such an item can begin: its letter is one, and there are not too many of them. */
        private static boolean hasPlaceFor(int sign, House house) {
            switch (sign) {
                case 'p': return house.people < MOST_PEOPLE;
                case 'r': return house.rooms < MOST_ROOMS;
                case 'x': return house.now.rights < MOST_RIGHTS;
                case 'd':
                case 'b':
                case 'w': return true;
                default: return false;
            }
        }

        private static int howManyNumbers(int sign) {
            switch (sign) {
                case 'r': return 1;
                case 'x': return 3;
                default: return 2;
            }
        }

        /** Whether a number can be the i-th of such an item. */
        private boolean fits(int sign, int i, int number, House house) {
            switch (sign) {
                case 'p': return i == 0 ? number <= 1 : House.canBeHeir(number);
                case 'r': return number == NOBODY || house.isPerson(number);
                case 'd': return house.isRoom(number) && (i == 0 || number != numbers[0]);
                default: break;
            }
            if (i == 0) {
                return house.isPerson(number);
            }
            return i == 1 ? house.isRoom(number) : number <= LAST_DAY;
        }

        private void tell(int sign, House house) {
            int first = numbers[0];
            int second = numbers[1];
            switch (sign) {
                case 'p': house.addPerson(first == 1, second); break;
                case 'r': house.addRoom(first); break;
                case 'd': house.addDoor(first, second); break;
                case 'b': house.beds[first] = second; break;
                case 'w': house.wants[first] |= 1 << second; break;
                case 'x': house.now.addRight(first, second, numbers[2]); break;
                default: break;
            }
        }
    }

    /** All that days, deaths, rights, exchanges and wills change, and that images keep. */
    private static final class Now {
        int day, alive, rights;
        final int[] heirs = new int[MOST_PEOPLE];
        final int[] left = new int[MOST_ROOMS];
        final int[] holders = new int[MOST_RIGHTS];
        final int[] places = new int[MOST_RIGHTS];
        final int[] tills = new int[MOST_RIGHTS];

        void copy(Now other) {
            day = other.day;
            alive = other.alive;
            rights = other.rights;
            System.arraycopy(other.heirs, 0, heirs, 0, MOST_PEOPLE);
            System.arraycopy(other.left, 0, left, 0, MOST_ROOMS);
            System.arraycopy(other.holders, 0, holders, 0, MOST_RIGHTS);
            System.arraycopy(other.places, 0, places, 0, MOST_RIGHTS);
            System.arraycopy(other.tills, 0, tills, 0, MOST_RIGHTS);
        }

        void addRight(int p, int r, int until) {
            if (rights < MOST_RIGHTS) {
                holders[rights] = p;
                places[rights] = r;
                tills[rights] = until;
                rights++;
            }
        }

        void swap(int a, int b) {
            int first = left[a];
            left[a] = left[b];
            left[b] = first;
        }

        /** The rooms in which one has a right till a day or later. */
        int roomsByRight(int p, int onDay) {
            int bits = 0;
            for (int i = 0; i < rights; i++) {
                if (holders[i] == p && tills[i] >= onDay) {
                    bits |= 1 << places[i];
                }
            }
            return bits;
        }

        /** How many rights there are in a room, past ones too. */
        int rightsIn(int r) {
            int count = 0;
            for (int i = 0; i < rights; i++) {
                if (places[i] == r) {
                    count++;
                }
            }
            return count;
        }
    }

    /**
     * A house as told, with what is so now. Sets of people and of rooms are bits.
     * Who lives and which day it is are often arguments, so that it can be asked what would be.
     */
    private static final class House {
        int people, rooms;
        final int[] doors = new int[MOST_ROOMS];
        final int[] beds = new int[MOST_PEOPLE];
        final int[] wants = new int[MOST_PEOPLE];
        final Now now = new Now();

        void empty() {
            people = 0;
            rooms = 0;
            now.day = 0;
            now.alive = 0;
            now.rights = 0;
        }

        void addPerson(boolean alive, int heir) {
            if (people < MOST_PEOPLE) {
                beds[people] = NONE;
                wants[people] = 0;
                now.heirs[people] = heir;
                if (alive) {
                    now.alive |= 1 << people;
                }
                people++;
            }
        }

        void addRoom(int leftTo) {
            if (rooms < MOST_ROOMS) {
                doors[rooms] = 0;
                now.left[rooms] = leftTo;
                rooms++;
            }
        }

        void addDoor(int a, int b) {
            doors[a] |= 1 << b;
            doors[b] |= 1 << a;
        }

        boolean isPerson(int p) {
            return p >= 0 && p < people;
        }

        boolean isRoom(int r) {
            return r >= 0 && r < rooms;
        }

        boolean lives(int p) {
            return isPerson(p) && (now.alive >> p & 1) == 1;
        }

        static boolean canBeHeir(int heir) {
            return heir == NOBODY || heir >= 0 && heir < MOST_PEOPLE;
        }

        /** Who would own a room, if these lived. */
        int owner(int r, int alive) {
            int who = now.left[r];
            // As many steps as people: after them it has gone round.
            for (int steps = 0; steps < people && who >= 0 && who < people; steps++) {
                if ((alive >> who & 1) == 1) {
                    return who;
                }
                who = now.heirs[who];
            }
            return NONE;
        }

        /** How many heirs there are till a room's owner. */
        int chain(int r) {
            int who = now.left[r];
            if (who == NOBODY) {
                return 0;
            }
            for (int steps = 0; steps < people && who >= 0 && who < people; steps++) {
                if ((now.alive >> who & 1) == 1) {
                    return steps;
                }
                who = now.heirs[who];
            }
            return NONE;
        }

        /** The rooms that one would own, if these lived. */
        int owned(int p, int alive) {
            int bits = 0;
            for (int r = 0; r < rooms; r++) {
                if (owner(r, alive) == p) {
                    bits |= 1 << r;
                }
            }
            return bits;
        }

        /** The rooms one may be in, if these lived, on a day, if no right held in the silent rooms. */
        int may(int p, int alive, int onDay, int silent) {
            if ((alive >> p & 1) == 0) {
                return 0;
            }
            int bed = beds[p] == NONE ? 0 : 1 << beds[p];
            return owned(p, alive) | bed | (now.roomsByRight(p, onDay) & ~silent);
        }

        int mayNow(int p) {
            return may(p, now.alive, now.day, NO_ROOMS);
        }

        /** Who may be in a room now. */
        int whoMay(int r) {
            int bits = 0;
            for (int p = 0; p < people; p++) {
                bits |= (may(p, now.alive, now.day, NO_ROOMS) >> r & 1) << p;
            }
            return bits;
        }

        /** The rooms one goes to from his bed, through rooms of a set. */
        int reach(int p, int within) {
            int reached = beds[p] == NONE ? 0 : (1 << beds[p]) & within;
            for (int steps = 0; steps < rooms; steps++) {
                reached |= behindDoorsOf(reached) & within;
            }
            return reached;
        }

        /** The rooms that have a door to a room of a set. */
        int behindDoorsOf(int set) {
            int bits = 0;
            for (int r = 0; r < rooms; r++) {
                if ((set >> r & 1) == 1) {
                    bits |= doors[r];
                }
            }
            return bits;
        }

        /** Whether one who lives does not come to all he wants through rooms of a set. */
        boolean lacks(int p, int within) {
            return (wants[p] & ~reach(p, within)) != 0;
        }

        boolean isCutOff(int p, int alive, int onDay, int silent) {
            return (alive >> p & 1) == 1 && lacks(p, may(p, alive, onDay, silent));
        }

        /** Who is cut off now, if no right held in the silent rooms. */
        int cutOff(int silent) {
            int bits = 0;
            for (int p = 0; p < people; p++) {
                if (isCutOff(p, now.alive, now.day, silent)) {
                    bits |= 1 << p;
                }
            }
            return bits;
        }
    }

    /** The latest deeds, and how each is undone. */
    private static final class Deeds {
        static final int DAY = 0, DEATH = 1, RIGHT = 2, EXCHANGE = 3, WILL = 4;

        int size;
        private final int[] deeds = new int[MOST_DEEDS];
        private final int[] firsts = new int[MOST_DEEDS];
        private final int[] seconds = new int[MOST_DEEDS];

        void add(int deed, int first, int second) {
            if (size >= MOST_DEEDS) {
                loseOldest();
            }
            deeds[size] = deed;
            firsts[size] = first;
            seconds[size] = second;
            size++;
        }

        private void loseOldest() {
            size = MOST_DEEDS - 1;
            System.arraycopy(deeds, 1, deeds, 0, size);
            System.arraycopy(firsts, 1, firsts, 0, size);
            System.arraycopy(seconds, 1, seconds, 0, size);
        }

        /** The latest one is undone. */
        void takeBack(Now now) {
            if (size <= 0) {
                return;
            }
            size--;
            int first = firsts[size];
            int second = seconds[size];
            switch (deeds[size]) {
                case DAY: now.day--; break;
                case DEATH: now.alive |= 1 << first; break;
                case RIGHT: now.rights--; break;
                case EXCHANGE: now.swap(first, second); break;
                case WILL: now.heirs[first] = second; break;
                default: break;
            }
        }
    }

    /** Who can live in a house: rights, days, exchanges, dinner. */
    private static final class Living {
        static int firstDayCutOff(House house, int p) {
            for (int day = house.now.day; day <= LAST_DAY; day++) {
                if (house.isCutOff(p, house.now.alive, day, NO_ROOMS)) {
                    return day;
                }
            }
            return NONE;
        }

        static int fewestRights(House house, int p) {
            int may = house.mayNow(p);
            int best = NONE;
            // The sets grow as numbers: of as few rooms the least one comes first.
            for (int set = 0; set < 1 << house.rooms; set++) {
                boolean fewer = best == NONE || Integer.bitCount(set) < Integer.bitCount(best);
                if (fewer && !house.lacks(p, may | set)) {
                    best = set;
                }
            }
            return best;
        }

        static int openers(House house, int p) {
            int alive = house.now.alive;
            int day = house.now.day;
            if (!house.isCutOff(p, alive, day, NO_ROOMS)) {
                return 0;
            }
            int bits = 0;
            for (int other = 0; other < house.people; other++) {
                boolean canDie = other != p && house.lives(other);
                if (canDie && !house.isCutOff(p, alive & ~(1 << other), day, NO_ROOMS)) {
                    bits |= 1 << other;
                }
            }
            return bits;
        }

        static int bestExchange(House house) {
            int fewest = Integer.bitCount(house.cutOff(NO_ROOMS));
            int best = NONE;
            for (int a = 0; a < house.rooms; a++) {
                for (int b = a + 1; b < house.rooms; b++) {
                    house.now.swap(a, b);
                    int cutOff = Integer.bitCount(house.cutOff(NO_ROOMS));
                    house.now.swap(a, b);
                    if (cutOff < fewest) {
                        fewest = cutOff;
                        best = 10 * a + b;
                    }
                }
            }
            return best;
        }

        static int roomsHeldByRight(House house) {
            int cutOff = Integer.bitCount(house.cutOff(NO_ROOMS));
            int bits = 0;
            for (int r = 0; r < house.rooms; r++) {
                if (Integer.bitCount(house.cutOff(1 << r)) > cutOff) {
                    bits |= 1 << r;
                }
            }
            return bits;
        }

        static int doorsBetween(House house, int a, int b) {
            int open = 0;
            for (int p = 0; p < house.people; p++) {
                open |= house.mayNow(p);
            }
            int reached = (1 << a) & open;
            for (int steps = 0; steps < house.rooms; steps++) {
                if ((reached >> b & 1) == 1) {
                    return steps;
                }
                reached |= house.behindDoorsOf(reached) & open;
            }
            return NONE;
        }
    }

    /** What others' deaths would bring to one who is alive. */
    private static final class Deaths {
        static int fewestBefore(House house, int p, int r) {
            int others = othersThan(house, p);
            int best = NONE;
            for (int set = 0; set <= others; set++) {
                boolean fewer = best == NONE || Integer.bitCount(set) < Integer.bitCount(best);
                if ((set & ~others) == 0 && fewer && house.owner(r, house.now.alive & ~set) == p) {
                    best = set;
                }
            }
            return best;
        }

        /** The upper or the lower number of the chance that one is not cut off, each other dying by x of ten. */
        static int chance(House house, int p, int x, boolean wantsUpper) {
            int others = othersThan(house, p);
            int count = Integer.bitCount(others);
            int lower = power(TENTHS, count);
            int upper = 0;
            for (int dead = 0; dead <= others; dead++) {
                if ((dead & ~others) == 0 && !house.isCutOff(p, house.now.alive & ~dead, house.now.day, NO_ROOMS)) {
                    int deaths = Integer.bitCount(dead);
                    upper += power(x, deaths) * power(TENTHS - x, count - deaths);
                }
            }
            int common = commonDivisor(lower, upper);
            // The lower number is 1 or more, and so is what divides it.
            if (common < 1) {
                return BAD;
            }
            return (wantsUpper ? upper : lower) / common;
        }

        private static int othersThan(House house, int p) {
            return house.now.alive & ~(1 << p);
        }

        private static int power(int base, int exponent) {
            int product = 1;
            for (int i = 0; i < exponent; i++) {
                product *= base;
            }
            return product;
        }

        private static int commonDivisor(int a, int b) {
            // The rest grows less each time: it is 0 long before the bound.
            for (int i = 0; i < 100 && b != 0; i++) {
                int rest = a % b;
                a = b;
                b = rest;
            }
            return a;
        }
    }

    /** Who was seen where, and what it tells of a will. */
    private static final class Seen {
        private static final int NO_HEIR_BIT = 64;

        int size;
        private final int[] people = new int[MOST_SEEN];
        private final int[] rooms = new int[MOST_SEEN];
        private final int[] mays = new int[MOST_SEEN];

        boolean add(int p, int r, int may) {
            if (size >= MOST_SEEN) {
                return false;
            }
            people[size] = p;
            rooms[size] = r;
            mays[size] = may;
            size++;
            return true;
        }

        int heirsThatFit(House house, int p) {
            int was = house.now.heirs[p];
            int bits = 0;
            for (int heir = 0; heir < MOST_PEOPLE; heir++) {
                house.now.heirs[p] = heir;
                if (isSo(house)) {
                    bits |= 1 << heir;
                }
            }
            house.now.heirs[p] = NOBODY;
            if (isSo(house)) {
                bits |= NO_HEIR_BIT;
            }
            house.now.heirs[p] = was;
            return bits;
        }

        private boolean isSo(House house) {
            for (int i = 0; i < size; i++) {
                if ((house.mayNow(people[i]) >> rooms[i] & 1) != mays[i]) {
                    return false;
                }
            }
            return true;
        }
    }

    /** How a room rates as if of a kind, and the trace of the bodies that were asked. */
    private static final class Rates {
        long trace;

        int asRoom(House house, int r) {
            trace += 1;
            return Integer.bitCount(house.doors[r]);
        }

        int asHall(House house, int r) {
            trace += 10;
            return asRoom(house, r) + Integer.bitCount(house.whoMay(r));
        }

        int asStair(House house, int r) {
            trace += 100;
            return asRoom(house, r) - house.now.rightsIn(r);
        }

        int asAttic(House house, int r) {
            trace += 1000;
            return 2 * asHall(house, r);
        }

        int asCellar(House house, int r) {
            trace += 10000;
            return asStair(house, r) + r;
        }

        int asBath(House house, int r) {
            trace += 100000;
            return asRoom(house, r) + house.now.day;
        }
    }
}

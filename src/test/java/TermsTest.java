/** The sentences of "Terms" 1 and 2 that name a boundary case, each with a test of its own. */
public final class TermsTest {
    private static final int BAD = Edges.BAD, STATE = Edges.STATE, FULL = Edges.FULL, NONE = Edges.NONE;

    public static void main(String[] args) throws Exception {
        Edges.run(TermsTest.class, args);
    }

    private static void answer(String call, long got, long due) {
        Edges.answer(call, got, due);
    }

    private static void items(String text, int items) {
        Edges.items(text, items);
    }

    private static void fault(String text, int place) {
        Edges.fault(text, place);
    }

    private static GhostRooms of(String text) {
        return Edges.of(text);
    }

    // ---- 1: how many there may be

    @Says(terms = 1, words = "PEOPLE 0 .. (6 at most)")
    static void sixPeople() {
        GhostRooms none = of("");
        answer("person(0, 0) of nobody", none.person(0, 0), BAD);
        answer("count(0) of nobody", none.count(0), 0);
        GhostRooms g = of("p0 9;".repeat(5) + "p1 9;");
        answer("count(0) of six", g.count(0), 6);
        answer("person(5, 0)", g.person(5, 0), 1);
        answer("person(6, 0)", g.person(6, 0), BAD);
        answer("now(1)", g.now(1), 32);
        fault("p0 9;".repeat(6) + "p1 9;", 30);
    }

    @Says(terms = 1, words = "ALIVE or dead")
    static void aliveOrDead() {
        GhostRooms g = of("p0 9;p1 9;p0 9;");
        answer("person(0, 0)", g.person(0, 0), 0);
        answer("person(1, 0)", g.person(1, 0), 1);
        answer("now(1)", g.now(1), 2);
        fault("p2 9;", 1);
    }

    @Says(terms = 1, words = "an HEIR (0 .. 5; 9: none; such as there is not: none)")
    static void heirs() {
        for (int heir : new int[] {0, 1, 2, 3, 4, 5, 9}) {
            GhostRooms g = of("p0 " + heir + ";r0;");
            answer("person(0, 1), the only one's", g.person(0, 1), heir);
            answer("room(0, 1) of heir " + heir, g.room(0, 1), NONE);
            answer("room(0, 2) of heir " + heir, g.room(0, 2), NONE);
        }
        for (int heir = 0; heir < 5; heir++) {
            GhostRooms g = of("p1 9;".repeat(5) + "p0 " + heir + ";r5;");
            answer("room(0, 1) by heir " + heir, g.room(0, 1), heir);
        }
        answer("room(0, 1) by heir 5", of("p0 5;" + "p1 9;".repeat(5) + "r0;").room(0, 1), 5);
        answer("room(0, 1), the last one is missing", of("p0 5;" + "p1 9;".repeat(4) + "r0;").room(0, 1), NONE);
    }

    @Says(terms = 1, words = "such as there is not: none")
    static void heirWhomThereIsNot() {
        answer("with the heir: owner", of("p1 9;p0 2;p1 1;r1;").room(0, 1), 2);
        GhostRooms without = of("p1 9;p0 2;r1;r0;d0 1;b0 1;w0 0;");
        answer("owner", without.room(0, 1), NONE);
        answer("chain", without.room(0, 2), NONE);
        answer("who may", without.room(0, 4), 0);
        answer("wills(1, 5), nor is he", without.wills(1, 5), 2);
        answer("owner", without.room(0, 1), NONE);
        answer("waits(0, 0)", without.waits(0, 0), NONE);
        answer("last(0)", without.last(0), 1);
        without.seen(0, 0, 0);
        answer("said(1)", without.said(1), 64 + 32 + 16 + 8 + 4 + 2);
        heirWhomThereWasBefore();
    }

    /** Whose heir he was in an earlier house is no matter. */
    private static void heirWhomThereWasBefore() {
        GhostRooms g = new GhostRooms();
        for (int time = 0; time < 3; time++) {
            answer("house() of six", Edges.tell(g, "p1 0;".repeat(6) + "r0;"), 7);
            answer("house() of six again", Edges.tell(g, "p1 0;".repeat(6) + "r0;"), 7);
            answer("house() of four", Edges.tell(g, "p1 9;p0 4;p0 5;p0 9;r1;r2;r0;"), 7);
            for (int r = 0; r < 2; r++) {
                answer("room(" + r + ", 1)", g.room(r, 1), NONE);
                answer("room(" + r + ", 2)", g.room(r, 2), NONE);
                answer("waits(0, " + r + ")", g.waits(0, r), NONE);
            }
            answer("last(0)", g.last(0), 1);
        }
    }

    @Says(terms = 1, words = "ROOMS 0 .. (7 at most)")
    static void sevenRooms() {
        answer("room(0, 0) of no rooms", of("p1 9;").room(0, 0), BAD);
        answer("count(1) of no rooms", of("p1 9;").count(1), 0);
        GhostRooms g = of("p1 9;" + "r9;".repeat(6) + "r0;");
        answer("count(1) of seven", g.count(1), 7);
        answer("room(6, 0)", g.room(6, 0), 0);
        answer("room(7, 0)", g.room(7, 0), BAD);
        answer("person(0, 6)", g.person(0, 6), 64);
        fault("r9;".repeat(8), 21);
    }

    @Says(terms = 1, words = "LEFT to a PERSON, or to nobody (9)")
    static void leftTo() {
        GhostRooms g = of("p1 9;".repeat(6) + "r0;r5;r9;");
        answer("room(0, 0)", g.room(0, 0), 0);
        answer("room(1, 0)", g.room(1, 0), 5);
        answer("room(2, 0)", g.room(2, 0), 9);
        answer("room(2, 1)", g.room(2, 1), NONE);
        answer("room(2, 4)", g.room(2, 4), 0);
    }

    @Says(terms = 1, words = "DOORS between two of them")
    static void doors() {
        GhostRooms g = of("r9;".repeat(7) + "d6 0;d0 3;");
        answer("room(0, 3)", g.room(0, 3), 72);
        answer("room(6, 3)", g.room(6, 3), 1);
        answer("room(3, 3)", g.room(3, 3), 1);
        answer("room(1, 3)", g.room(1, 3), 0);
        StringBuilder all = new StringBuilder("r9;".repeat(7));
        for (int a = 0; a < 7; a++) {
            for (int b = a + 1; b < 7; b++) {
                all.append("d").append(a).append(' ').append(b).append(';');
            }
        }
        GhostRooms every = of(all.toString());
        for (int r = 0; r < 7; r++) {
            answer("room(" + r + ", 3) of all doors", every.room(r, 3), 127 - (1 << r));
        }
    }

    @Says(terms = 1, words = "BED of a PERSON: a ROOM (none at first)")
    static void bed() {
        GhostRooms g = of("p1 9;p0 9;p1 9;" + "r9;".repeat(7) + "b0 6;b1 0;");
        answer("person(0, 2)", g.person(0, 2), 6);
        answer("person(1, 2)", g.person(1, 2), 0);
        answer("person(2, 2)", g.person(2, 2), NONE);
        answer("person(0, 6)", g.person(0, 6), 64);
    }

    @Says(terms = 1, words = "WANTS: ROOMS")
    static void wants() {
        GhostRooms g = of("p1 9;p0 9;" + "r9;".repeat(7) + "w1 0;w1 1;w1 2;w1 3;w1 4;w1 5;w1 6;");
        answer("person(0, 3)", g.person(0, 3), 0);
        answer("person(1, 3)", g.person(1, 3), 127);
    }

    @Says(terms = 1, words = "RIGHTS (10 at most)")
    static void tenRights() {
        answer("right(0, 0) of no rights", of("p1 9;r9;").right(0, 0), BAD);
        GhostRooms told = of("p1 9;r9;" + "x0 0 7;".repeat(10));
        answer("now(3)", told.now(3), 10);
        answer("right(9, 2)", told.right(9, 2), 7);
        answer("right(10, 2)", told.right(10, 2), BAD);
        answer("grants(0, 0, 0)", told.grants(0, 0, 0), FULL);
        fault("p1 9;r9;" + "x0 0 7;".repeat(11), 78);
        GhostRooms granted = of("p1 9;r9;x0 0 7;");
        for (int count = 2; count <= 10; count++) {
            answer("grants(0, 0, 8)", granted.grants(0, 0, 8), count);
        }
        answer("grants(0, 0, 8), an eleventh", granted.grants(0, 0, 8), FULL);
        granted.undo();
        answer("grants(0, 0, 9) in an undone one's place", granted.grants(0, 0, 9), 10);
        answer("right(9, 2)", granted.right(9, 2), 9);
    }

    @Says(terms = 1, words = "a PERSON may be in a ROOM till a DAY (0 .. 99, that day too)")
    static void tillThatDayToo() {
        GhostRooms g = of("p1 9;r9;r9;r9;x0 0 0;x0 1 1;x0 2 99;");
        answer("person(0, 6) on day 0", g.person(0, 6), 7);
        g.day();
        answer("person(0, 6) on day 1", g.person(0, 6), 6);
        g.day();
        answer("person(0, 6) on day 2", g.person(0, 6), 4);
        Edges.days(g, 97);
        answer("now(0)", g.now(0), 99);
        answer("person(0, 6) on day 99", g.person(0, 6), 4);
        answer("grants(0, 0, 98) on day 99", g.grants(0, 0, 98), 4);
        answer("person(0, 6), past when granted", g.person(0, 6), 4);
        fault("p1 9;r9;x0 0 100;", 13);
    }

    // ---- 1: the text

    @Says(terms = 1, words = "a text (200 letters at most)")
    static void twoHundredLetters() {
        GhostRooms g = new GhostRooms();
        Edges.type(g, "  p1 9;r9;" + "w0 0;".repeat(38));
        answer("count(3)", g.count(3), 200);
        answer("type(32), one more", g.type(32), FULL);
        answer("house() of 200 letters", g.house(), 40);
        answer("count(3) then", g.count(3), 0);
        answer("type(32) then", g.type(32), 1);
        fault(" ".repeat(199) + "p", 200);
        fault(" ".repeat(199) + ";", 199);
        // The letter that was refused is not read.
        items(" ".repeat(195) + "p1 9;;", 1);
    }

    @Says(terms = 1, words = "blanks (32) between TOKENS")
    static void blanks() {
        items("   ", 0);
        items("p1 9;", 1);
        fault("  p  1   9  ;   r  0 ;  d", 25);
        items("  p  1   9  ;   r  0 ; ", 2);
        items("p1 9;r0;r0;d0 1;b0 0;w0 1;x0 1 9;", 7);
        items(" p 1 9 ; r 0 ; r 0 ; d 0 1 ; b 0 0 ; w 0 1 ; x 0 1 9 ; ", 7);
        fault("p19;", 1);
        for (int letter : new int[] {0, 9, 10, 13, 31, 33, 160}) {
            fault("p1" + (char) letter + "9;", 2);
            fault((char) letter + "p1 9;", 0);
            fault("p1 9;" + (char) letter, 5);
        }
    }

    @Says(terms = 1, words = "ITEMS, each ended by ;")
    static void endedBySemicolon() {
        String[] whole = {"p1 9", "r9", "d0 1", "b0 0", "w0 0", "x0 0 0"};
        String head = "p1 9;r9;r9;";
        for (String item : whole) {
            int end = head.length() + item.length();
            items(head + item + ";", 4);
            fault(head + item, end);
            fault(head + item + " ", end + 1);
            fault(head + item + " p1 9;", end + 1);
            fault(head + item + "r9;", end);
            fault(head + item + ";;", end + 1);
            fault(head + item + " 0;", end + 1);
        }
    }

    @Says(terms = 1, words = "p A H (a PERSON: ALIVE 1 or 0, HEIR)")
    static void personItem() {
        GhostRooms g = of("p1 0;p0 5;p0 9;");
        answer("person(0, 1)", g.person(0, 1), 0);
        answer("person(1, 1)", g.person(1, 1), 5);
        answer("person(2, 1)", g.person(2, 1), 9);
        answer("now(1)", g.now(1), 1);
        fault("p2 0;", 1);
        fault("p9 0;", 1);
        fault("p;", 1);
        fault("p0;", 2);
        fault("p0 0 0;", 5);
    }

    @Says(terms = 1, words = "r O (a ROOM: to whom it is LEFT, told ahead, or 9)")
    static void roomItem() {
        items("r9;", 1);
        fault("r0;p1 9;", 1);
        fault("p1 9;r1;p1 9;", 6);
        items("p1 9;p1 9;r1;", 3);
        items("p1 9;r0;p1 9;r1;", 4);
        items("p0 9;".repeat(6) + "r5;", 7);
        fault("p0 9;".repeat(6) + "r6;", 31);
        fault("p0 9;".repeat(6) + "r7;", 31);
        fault("p0 9;".repeat(6) + "r8;", 31);
        fault("p0 9;".repeat(6) + "r10;", 31);
        fault("r;", 1);
    }

    @Says(terms = 1, words = "d A B (a DOOR; unlike; told again: as it is)")
    static void doorItem() {
        GhostRooms g = of("r9;r9;r9;d0 1;d0 1;d1 0;d1 2;");
        answer("room(0, 3)", g.room(0, 3), 2);
        answer("room(1, 3)", g.room(1, 3), 5);
        answer("rate(0, 0): one door", g.rate(0, 0), 1);
        fault("r9;r9;d0 0;", 9);
        fault("r9;r9;d1 1;", 9);
    }

    @Says(terms = 1, words = "b P R (a BED; the later one)")
    static void bedItem() {
        GhostRooms g = of("p1 9;p1 9;r9;r9;r9;b0 1;b0 2;b1 2;b1 0;");
        answer("person(0, 2)", g.person(0, 2), 2);
        answer("person(0, 6)", g.person(0, 6), 4);
        answer("person(1, 2)", g.person(1, 2), 0);
        answer("person(1, 4)", g.person(1, 4), 1);
    }

    @Says(terms = 1, words = "w P R (a WANT)")
    static void wantItem() {
        GhostRooms g = of("p1 9;r9;r9;w0 1;w0 1;");
        answer("person(0, 3), told twice", g.person(0, 3), 2);
        Edges.tell(g, "p1 9;r9;r9;w0 1;w0 0;");
        answer("person(0, 3), both", g.person(0, 3), 3);
    }

    @Says(terms = 1, words = "x P R U (a RIGHT)")
    static void rightItem() {
        GhostRooms g = of("p1 9;p0 9;r9;r9;x1 0 0;x0 1 99;x0 1 99;");
        answer("now(3), alike are two", g.now(3), 3);
        int[] due = {1, 0, 0, 0, 1, 99, 0, 1, 99};
        for (int n = 0; n < due.length; n++) {
            answer("right(" + n / 3 + ", " + n % 3 + ")", g.right(n / 3, n % 3), due[n]);
        }
    }

    // ---- 1: faults

    @Says(terms = 1, words = "TOKENS are the letters p, r, d, b, w, x, NUMBERS and ; .")
    static void everyLetterFirst() {
        for (int letter = 0; letter < 256; letter++) {
            boolean begins = "prdbwx".indexOf(letter) >= 0;
            if (letter != 32) {
                fault("" + (char) letter, begins ? 1 : 0);
                fault("r9; " + (char) letter, begins ? 5 : 4);
            }
        }
    }

    @Says(terms = 1, words = "of any other letter")
    static void everyLetterElsewhere() {
        for (int letter = 0; letter < 256; letter++) {
            boolean digit = letter >= '0' && letter <= '9';
            if (letter != 32 && !digit) {
                fault("p" + (char) letter + " 9;", 1);
                fault("p1 " + (char) letter + ";", 3);
            }
            if (letter != 32 && !digit && letter != ';') {
                fault("p1 9" + (char) letter, 4);
                fault("p1 9 " + (char) letter + ";", 5);
            }
        }
    }

    @Says(terms = 1, words = "the place of the first letter of the first TOKEN that can't stand there")
    static void theFirstOne() {
        fault("p2 7;", 1);
        fault("p1 7;q", 3);
        fault("p1 q7;", 3);
        fault("q p2", 0);
        fault("p1 100;p2 9;", 3);
        fault("p1 9;   r1;   r2;", 9);
        fault("p1 9;r0;x0 0   100  ;", 15);
        fault("p1 9;r0;x0 1 100;", 11);
        fault("p1 9;r0;x1 1 100;", 9);
        fault("p1 9;r0 9;", 8);
        fault("pp", 1);
        fault("p1p", 2);
        fault("9", 0);
        fault(" 9", 1);
        fault(";", 0);
        fault(" ;", 1);
        fault("p1 9; 0", 6);
    }

    @Says(terms = 1, words = "a seventh p")
    static void aSeventhPerson() {
        String six = "p1 0;p1 1;p1 2;p1 3;p1 4;p1 5;";
        items(six, 6);
        fault(six + "p", 30);
        fault(six + "p1 9;", 30);
        fault(six + "r5;  p2 9;", 35);
    }

    @Says(terms = 1, words = "an eighth r")
    static void anEighthRoom() {
        items("r9;".repeat(7), 7);
        fault("r9;".repeat(7) + "r", 21);
        fault("r9;".repeat(7) + "r9;", 21);
        fault("r9;".repeat(7) + "p1 9; r0;", 27);
    }

    @Says(terms = 1, words = "an eleventh x")
    static void anEleventhRight() {
        String ten = "p1 9;r9;" + "x0 0 1;".repeat(10);
        items(ten, 12);
        fault(ten + "x", 78);
        fault(ten + "x0 0 1;", 78);
        fault(ten + "w0 0; x9", 84);
    }

    @Says(terms = 1, words = "a PERSON or ROOM that was not told")
    static void notTold() {
        String one = "p1 9;r9;";
        items(one + "b0 0;w0 0;x0 0 0;", 5);
        for (char item : "bwx".toCharArray()) {
            fault(one + item + "1 0", 9);
            fault(one + item + "0 1", 11);
            fault(one + item + "9 0", 9);
            fault(one + item + "0 9", 11);
            fault("r9;" + item + "0 0", 4);
            fault("p1 9;" + item + "0 0", 8);
        }
        items(one + "r9;d0 1;d1 0;", 5);
        fault(one + "r9;d2 0;", 12);
        fault(one + "r9;d0 2;", 14);
        fault(one + "d0 1;r9;", 11);
        fault("d0 1;r9;r9;", 1);
        String full = "p1 9;".repeat(6) + "r9;".repeat(7);
        items(full + "b5 6;w5 6;x5 6 0;d6 5;", 17);
        fault(full + "b6 6;", 52);
        fault(full + "b5 7;", 54);
        fault(full + "d6 7;", 54);
    }

    @Says(terms = 1, words = "an HEIR that is 6, 7, 8 or above 9")
    static void noSuchHeir() {
        for (int heir = 0; heir <= 110; heir++) {
            if (heir <= 5 || heir == 9) {
                items("p1 " + heir + ";", 1);
            } else {
                fault("p1 " + heir + ";", 3);
            }
        }
    }

    @Says(terms = 1, words = "a B that is A")
    static void aDoorToItself() {
        for (int room = 0; room < 7; room++) {
            fault("r9;".repeat(7) + "d" + room + " " + room + ";", 24);
            items("r9;".repeat(7) + "d" + room + " " + (room + 1) % 7 + ";", 8);
        }
        // The bed before it has the same numbers in other places.
        items("p1 9;r9;r9;b0 1;d1 0;b0 0;w0 0;", 7);
    }

    @Says(terms = 1, words = "a NUMBER beyond what it may be, too")
    static void beyondWhatItMayBe() {
        items("p0 9;p1 9;", 2);
        for (int number : new int[] {2, 3, 9, 10, 11, 99}) {
            fault("p" + number + " 9;", 1);
        }
        items("p1 9;r9;x0 0 0;x0 0 1;x0 0 98;x0 0 99;", 6);
        fault("p1 9;r9;x0 0 100;", 13);
    }

    @Says(terms = 1, words = "a NUMBER above 99")
    static void aboveNinetyNine() {
        String[] large = {"100", "101", "110", "199", "990", "999", "1000", "65536", "65545", "4294967295", "4294967296",
            "4294967305", "2147483648", "18446744073709551616", "18446744073709551625", "340282366920938463463374607431768211465"};
        for (String number : large) {
            fault("p1 9;r9;x0 0 " + number + ";", 13);
            fault("p1 " + number + ";", 3);
            fault("p" + number + " 9;", 1);
            fault("p1 9;r" + number + ";", 6);
            fault("p1 9;r9;r9;d" + number + " 1;", 12);
            fault("p1 9;r9;r9;d1 " + number + ";", 14);
            fault("p1 9;r9;b" + number + " 0;", 9);
            fault("p1 9;r9;w0 " + number + ";", 11);
        }
        fault("1" + "0".repeat(199), 0);
    }

    @Says(terms = 1, words = "with a 0 ahead of others")
    static void aZeroAhead() {
        items("p0 0;r0;x0 0 0;", 3);
        items("p1 9;r9;x0 0 10;x0 0 90;", 4);
        for (String number : new String[] {"00", "01", "05", "09", "000", "010", "099", "0100"}) {
            fault("p1 9;r9;x0 0 " + number + ";", 13);
            fault("p1 " + number + ";", 3);
            fault("p" + number + " 9;", 1);
            fault("p1 9;r" + number + ";", 6);
            fault("p1 9;p1 9;r9;r9;d" + number + " 1;", 17);
            fault("p1 9;p1 9;r9;r9;b" + number + " 1;", 17);
            fault("p1 9;p1 9;r9;r9;w1 " + number + ";", 19);
            fault(number, 0);
        }
    }

    @Says(terms = 1, words = "the text's length, if it ends too early")
    static void endsTooEarly() {
        String whole = " p1 9;p0 0;r0 ; r9;d1 0;  b0 1;w0 0;x0 1 42; ";
        int items = 0;
        int begun = 0;
        for (int length = 1; length <= whole.length(); length++) {
            char letter = whole.charAt(length - 1);
            items += letter == ';' ? 1 : 0;
            begun = letter == ';' ? 0 : letter == ' ' ? begun : 1;
            String text = whole.substring(0, length);
            if (begun == 0) {
                items(text, items);
            } else {
                fault(text, length);
                fault(text + "  ", length + 2);
            }
        }
    }

    // ---- 2: what is so

    @Says(terms = 2, words = "THE DAY (0 at first, 99 at most)")
    static void theDay() {
        GhostRooms g = new GhostRooms();
        answer("now(0)", g.now(0), 0);
        Edges.days(g, 98);
        answer("now(0) after 98", g.now(0), 98);
        answer("day(), the last", g.day(), 99);
        answer("day() on it", g.day(), STATE);
        answer("now(0)", g.now(0), 99);
    }

    @Says(terms = 2, words = "OWNER of a ROOM: to whom it is LEFT, if ALIVE")
    static void ownerAlive() {
        GhostRooms g = of("p1 1;p1 0;p1 2;p1 9;r0;r1;r2;r3;");
        for (int r = 0; r < 4; r++) {
            answer("room(" + r + ", 1), whatever his heir", g.room(r, 1), r);
            answer("room(" + r + ", 2)", g.room(r, 2), 0);
        }
    }

    @Says(terms = 2, words = "if dead his HEIR, and so on, by as many HEIRS as it takes")
    static void asManyHeirsAsItTakes() {
        for (int alive = 0; alive < 6; alive++) {
            StringBuilder text = new StringBuilder();
            for (int p = 0; p < 6; p++) {
                text.append(p == alive ? "p1 " : "p0 ").append(p == 5 ? 9 : p + 1).append(';');
            }
            GhostRooms g = of(text + "r0;r5;");
            answer("room(0, 1), " + alive + " heirs on", g.room(0, 1), alive);
            answer("room(0, 2), " + alive + " heirs on", g.room(0, 2), alive);
            answer("room(1, 1), the last one's", g.room(1, 1), alive == 5 ? 5 : NONE);
        }
        GhostRooms back = of("p1 9;p0 0;p0 1;p0 2;p0 3;p0 4;r5;");
        answer("room(0, 1), to those ahead", back.room(0, 1), 0);
        answer("room(0, 2), to those ahead", back.room(0, 2), 5);
        back.dies(0);
        answer("room(0, 1), all are dead", back.room(0, 1), NONE);
    }

    @Says(terms = 2, words = "nobody, if it was LEFT to nobody, there is no HEIR, or it goes round")
    static void ownerNobody() {
        answer("left to nobody", of("p1 9;r9;").room(0, 1), NONE);
        answer("no heir", of("p0 9;p1 9;r0;").room(0, 1), NONE);
        answer("no heir in the end", of("p0 1;p0 2;p0 9;p1 9;r0;").room(0, 1), NONE);
        answer("no such heir in the end", of("p0 1;p0 4;p1 9;r0;").room(0, 1), NONE);
        answer("his own heir", of("p0 0;p1 9;r0;").room(0, 1), NONE);
        answer("two round", of("p0 1;p0 0;p1 9;r0;").room(0, 1), NONE);
        answer("six round", of("p0 1;p0 2;p0 3;p0 4;p0 5;p0 0;r3;").room(0, 1), NONE);
        answer("to a round", of("p0 1;p0 2;p0 1;p1 9;r0;").room(0, 1), NONE);
        answer("a round with one alive", of("p0 1;p0 2;p1 0;r0;").room(0, 1), 2);
    }

    @Says(terms = 2, words = "A PERSON who is ALIVE MAY be in a ROOM that he OWNS, or that is his BED, or in which he has a RIGHT")
    static void mayBe() {
        GhostRooms g = of("p1 9;p0 0;p1 9;r0;r1;r9;r9;r2;b0 2;x0 3 0;b2 3;x1 4 9;b1 2;");
        answer("his, his dead one's, bed, right", g.person(0, 6), 15);
        answer("another one", g.person(2, 6), 24);
        answer("a dead one", g.person(1, 6), 0);
        answer("who may be in the bed", g.room(2, 4), 1);
        answer("who may be in both ones'", g.room(3, 4), 5);
        g.dies(0);
        answer("dead then", g.person(0, 6), 0);
        answer("his, his bed, and a right in it", of("p1 9;r0;b0 0;x0 0 9;x0 0 9;").person(0, 6), 1);
        answer("his bed, and a right in it", of("p1 9;r9;b0 0;x0 0 9;").person(0, 6), 1);
        answer("two rights in it", of("p1 9;r9;x0 0 9;x0 0 9;").person(0, 6), 1);
    }

    @Says(terms = 2, words = "has a RIGHT till THE DAY or later")
    static void rightTillTheDayOrLater() {
        GhostRooms g = of("p1 9;r9;r9;r9;x0 0 4;x0 1 5;x0 2 6;");
        Edges.days(g, 5);
        answer("person(0, 6) on day 5", g.person(0, 6), 6);
        g.undo();
        answer("person(0, 6) on day 4", g.person(0, 6), 7);
    }

    @Says(terms = 2, words = "He GOES from his BED by DOORS through ROOMS he MAY be in")
    static void goes() {
        GhostRooms g = of("p1 9;p1 9;r0;r1;r0;r0;r9;d0 1;d1 2;d2 3;b0 2;b1 4;d4 0;");
        answer("from the bed, not through another's", g.person(0, 4), 12);
        answer("the bed alone", g.person(1, 4), 16);
        g.grants(0, 1, 0);
        answer("through it by a right", g.person(0, 4), 15);
        answer("to his bed only by himself", g.person(1, 4), 16);
        g.grants(1, 0, 0);
        answer("and on", g.person(1, 4), 19);
        g.dies(0);
        answer("a dead one", g.person(0, 4), 0);
    }

    @Says(terms = 2, words = "(without a BED nowhere)")
    static void withoutBed() {
        GhostRooms g = of("p1 9;r0;r0;d0 1;x0 0 9;w0 0;");
        answer("person(0, 6)", g.person(0, 6), 3);
        answer("person(0, 4)", g.person(0, 4), 0);
        answer("person(0, 5)", g.person(0, 5), 1);
        answer("needs(0)", g.needs(0), NONE);
        answer("opens(0)", g.opens(0), 0);
        answer("fromWhen(0)", g.fromWhen(0), 0);
        answer("odds(0, 5, 0)", g.odds(0, 5, 0), 0);
    }

    @Says(terms = 2, words = "CUT OFF: one who is ALIVE and does not GO to all ROOMS he WANTS")
    static void cutOff() {
        GhostRooms g = of("p1 9;p1 9;p1 9;p0 9;p1 9;r0;r0;r9;d0 1;b0 0;w0 0;w0 1;b1 0;w1 0;w1 1;w3 2;w4 2;x4 2 9;");
        answer("to all", g.person(0, 5), 0);
        answer("to one of two", g.person(1, 5), 1);
        answer("wanting nothing, without a bed", g.person(2, 5), 0);
        answer("a dead one", g.person(3, 5), 0);
        answer("may be there, but does not go", g.person(4, 5), 1);
        answer("now(2)", g.now(2), 18);
        g.dies(1);
        answer("now(2), dead then", g.now(2), 16);
        GhostRooms apart = of("p1 9;r0;r0;b0 0;w0 1;");
        answer("his own, but no door", apart.person(0, 5), 1);
    }

    // ---- 2: what is done

    @Says(terms = 2, words = "DIES: one who is ALIVE")
    static void dies() {
        GhostRooms g = of("p1 9;p0 9;p1 9;");
        answer("dies(1)", g.dies(1), STATE);
        answer("dies(2)", g.dies(2), 1);
        answer("dies(2) again", g.dies(2), STATE);
        answer("dies(0), the last", g.dies(0), 0);
        answer("now(1)", g.now(1), 0);
        answer("now(4)", g.now(4), 2);
    }

    @Says(terms = 2, words = "GRANTED: a RIGHT more")
    static void granted() {
        GhostRooms g = of("p1 9;p0 9;r9;r9;x0 1 3;");
        answer("alike", g.grants(0, 1, 3), 2);
        answer("to a dead one", g.grants(1, 1, 3), 3);
        g.day();
        answer("past", g.grants(0, 0, 0), 4);
        answer("person(0, 6)", g.person(0, 6), 2);
        answer("right(3, 1)", g.right(3, 1), 0);
        answer("right(0, 2)", g.right(0, 2), 3);
    }

    @Says(terms = 2, words = "EXCHANGED: two ROOMS, what they are LEFT to")
    static void exchanged() {
        GhostRooms g = of("p1 9;p0 0;r0;r1;r9;r0;d0 1;b0 0;x0 0 9;");
        answer("exchanges(1, 2)", g.exchanges(1, 2), 9);
        answer("room(1, 0)", g.room(1, 0), 9);
        answer("room(2, 0)", g.room(2, 0), 1);
        answer("exchanges(0, 3), left to one", g.exchanges(0, 3), 0);
        answer("now(4)", g.now(4), 2);
        answer("exchanges(2, 0)", g.exchanges(2, 0), 0);
        answer("room(0, 0)", g.room(0, 0), 1);
        answer("the door stays", g.room(0, 3), 2);
        answer("the bed stays", g.person(0, 2), 0);
        answer("the right stays", g.right(0, 1), 0);
    }

    @Says(terms = 2, words = "WILLED: a PERSON's HEIR becomes another one (dead ones' too)")
    static void willed() {
        GhostRooms g = of("p0 9;p1 9;p1 1;r0;");
        answer("wills(0, 2) of a dead one", g.wills(0, 2), 9);
        answer("room(0, 1)", g.room(0, 1), 2);
        answer("wills(2, 0) of one alive", g.wills(2, 0), 1);
        answer("wills(2, 0), the same", g.wills(2, 0), 0);
        answer("now(4)", g.now(4), 3);
        answer("wills(0, 0), himself", g.wills(0, 0), 2);
        answer("room(0, 1)", g.room(0, 1), NONE);
    }

    @Says(terms = 2, words = "UNDONE: the latest day(), dies(), grants(), exchanges(), wills() that was not refused")
    static void theLatestThatWasNotRefused() {
        GhostRooms g = of("p1 9;p0 9;r0;r9;" + "x0 0 1;".repeat(9));
        g.wills(0, 1);
        g.grants(1, 1, 5);
        g.dies(0);
        // None of these is a deed that can be undone.
        g.dies(0);
        g.dies(2);
        g.grants(0, 0, 0);
        g.exchanges(1, 1);
        g.wills(0, 6);
        g.seen(0, 0, 0);
        g.keep(0);
        g.type('p');
        g.rate(0, 0);
        answer("now(4)", g.now(4), 3);
        answer("undo() of dies", g.undo(), 2);
        answer("now(1)", g.now(1), 1);
        answer("undo() of grants", g.undo(), 1);
        answer("now(3)", g.now(3), 9);
        answer("undo() of wills", g.undo(), 0);
        answer("person(0, 1)", g.person(0, 1), 9);
        answer("count(2)", g.count(2), 1);
        answer("count(3)", g.count(3), 1);
        answer("trace()", g.trace(), 1);
        answer("undo()", g.undo(), STATE);
        answer("back(0), the image stays", g.back(0), 0);
        answer("now(3) of the image", g.now(3), 10);
        GhostRooms late = new GhostRooms();
        Edges.days(late, 99);
        late.day();
        answer("undo() on day 99", late.undo(), 9);
        answer("now(0)", late.now(0), 98);
    }

    @Says(terms = 2, words = "(10 are known, older ones are lost)")
    static void tenAreKnown() {
        for (int deeds = 8; deeds <= 23; deeds++) {
            GhostRooms g = of("p1 9;p1 9;r0;r1;");
            Edges.days(g, deeds);
            int known = Math.min(deeds, 10);
            answer("now(4) after " + deeds, g.now(4), known);
            for (int left = known - 1; left >= 0; left--) {
                answer("undo() after " + deeds, g.undo(), left);
            }
            answer("undo(), none after " + deeds, g.undo(), STATE);
            answer("now(0) after " + deeds, g.now(0), deeds - known);
        }
        tenAreKnownOfEachKind();
    }

    private static void tenAreKnownOfEachKind() {
        GhostRooms g = of("p1 9;p1 9;r0;r1;r9;");
        g.dies(1);
        g.exchanges(0, 2);
        g.wills(0, 1);
        g.grants(0, 0, 4);
        g.day();
        g.dies(0);
        g.exchanges(1, 2);
        g.wills(0, 4);
        g.grants(1, 2, 7);
        g.day();
        g.wills(1, 5);
        answer("now(4)", g.now(4), 10);
        // The death of 1 is lost, the other ten come back one by one.
        int[][] after = {{2, 0, 2, 4, 0}, {1, 0, 2, 4, 0}, {1, 0, 1, 4, 0}, {1, 0, 1, 1, 0}, {1, 0, 1, 1, 1},
            {1, 1, 1, 1, 1}, {0, 1, 1, 1, 1}, {0, 1, 0, 1, 1}, {0, 1, 0, 9, 1}, {0, 1, 0, 9, 1}};
        for (int n = 0; n < 10; n++) {
            answer("undo()", g.undo(), 9 - n);
            answer("now(0) after " + n, g.now(0), after[n][0]);
            answer("now(1) after " + n, g.now(1), after[n][1]);
            answer("now(3) after " + n, g.now(3), after[n][2]);
            answer("person(0, 1) after " + n, g.person(0, 1), after[n][3]);
            answer("room(1, 0) after " + n, g.room(1, 0), after[n][4]);
            answer("person(1, 1) after " + n, g.person(1, 1), 9);
        }
        answer("room(0, 0)", g.room(0, 0), 0);
        answer("room(2, 0)", g.room(2, 0), 9);
        answer("undo()", g.undo(), STATE);
        answer("dies(1), who is dead for good", g.dies(1), STATE);
    }
}

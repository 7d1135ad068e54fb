/** A house of three, one of them dead: it is told and asked, days go by, and some of it is undone. */
public final class Example {
    private static final String TEXT =
        "p1 9; p0 0; p1 9;"        // 0 and 2 are alive and have no heir; 1 is dead, his heir is 0
        + " r0; r1; r2;"           // each was left a room
        + " d0 1; d1 2;"           // doors from room 0 to 1 and from 1 to 2
        + " b0 0; w0 2; x0 2 1;";  // 0 sleeps in room 0 and wants room 2; he may be there till day 1

    public static void main(String[] args) {
        GhostRooms house = new GhostRooms();
        for (char letter : TEXT.toCharArray()) {
            house.type(letter);
        }
        say("house()", house.house(), "so many items were told");
        say("room(1, 1)", house.room(1, 1), "room 1 is 0's, whose dead one's it was");
        say("room(1, 2)", house.room(1, 2), "by one heir");
        say("person(0, 4)", house.person(0, 4), "0 goes to the rooms 0, 1 and 2 (bits: 1 + 2 + 4)");
        say("fromWhen(0)", house.fromWhen(0), "from day 2 on he is cut off");
        say("day()", house.day(), "");
        say("day()", house.day(), "");
        say("person(0, 5)", house.person(0, 5), "he is");
        say("needs(0)", house.needs(0), "a right in room 2 alone would do (bits: 4)");
        say("grants(0, 2, 9)", house.grants(0, 2, 9), "he has one till day 9: two rights, the past one too");
        say("now(2)", house.now(2), "nobody is cut off");
        say("undo()", house.undo(), "he has it no more; two days may be undone yet");
        say("wills(2, 0)", house.wills(2, 0), "2's heir is 0; he had none (9)");
        say("opens(0)", house.opens(0), "2's death would do (bits: 4)");
        say("odds(0, 3, 0)", house.odds(0, 3, 0), "if 2 dies by 3 of 10, then by 3 ..");
        say("odds(0, 3, 1)", house.odds(0, 3, 1), ".. of 10 he is not cut off");
        say("dies(2)", house.dies(2), "one is alive yet");
        say("person(0, 5)", house.person(0, 5), "he is not cut off");
        say("dies(2)", house.dies(2), "STATE: 2 is dead");
    }

    private static void say(String call, int answer, String words) {
        System.out.println((call + " = " + answer + "  " + words).trim());
    }
}

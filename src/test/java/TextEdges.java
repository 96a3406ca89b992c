import java.util.ArrayList;
import java.util.List;

/** The edges that Terms I and promises 1 to 5 name: the tape, the text of an inn, its faults. */
final class TextEdges {
    static final String LEAST = "inn minutes 1;room a creak 0;dream x 0 wait then 0;sleeper p bed a dreams x";
    private static final String TWO = "room a creak 1;room b creak 1;";
    private static final String[] KEPT = {"inn", "room", "door", "thing", "dream", "sleeper", "listens", "cold", "shut",
        "locked", "falls", "full", "then", "met", "go", "take", "put", "tip", "wait"};
    private static final String[] FREE = {"minutes", "creak", "in", "bed", "dreams"};

    private final Check check;

    TextEdges(Check check) {
        this.check = check;
    }

    void all() {
        newObject();
        tapeIsFull();
        highestFirst();
        wholeTapeIsRead();
        blanks();
        everyByte();
        words();
        wholes();
        lines();
        innLine();
        roomLine();
        doorLine();
        thingLine();
        dreamLine();
        acts();
        sleeperAndListensLine();
        keptWords();
        aheadOfUse();
        form();
        formAtTheEnd();
        otherSort();
        toldAgain();
        outOfBounds();
        many();
        lacks();
        firstFromTheLeft();
        leastNumber();
        innTakesTheFirstBytes();
        innRefusedByANumber();
        innRefusedByAFault();
        innAnew();
        innBehindAGreaterOne();
        fault();
        where();
    }

    private NightInn least() {
        return check.told(LEAST);
    }

    /** A text that is an inn; what it has is then asked of it. */
    private NightInn fine(String text) {
        NightInn x = new NightInn();
        check.due("inn of '" + text + "' is refused", Check.tell(x, text) < 0, false);
        check.due("fault() of '" + text + "'", x.fault(), 0);
        return x;
    }

    // ---- promise 1

    private void newObject() {
        check.promise(1, "No INN.");
        NightInn x = new NightInn();
        for (int what = 0; what <= 11; what++) {
            check.due("size(" + what + ")", x.size(what), 0);
        }
        check.due("fault()", x.fault(), 0);
        check.due("where()", x.where(), -1);
        check.due("trouble()", x.trouble(), 0);
        check.refuses(new NightInn(), 1, "mark()", NightInn::mark);
        check.refuses(new NightInn(), 1, "verdict()", NightInn::verdict);
        check.due("NONE", NightInn.NONE, -1);
        Check.tell(x, LEAST);
        check.due("another object's INN", new NightInn().size(0), 0);
    }

    // ---- promise 2

    private void tapeIsFull() {
        check.promise(2, "how many it has; NONE, and none comes, if there would be more than 900");
        NightInn x = new NightInn();
        Check.feed(x, LEAST + " ".repeat(880 - LEAST.length()));
        check.due("size(11)", x.size(11), 880);
        check.due("the feed up to 900", x.feed(0x20202020, 0x20202020, 0x20202020, 0x20202020, 0x20202020), 900);
        x.inn(-1);
        for (int i = 0; i < 3; i++) {
            check.due("a feed beyond 900", x.feed(0x3f3f3f3f, 0x3f3f3f3f, 0x3f3f3f3f, 0x3f3f3f3f, 0x3f3f3f3f), -1);
            check.due("size(11)", x.size(11), 900);
        }
        check.due("trouble() is not feed's", x.trouble(), 2);
        check.answers(x, 1, "inn(900), of what had come", y -> y.inn(900));
        check.due("size(11) behind inn()", x.size(11), 0);
        for (int i = 1; i <= 45; i++) {
            check.due("feed " + i + " on the empty tape", x.feed(i, -i, 0, -1, Integer.MIN_VALUE), 20 * i);
        }
        check.due("feed 46", x.feed(0, 0, 0, 0, 0), -1);
    }

    private void highestFirst() {
        check.promise(2, "Twenty bytes come behind THE TAPE, of each number the highest first");
        // Only one byte of twenty is a sign that begins no token: its place is told.
        for (int place = 0; place < 20; place++) {
            for (int sign : new int[] {0x21, 0x80, 0xff}) {
                int[] five = {0x20202020, 0x20202020, 0x20202020, 0x20202020, 0x20202020};
                int shift = 24 - place % 4 * 8;
                five[place / 4] = five[place / 4] & ~(255 << shift) | sign << shift;
                NightInn x = new NightInn();
                x.feed(five[0], five[1], five[2], five[3], five[4]);
                x.inn(20);
                check.due("place of the sign " + sign, x.where(), place);
            }
        }
        NightInn x = new NightInn();
        Check.feed(x, "inn minutes 5;room a");
        Check.feed(x, " creak 1;!          ");
        x.inn(40);
        check.due("a feed comes behind the one before", x.where(), 29);
    }

    private void wholeTapeIsRead() {
        check.promise(3, "THE TAPE has 900 bytes");
        String fill = " ".repeat(900 - LEAST.length());
        check.due("a WORD up to the last byte", fine(fill + LEAST).size(4), 1);
        check.due("900 bytes of lines", fine(LEAST + fill.substring(10) + ";listens a").size(5), 1);
        check.faulty(fill.substring(1) + LEAST + "!", 1, 899);
        check.faulty(fill.substring(1) + LEAST + ";", 1, 900);
        check.faulty(" ".repeat(900), 1, 900);
        check.faulty(";".repeat(900), 1, 0);
        check.faulty("a".repeat(900), 1, 0);
        check.faulty("1".repeat(900), 1, 0);
    }

    // ---- Terms I: tokens

    private void blanks() {
        check.promise(3, "blanks, 32, part TOKENS and mean nothing else");
        NightInn x = fine("   inn   minutes   7   ;   room   a   creak   3   cold   ;   room b creak 4;door   a   ,   b   "
            + "shut   falls   ;   thing k in b full;dream x 0 wait then 1 met 2;sleeper p bed b dreams x   ");
        check.due("size(6)", x.size(6), 7);
        check.due("door", x.doorway(0, 0), 1);
        // Where two tokens can't be one, no blank need part them.
        NightInn y = fine("inn minutes7;room a creak3cold;room b creak 4;door a,b shut;thing k in b full;"
            + "dream x 0wait then1met 2;sleeper p bed b dreams x");
        check.due("size(6)", y.size(6), 7);
        check.due("creak", y.room(0, 0), 3);
        check.due("cold", y.room(0, 1), 1);
        check.due("met", y.dream(0, 0, 3), 2);
        check.faultyAt("!in n minutes 1", 1);
        check.faultyAt("inn !min utes 1", 1);
        check.faultyAt("inn minutes 1 !2", 1);
        check.faultyAt("!innminut es 1", 1);
        check.faultyAt(TWO + "door a,!ab", 2);
    }

    private void everyByte() {
        check.promise(3, "FORM: the first byte that begins no TOKEN, or TOKEN with which no INN goes on");
        for (int sign = 0; sign < 256; sign++) {
            String text = LEAST + " " + (char) sign;
            if (sign == ' ') {
                fine(text);
            } else {
                check.faulty(text, 1, sign == ';' ? text.length() : text.length() - 1);
            }
        }
        // In place of the comma, of a NAME, of a WHOLE, of a line's first WORD: no other sign will do.
        for (int sign = 0; sign < 256; sign++) {
            if (sign != ',' && sign != ' ') {
                check.faulty(TWO + "door a " + (char) sign + " b", 1, TWO.length() + 7);
            }
            boolean isDigit = sign >= '0' && sign <= '9';
            boolean isLetter = sign >= 'a' && sign <= 'z';
            if (sign != ' ' && !isDigit) {
                check.faulty("inn minutes " + (char) sign, 1, 12);
                check.faulty("room a creak " + (char) sign, 1, 13);
            }
            if (sign != ' ' && !isLetter) {
                check.faulty("room " + (char) sign, 1, 5);
                check.faulty(TWO + "listens " + (char) sign, 1, TWO.length() + 8);
            }
            if (sign != ' ') {
                check.faulty((char) sign + " ", 1, 0);
                check.faulty("inn minutes 1;" + (char) sign, 1, 14);
            }
        }
    }

    private void words() {
        check.promise(3, "WORDS of 1 to 8 small letters that stand together");
        NightInn x = fine("inn minutes 1;room a creak 1;room aa creak 2;room aaaaaaaa creak 3;room z creak 4;room zzzzzzzz creak 5;"
            + "room abcdefgh creak 6;room abcdefgi creak 7;room bbcdefgh creak 8;thing k in abcdefgi;thing l in bbcdefgh;"
            + "thing m in aaaaaaaa;thing n in zzzzzzzz;dream x 0 wait then 0;sleeper p bed abcdefgh dreams x;"
            + "listens aa;listens z");
        int[] in = {6, 7, 2, 4};
        for (int t = 0; t < 4; t++) {
            check.due("ROOM of THING " + t, x.thing(t, 0), in[t]);
        }
        check.due("bed", x.sleeper(0, 0), 5);
        // Each letter at each of eight places makes another name.
        for (int place = 0; place < 8; place++) {
            for (char letter = 'a'; letter <= 'z'; letter++) {
                String other = "mmmmmmmm".substring(0, place) + letter + "mmmmmmmm".substring(place + 1);
                String text = "room mmmmmmmm creak 1;room !" + other + " creak";
                check.faultyAt(letter == 'm' ? text : text.replace("!", "") + "!", letter == 'm' ? 3 : 1);
            }
        }
        for (char one = 'a'; one <= 'z'; one++) {
            for (int two = 0; two < 26 * 26; two++) {
                String other = "" + (char) ('a' + two / 26) + (char) ('a' + two % 26);
                check.faultyAt("room " + one + " creak 1;listens !" + other, other.equals("go") ? 1 : 2);
            }
        }
        for (int letters = 1; letters < 8; letters++) {
            check.faultyAt("room " + "a".repeat(letters) + " creak 1;listens !" + "a".repeat(letters + 1), 2);
            check.faultyAt("room " + "a".repeat(letters + 1) + " creak 1;listens !" + "a".repeat(letters), 2);
        }
        check.promise(3, "WORDS of 1 to 8 small letters: nine are none");
        check.faultyAt("!abcdefghi", 1);
        check.faultyAt("!innnnnnnn minutes 1", 1);
        check.faultyAt("room !abcdefghi creak 1", 1);
        check.faultyAt("room abcdefgh creak 1;listens !abcdefghh", 1);
        check.faultyAt("room abcdefgh creak 1;listens !abcdefghabcdefgh", 1);
        check.faultyAt(TWO + "door a,!bbbbbbbbb", 1);
        check.faultyAt("inn minutes 1 !abcdefghij", 1);
        check.promise(3, "WORDS of small letters: great ones are none");
        check.faultyAt("!Inn minutes 1", 1);
        check.faultyAt("room !A creak 1", 1);
        check.faultyAt("room a!A creak 1", 1);
    }

    private void wholes() {
        check.promise(3, "WHOLES of 1 to 3 digits that do");
        for (String whole : new String[] {"9", "09", "009"}) {
            check.due("creak " + whole, fine(LEAST.replace("creak 0", "creak " + whole)).room(0, 0), 9);
        }
        for (String whole : new String[] {"0", "00", "000"}) {
            check.due("creak " + whole, fine(LEAST.replace("creak 0", "creak " + whole)).room(0, 0), 0);
        }
        for (int creak = 0; creak <= 9; creak++) {
            check.due("creak " + creak, fine(LEAST.replace("creak 0", "creak " + creak)).room(0, 0), creak);
        }
        check.due("minutes 040", fine(LEAST.replace("minutes 1", "minutes 040")).size(6), 40);
        check.promise(3, "WHOLES of 1 to 3 digits: four are none");
        check.faultyAt("inn minutes !0001", 1);
        check.faultyAt("inn minutes !1234", 1);
        check.faultyAt("room a creak !0000", 1);
        check.faultyAt("room a creak !4294967296", 1);
        check.faultyAt("room a creak !4294967297", 1);
        check.faultyAt(TWO + "dream x !0000", 1);
        check.faultyAt(TWO + "dream x 0 wait then !0000", 1);
        check.faultyAt(TWO + "dream x 0 wait then 0 met !0000", 1);
        check.faultyAt("room a creak !-1", 1);
        check.faultyAt("room a creak !+1", 1);
        check.faultyAt("room a creak 1!.5", 1);
    }

    // ---- Terms I: lines

    private void lines() {
        check.promise(3, "LINE {; LINE}");
        fine(LEAST);
        check.faultyAt("!;" + LEAST, 1);
        check.faultyAt(LEAST + ";!", 1);
        check.faultyAt(LEAST + ";!;", 1);
        check.faultyAt(LEAST.replaceFirst(";", ";!;"), 1);
        check.faultyAt(LEAST.replaceFirst(";", " !"), 1);
        check.faultyAt(LEAST.replaceFirst(";", "!,"), 1);
        check.faultyAt(LEAST + " !" + LEAST, 1);
        // The lines may stand in any order in which names are told ahead of their use.
        check.due("inn at the end", fine("room a creak 0;dream x 0 wait then 0;sleeper p bed a dreams x;inn minutes 3").size(6), 3);
        for (String first : FREE) {
            check.faultyAt("!" + first + " minutes 1", 1);
        }
        for (String first : new String[] {"cold", "shut", "locked", "falls", "full", "then", "met", "go", "take", "put", "tip",
            "wait"}) {
            check.faultyAt("!" + first, 1);
        }
    }

    private void innLine() {
        check.promise(3, "inn minutes WHOLE (1 .. 40)");
        for (int minutes = 1; minutes <= 40; minutes++) {
            check.due("minutes", fine(LEAST.replace("minutes 1", "minutes " + minutes)).size(6), minutes);
        }
        for (String bad : new String[] {"0", "00", "000", "41", "041", "99", "100", "101", "256", "999"}) {
            check.faultyAt("inn minutes !" + bad, 4);
        }
    }

    private void roomLine() {
        check.promise(3, "room NAME creak WHOLE, behind it perhaps cold (0 .. 9; up to 8)");
        check.due("not cold", fine(LEAST).room(0, 1), 0);
        check.due("cold", fine(LEAST.replace("creak 0", "creak 0 cold")).room(0, 1), 1);
        for (String bad : new String[] {"10", "010", "11", "99", "256", "999"}) {
            check.faultyAt("room a creak !" + bad, 4);
        }
        check.faultyAt("room a !cold creak 1", 1);
        check.faultyAt("room a creak !cold 1", 1);
        check.faultyAt("room a creak 1 cold !cold", 1);
        for (int rooms = 1; rooms <= 8; rooms++) {
            NightInn x = fine(rooms(rooms) + "dream x 0 wait then 0;sleeper p bed a dreams x;inn minutes 1");
            check.due("size(0)", x.size(0), rooms);
            check.due("the last ROOM creaks", x.room(rooms - 1, 0), rooms % 10);
        }
        check.faultyAt(rooms(8) + "!room i creak 1", 5);
        check.faultyAt(rooms(8) + "inn minutes 1;!room", 5);
    }

    /** Rooms a, b, .. that creak 1, 2, .. */
    private static String rooms(int count) {
        StringBuilder text = new StringBuilder();
        for (int i = 0; i < count; i++) {
            text.append("room ").append((char) ('a' + i)).append(" creak ").append(i + 1).append(';');
        }
        return text.toString();
    }

    /** Eight rooms, and so many doors between them. */
    private static String doors(int count) {
        StringBuilder text = new StringBuilder(rooms(8));
        for (int i = 0; i < count; i++) {
            text.append("door ").append((char) ('a' + i / 6)).append(',').append((char) ('c' + i % 6)).append(';');
        }
        return text.toString();
    }

    private void doorLine() {
        check.promise(3, "door ROOM, ROOM, behind it perhaps shut, or locked, then perhaps falls (up to 10)");
        String[] behind = {"", " shut", " locked", " falls", " shut falls", " locked falls"};
        for (int i = 0; i < behind.length; i++) {
            NightInn x = fine("inn minutes 1;" + TWO + "door a,b" + behind[i] + ";dream x 0 go b then 0;sleeper p bed a dreams x");
            check.due("how the door is as told" + behind[i], x.doorway(0, 0), i % 3);
            x.nightfall(1);
            x.morning();
            check.due("how it is behind one, told" + behind[i], x.doorway(0, 0), i / 3);
        }
        check.faultyAt(TWO + "door a,b shut !locked", 1);
        check.faultyAt(TWO + "door a,b shut !shut", 1);
        check.faultyAt(TWO + "door a,b locked !shut", 1);
        check.faultyAt(TWO + "door a,b locked !locked", 1);
        check.faultyAt(TWO + "door a,b falls !shut", 1);
        check.faultyAt(TWO + "door a,b falls !locked", 1);
        check.faultyAt(TWO + "door a,b falls !falls", 1);
        check.faultyAt(TWO + "door a,b shut falls !falls", 1);
        check.faultyAt(TWO + "door a,!,b", 1);
        check.faultyAt(TWO + "door a !b", 1);
        check.faultyAt(TWO + "door a!;", 1);
        for (int doors = 0; doors <= 10; doors++) {
            NightInn x = fine(doors(doors) + "dream x 0 wait then 0;sleeper p bed a dreams x;inn minutes 1");
            check.due("size(1)", x.size(1), doors);
        }
        check.faultyAt(doors(10) + "!door b,g", 5);
        check.faultyAt(doors(10) + "!door", 5);
    }

    private void thingLine() {
        check.promise(3, "thing NAME in ROOM, behind it perhaps full (up to 4)");
        check.due("not full", fine(LEAST + ";thing k in a").thing(0, 1), 0);
        check.due("full", fine(LEAST + ";thing k in a full").thing(0, 1), 1);
        String things = ";thing k in a;thing l in a full;thing m in a;thing n in a full";
        check.due("size(2)", fine(LEAST).size(2), 0);
        check.due("size(2)", fine(LEAST + things).size(2), 4);
        check.due("the fourth is full", fine(LEAST + things).thing(3, 1), 1);
        check.faultyAt(LEAST + things + ";!thing o in a", 5);
        check.faultyAt(LEAST + things + ";!thing", 5);
        check.faultyAt(LEAST + ";thing k !full in a", 1);
        check.faultyAt(LEAST + ";thing k in a full !full", 1);
    }

    private void dreamLine() {
        check.promise(3, "STATES 0 .. 3 each; up to 4 DREAMS, each STATE of one once");
        for (int number = 0; number <= 3; number++) {
            check.due("STATE", fine(LEAST.replace("x 0", "x " + number)).dream(0, number, 0), 4);
            check.due("then", fine(LEAST.replace("then 0", "then " + number)).dream(0, 0, 2), number);
            check.due("met", fine(LEAST.replace("then 0", "then 0 met " + number)).dream(0, 0, 3), number);
        }
        check.due("no met", fine(LEAST).dream(0, 0, 3), -2);
        for (String bad : new String[] {"4", "04", "004", "5", "10", "256", "999"}) {
            check.faultyAt(TWO + "dream x !" + bad, 4);
            check.faultyAt(TWO + "dream x 0 wait then !" + bad, 4);
            check.faultyAt(TWO + "dream x 0 wait then 0 met !" + bad, 4);
        }
        StringBuilder all = new StringBuilder(LEAST + ";dream x 1 wait then 1;dream x 2 wait then 2;dream x 3 wait then 3");
        for (String name : new String[] {"y", "z", "u"}) {
            for (int state = 3; state >= 0; state--) {
                all.append(";dream ").append(name).append(' ').append(state).append(" wait then ").append(state);
            }
        }
        NightInn x = fine(all.toString());
        check.due("size(3)", x.size(3), 4);
        for (int i = 0; i < 16; i++) {
            check.due("then of STATE " + i % 4 + " of DREAM " + i / 4, x.dream(i / 4, i % 4, 2), i % 4);
        }
        check.faultyAt(all + ";dream !v 0 wait then 0", 5);
        check.faultyAt(all + ";dream !v", 5);
        for (int i = 0; i < 16; i++) {
            check.faultyAt(all + ";dream " + "xyzu".charAt(i / 4) + " !" + i % 4, 3);
        }
        check.faultyAt(TWO + "dream x 0 wait then 0;dream x !000", 3);
    }

    private void acts() {
        check.promise(3, "ACT: go ROOM, take THING, put, tip THING, wait, or shut ROOM");
        String[] acts = {"go b", "take k", "put", "tip k", "wait", "shut b"};
        int[] targets = {1, 0, -2, 0, -2, 1};
        String house = "inn minutes 1;" + TWO + "thing k in a;";
        for (int act = 0; act < acts.length; act++) {
            NightInn x = fine(house + "dream x 0 " + acts[act] + " then 1;sleeper p bed a dreams x");
            check.due("ACT of " + acts[act], x.dream(0, 0, 0), act);
            check.due("ROOM or THING of " + acts[act], x.dream(0, 0, 1), targets[act]);
            if (targets[act] >= 0) {
                String bare = acts[act].substring(0, acts[act].indexOf(' '));
                check.faultyAt(house + "dream x 0 " + bare + " !then", 1);
                check.faultyAt(house + "dream x 0 " + bare + "!", 1);
                check.faultyAt(house + "dream x 0 " + bare + " !0", 1);
                check.faultyAt(house + "dream x 0 " + acts[act] + " !k", 1);
            } else {
                check.faultyAt(house + "dream x 0 " + acts[act] + " !k then 1", 1);
                check.faultyAt(house + "dream x 0 " + acts[act] + " !b then 1", 1);
            }
            check.faultyAt(house + "dream x !" + acts[act] + " then 1", 1);
        }
        for (String word : new String[] {"inn", "room", "door", "thing", "dream", "sleeper", "listens", "cold", "locked", "falls",
            "full", "then", "met", "minutes", "creak", "in", "bed", "dreams", "k", "b", "x", "open"}) {
            check.faultyAt(house + "dream x 0 !" + word, 1);
        }
    }

    private void sleeperAndListensLine() {
        check.promise(3, "sleeper NAME bed ROOM dreams DREAM (up to 3), or listens ROOM (up to 3)");
        String house = "inn minutes 1;" + rooms(4) + "dream x 0 wait then 0;dream y 0 wait then 0;sleeper p bed a dreams x";
        String more = ";sleeper q bed b dreams y;sleeper r bed c dreams x";
        check.due("inn() of one", Check.tell(new NightInn(), house), 1);
        check.due("inn() of three", Check.tell(new NightInn(), house + more), 3);
        check.due("the third's bed", fine(house + more).sleeper(2, 0), 2);
        check.due("the second's DREAM", fine(house + more).sleeper(1, 4), 1);
        check.faultyAt(house + more + ";!sleeper s bed a dreams x", 5);
        check.faultyAt(house + more + ";!sleeper", 5);
        check.due("nobody listens", fine(house).size(5), 0);
        check.due("three listen", fine(house + ";listens c;listens a;listens b").size(5), 3);
        check.faultyAt(house + ";listens c;listens a;listens b;!listens d", 5);
        check.faultyAt(house + ";listens c;listens a;listens b;!listens", 5);
    }

    private void keptWords() {
        check.promise(3, "NAMES are WORDS but inn, room, door, thing, dream, sleeper, listens, cold, .. wait");
        String all = TWO + "thing k in a;dream x 0 wait then 0;";
        for (String word : KEPT) {
            check.faultyAt("room !" + word + " creak 1", 1);
            check.faultyAt(TWO + "thing !" + word + " in a", 1);
            check.faultyAt(TWO + "thing k in !" + word, 1);
            check.faultyAt(TWO + "door !" + word + ",a", 1);
            check.faultyAt(TWO + "door a,!" + word, 1);
            check.faultyAt(TWO + "dream !" + word + " 0", 1);
            check.faultyAt(TWO + "dream x 0 go !" + word, 1);
            check.faultyAt(TWO + "dream x 0 shut !" + word, 1);
            check.faultyAt(all + "dream y 0 take !" + word, 1);
            check.faultyAt(all + "dream y 0 tip !" + word, 1);
            check.faultyAt(all + "sleeper !" + word + " bed a dreams x", 1);
            check.faultyAt(all + "sleeper p bed !" + word + " dreams x", 1);
            check.faultyAt(all + "sleeper p bed a dreams !" + word, 1);
            check.faultyAt(TWO + "listens !" + word, 1);
            // One letter more or less, and it may be a name.
            if (word.length() < 8) {
                check.faultyAt("room " + word + "x creak!", 1);
            }
            check.faultyAt("room " + word.substring(0, word.length() - 1) + " creak!", 1);
        }
        for (String word : FREE) {
            NightInn x = fine("inn minutes 1;room " + word + " creak 7;thing k in " + word + ";dream x 0 go " + word
                + " then 0;sleeper p bed " + word + " dreams x;listens " + word);
            check.due("a ROOM named " + word, x.room(0, 0), 7);
            fine("inn minutes 1;room a creak 0;thing " + word + " in a;dream x 0 tip " + word + " then 0;sleeper p bed a dreams x");
            fine("inn minutes 1;room a creak 0;dream " + word + " 0 wait then 0;sleeper p bed a dreams " + word);
            fine("inn minutes 1;room a creak 0;dream x 0 wait then 0;sleeper " + word + " bed a dreams x");
        }
    }

    private void aheadOfUse() {
        check.promise(3, "each told once (but a DREAM's), ahead of its use");
        check.faultyAt("room a creak 1;door a,!b;room b creak 1", 2);
        check.faultyAt("room b creak 1;door !a,b;room a creak 1", 2);
        check.faultyAt("thing k in !a;room a creak 1", 2);
        check.faultyAt("dream x 0 go !a then 0;room a creak 1", 2);
        check.faultyAt("dream x 0 shut !a then 0;room a creak 1", 2);
        check.faultyAt("dream x 0 take !k then 0;room a creak 1;thing k in a", 2);
        check.faultyAt("dream x 0 tip !k then 0;room a creak 1;thing k in a", 2);
        check.faultyAt("sleeper p bed !a dreams x;room a creak 1", 2);
        check.faultyAt("room a creak 1;sleeper p bed a dreams !x;dream x 0 wait then 0", 2);
        check.faultyAt("listens !a;room a creak 1", 2);
        // A STATE's then and met may be of STATES that are told later, or never.
        NightInn x = fine(LEAST.replace("then 0", "then 3 met 2"));
        check.due("then", x.dream(0, 0, 2), 3);
        // What is told of a DREAM behind the sleeper counts, too.
        NightInn late = fine(LEAST + ";dream x 1 wait then 2");
        check.due("a STATE told late", late.dream(0, 1, 2), 2);
    }

    // ---- Terms I: faults

    private void form() {
        check.promise(4, "1 FORM: TOKEN with which no INN goes on");
        String all = TWO + "thing k in a;dream x 0 wait then 0;";
        // Each token of each line, with another sort of token in its place.
        String[] good = {"inn|minutes|5", "room|c|creak|3|cold", "door|a|,|b|shut|falls", "thing|l|in|a|full",
            "dream|y|0|go|a|then|1|met|2", "dream|y|0|put|then|1|met|2", "sleeper|p|bed|a|dreams|x", "listens|a"};
        for (String line : good) {
            String[] tokens = line.split("\\|");
            for (int i = 0; i < tokens.length; i++) {
                StringBuilder start = new StringBuilder(all);
                for (int j = 0; j < i; j++) {
                    start.append(tokens[j]).append(' ');
                }
                check.faultyAt(start + "!.", 1);
                if (!tokens[i].equals(",")) {
                    check.faultyAt(start + "!,", 1);
                }
                boolean isWhole = Character.isDigit(tokens[i].charAt(0));
                check.faultyAt(start + (isWhole ? "!a" : "!1"), 1);
            }
            check.faultyAt(all + line.replace('|', ' ') + " !1", 1);
            check.faultyAt(all + line.replace('|', ' ') + " !,", 1);
            check.faultyAt(all + line.replace('|', ' ') + " !room", 1);
            check.faultyAt(all + line.replace('|', ' ') + " !zz", 1);
        }
    }

    private void formAtTheEnd() {
        check.promise(5, "FORM .. (the end: its place)");
        NightInn none = new NightInn();
        check.due("inn(0) of an empty TAPE", none.inn(0), -1);
        check.due("fault()", none.fault(), 1);
        check.due("where()", none.where(), 0);
        // A line cut short behind each of its tokens, with and without blanks.
        String all = TWO + "thing k in a;dream x 0 wait then 0;";
        String[] good = {"inn |minutes |5", "room |c |creak |3", "door |a |, |b", "thing |l |in |a", "dream |y |0 |go |a |then |1",
            "dream |y |0 |take |k |then |1", "dream |y |0 |wait |then |1", "sleeper |p |bed |a |dreams |x", "listens |a"};
        List<String> cut = new ArrayList<>(List.of("", " ", "     "));
        for (String line : good) {
            String[] tokens = line.split("\\|");
            StringBuilder start = new StringBuilder(all);
            for (int i = 0; i < tokens.length - 1; i++) {
                start.append(tokens[i]);
                cut.add(start.toString().trim());
                cut.add(start + "  ");
            }
        }
        cut.add(all + "dream y 0 wait then 1 met");
        cut.add(all);
        cut.add(LEAST + ";");
        cut.add(LEAST + ";   ");
        for (String text : cut) {
            check.faulty(text, 1, text.length());
        }
    }

    private void otherSort() {
        check.promise(4, "2 a NAME that isn't told, or is of another sort than must stand there; at it");
        String all = TWO + "thing k in a;dream x 0 wait then 0;sleeper p bed a dreams x;";
        String[] rooms = {"door !", "door a,!", "thing l in !", "dream y 0 go !", "dream y 0 shut !", "sleeper q bed !", "listens !"};
        for (String line : rooms) {
            for (String name : new String[] {"c", "k", "x", "p", "aa", "creak"}) {
                check.faultyAt(all + line + name, 2);
            }
        }
        for (String line : new String[] {"dream y 0 take !", "dream y 0 tip !"}) {
            for (String name : new String[] {"l", "a", "x", "p", "y"}) {
                check.faultyAt(all + line + name, 2);
            }
        }
        for (String name : new String[] {"y", "a", "k", "p", "q"}) {
            check.faultyAt(all + "sleeper q bed a dreams !" + name, 2);
        }
    }

    private void toldAgain() {
        check.promise(4, "3 a NAME told again (of a DREAM: as something else); at it");
        String all = TWO + "thing k in a;dream x 0 wait then 0;sleeper p bed a dreams x;";
        for (String sort : new String[] {"room", "thing", "sleeper", "dream"}) {
            for (String name : new String[] {"a", "b", "k", "x", "p"}) {
                if (!(sort.equals("dream") && name.equals("x"))) {
                    check.faultyAt(all + sort + " !" + name, 3);
                }
            }
        }
        // All names that there can be, up to the last one.
        for (String name : new String[] {"a", "h", "k", "n", "p", "q", "r"}) {
            check.faultyAt(NightEdges.FULL + ";dream !" + name, 3);
        }
        check.promise(4, "3 the second ROOM of a door that is the first; at it");
        check.faultyAt(TWO + "door a,!a", 3);
        check.faultyAt(TWO + "door b,!b", 3);
        check.promise(4, "3 two told again (either way round); at it");
        String three = TWO + "room c creak 1;";
        check.faultyAt(three + "door a,b;door a,!b", 3);
        check.faultyAt(three + "door a,b;door b,!a", 3);
        check.faultyAt(three + "door b,a locked;door c,a;door a,!b", 3);
        check.faultyAt(three + "door a,b;door b,c;door c,!b", 3);
        check.due("other two", fine(LEAST + ";room b creak 0;room c creak 0;door a,b;door b,c;door c,a").size(1), 3);
        check.promise(4, "3 a STATE of a DREAM told again; at it");
        for (int state = 0; state < 4; state++) {
            check.faultyAt("dream x " + state + " wait then 0;dream x !" + state, 3);
            check.faultyAt("dream x " + state + " wait then 0;dream y " + state + " wait then 0;dream x !" + state, 3);
            check.faultyAt("dream x " + state + " wait then 0;dream y " + state + " wait then 0;dream y !00" + state, 3);
        }
        check.promise(4, "3 a ROOM that listens told again; at it");
        check.faultyAt(TWO + "listens a;listens !a", 3);
        check.faultyAt(TWO + "listens b;listens a;listens !b", 3);
        check.promise(4, "3 a second inn; at that WORD");
        check.faultyAt("inn minutes 5;!inn minutes 5", 3);
        check.faultyAt("inn minutes 5;" + TWO + "!inn", 3);
        check.faultyAt(LEAST + ";!inn minutes 1", 3);
        check.faultyAt(LEAST + ";!inn minutes 41", 3);
    }

    private void outOfBounds() {
        check.promise(4, "4 a WHOLE out of bounds; at it");
        check.faultyAt("inn minutes   !0", 4);
        check.faultyAt("inn minutes !41", 4);
        check.faultyAt("room a creak !10", 4);
        check.faultyAt("room a creak   !010 cold", 4);
        check.faultyAt("dream x !4", 4);
        check.faultyAt("dream x 3 wait then !4", 4);
        check.faultyAt("dream x 3 wait then 3 met !4", 4);
    }

    private void many() {
        check.promise(4, "5 MANY: a LINE more of its sort than there is room for, at its first WORD");
        // Whatever stands behind the WORD.
        String things = TWO + "thing k in a;thing l in a;thing m in a;thing n in a;";
        String sleepers = TWO + "dream x 0 wait then 0;sleeper p bed a dreams x;sleeper q bed a dreams x;sleeper r bed a dreams x;";
        String listens = rooms(4) + "listens a;listens b;listens c;";
        for (String behind : new String[] {"", " a", " room", " 7", ";", ",", ".", " zz in a", " abcdefghi"}) {
            check.faultyAt(rooms(8) + "!room" + behind, 5);
            check.faultyAt(doors(10) + "!door" + behind, 5);
            check.faultyAt(things + "!thing" + behind, 5);
            check.faultyAt(sleepers + "!sleeper" + behind, 5);
            check.faultyAt(listens + "!listens" + behind, 5);
        }
        check.faultyAt(rooms(8) + "   !room i creak 1", 5);
        check.promise(4, "5 a fifth DREAM; at its NAME");
        String dreams = TWO + "dream x 0 wait then 0;dream y 0 wait then 0;dream z 0 wait then 0;dream u 0 wait then 0;";
        check.faultyAt(dreams + "dream !v 0 wait then 0", 5);
        check.faultyAt(dreams + "dream   !v", 5);
        check.faultyAt(dreams + "dream x 1 wait then 0;dream !v", 5);
        check.due("size(3)", fine(dreams + "dream u 1 wait then 0;inn minutes 1;sleeper p bed a dreams u").size(3), 4);
    }

    private void lacks() {
        check.promise(4, "6 LACKS, at the end: no inn, no room, no sleeper");
        for (String blanks : new String[] {"", " ", "      "}) {
            check.faultyAt("room a creak 1;dream x 0 wait then 0;sleeper p bed a dreams x" + blanks + "!", 6);
            check.faultyAt("inn minutes 1" + blanks + "!", 6);
            check.faultyAt("inn minutes 1;dream x 0 wait then 0" + blanks + "!", 6);
            check.faultyAt("inn minutes 1;room a creak 1" + blanks + "!", 6);
            check.faultyAt("inn minutes 1;room a creak 1;dream x 0 wait then 0;listens a" + blanks + "!", 6);
            check.faultyAt("room a creak 1" + blanks + "!", 6);
        }
        fine(LEAST);
    }

    private void firstFromTheLeft() {
        check.promise(4, "FAULTS, the first that is met from the left");
        check.faultyAt("inn minutes !41;;", 4);
        check.faultyAt("inn minutes 4!.1;inn", 1);
        check.faultyAt("thing k in !a.", 2);
        check.faultyAt("room a creak !10 a", 4);
        check.faultyAt("room a creak 1 !a creak 10", 1);
        check.faultyAt("inn minutes 5;!inn 7", 3);
        check.faultyAt("room a creak 1;room !a 5", 3);
        check.faultyAt("dream x !4 fly", 4);
        check.faultyAt(TWO + "door a,!a,a", 3);
        check.faultyAt(TWO + "door !c,c", 2);
        check.faultyAt(LEAST.replace("bed a", "bed !b") + ";.", 2);
        check.faultyAt(TWO + "dream x 0 go !k then 4", 2);
        check.faultyAt(TWO + "dream x 0 go a then !4 met 4", 4);
    }

    private void leastNumber() {
        check.promise(4, "of one place the least number");
        // FORM ahead of LACKS, at the end.
        check.faultyAt("inn minutes 1;!", 1);
        check.faultyAt("inn!", 1);
        // A NAME of something else ahead of a fifth DREAM.
        String dreams = TWO + "thing k in a;dream x 0 wait then 0;sleeper p bed a dreams x;dream y 0 wait then 0;"
            + "dream z 0 wait then 0;dream u 0 wait then 0;";
        for (String name : new String[] {"a", "k", "p"}) {
            check.faultyAt(dreams + "dream !" + name, 3);
        }
        check.faultyAt(dreams + "dream !wait", 1);
        check.faultyAt(dreams + "dream !5", 1);
        // MANY, at the first WORD, is left of what is told again behind it.
        check.faultyAt(rooms(8) + "!room a creak 1", 5);
        check.faultyAt(doors(10) + "!door a,c", 5);
        check.faultyAt(rooms(4) + "listens a;listens b;listens c;!listens a", 5);
    }

    // ---- promises 3 to 5

    private void innTakesTheFirstBytes() {
        check.promise(3, "The first n bytes of THE TAPE (it is empty then) are the INN from now on: how many sleepers");
        NightInn x = new NightInn();
        Check.feed(x, LEAST + ";listens a");
        check.answers(x, 1, "inn(n) within what has come", y -> y.inn(LEAST.length()));
        check.due("who listens", x.size(5), 0);
        check.due("size(11)", x.size(11), 0);
        check.refuses(x, 2, "inn(1) on the emptied TAPE", y -> y.inn(1));
        // What stands behind the n-th byte is not looked at, even if it stands together with it.
        Check.feed(x, LEAST + "y!!");
        check.answers(x, 1, "inn(n) within a WORD", y -> y.inn(LEAST.length()));
        String last = LEAST.substring("inn minutes 1;".length()) + ";inn minutes 1";
        Check.feed(x, last + "2");
        check.answers(x, 1, "inn(n) within a WHOLE", y -> y.inn(last.length()));
        check.due("minutes", x.size(6), 1);
        NightInn cut = new NightInn();
        Check.feed(cut, LEAST);
        check.due("inn(2)", cut.inn(2), -1);
        check.due("a cut WORD", cut.fault(), 1);
        check.due("its place", cut.where(), 0);
        check.due("size(11)", cut.size(11), 0);
        // What an earlier TAPE had is not there any more.
        Check.feed(cut, LEAST);
        cut.inn(0);
        check.due("fault() of inn(0)", cut.fault(), 1);
        check.due("where() of inn(0)", cut.where(), 0);
        check.due("size(11) behind inn(0)", cut.size(11), 0);
        Check.feed(cut, "inn minutes 1       ");
        cut.inn(20);
        check.due("fault() of what came anew", cut.fault(), 6);
        check.due("where() of what came anew", cut.where(), 20);
        check.due("inn() of two", Check.tell(cut, LEAST + ";sleeper q bed a dreams x"), 2);
    }

    private void innRefusedByANumber() {
        check.promise(3, "NONE: 2 (THE TAPE stays)");
        for (int length : new int[] {0, 20, 80, 900}) {
            for (int n : Check.outside(0, length)) {
                NightInn x = least();
                Check.feed(x, " ".repeat(length));
                check.refuses(x, 2, "inn(" + n + ") of " + length, y -> y.inn(n));
            }
        }
        NightInn x = new NightInn();
        Check.feed(x, LEAST);
        check.refuses(x, 2, "inn(81) of 80", y -> y.inn(81));
        check.refuses(x, 2, "inn(-1)", y -> y.inn(-1));
        check.answers(x, 1, "inn(80), of the TAPE that stayed", y -> y.inn(80));
    }

    private void innRefusedByAFault() {
        check.promise(3, "4 (the INN stays)");
        String[] faulty = {"", "room", "room a creak 1;room a", LEAST + ";thing k in b", LEAST.replace("1", "0"), rooms(8) + "room",
            "inn minutes 2;room z creak 2"};
        for (String text : faulty) {
            NightInn x = least();
            int[] sizes = Check.sizes(x);
            Check.feed(x, text);
            check.due("inn of '" + text + "'", x.inn(text.length()), -1);
            check.due("trouble()", x.trouble(), 4);
            int[] behind = Check.sizes(x);
            for (int what = 0; what < sizes.length; what++) {
                check.due("size(" + what + ") behind '" + text + "'", behind[what], sizes[what]);
            }
            check.due("its ROOM", x.room(0, 0), 0);
            check.due("its DREAM", x.dream(0, 0, 0), 4);
            check.answers(x, 1, "its night", NightInn::morning);
        }
    }

    private void innAnew() {
        check.promise(3, "a NIGHT at nightfall, without a SETTING; DREAMS as told; no NOTES, no MARKS");
        String text = "inn minutes 5;room a creak 1;room b creak 2;door a,b shut;thing k in a full;dream x 0 tip k then 1;"
            + "dream x 1 take k then 2;dream x 2 go b then 2;dream y 0 wait then 0;sleeper p bed a dreams x;listens a";
        NightInn x = check.told(text);
        x.nightfall(1);
        x.minutes(4);
        x.mark();
        x.noteDoor(0, 0, 1);
        x.dreams(0, 1);
        check.due("the NIGHT has gone on", x.sleeper(0, 0), 1);
        check.answers(x, 1, "inn() of the same text", y -> Check.tell(y, text));
        int[] sizes = {2, 1, 1, 2, 1, 1, 5, 0, 0, 0, 0, 0};
        for (int what = 0; what < sizes.length; what++) {
            check.due("size(" + what + ")", x.size(what), sizes[what]);
        }
        int[] sleeper = {0, 0, -2, 0, 0};
        for (int what = 0; what < sleeper.length; what++) {
            check.due("sleeper(0, " + what + ")", x.sleeper(0, what), sleeper[what]);
        }
        int[] thing = {0, 1, -2};
        for (int what = 0; what < thing.length; what++) {
            check.due("thing(0, " + what + ")", x.thing(0, what), thing[what]);
        }
        check.due("how the door is", x.doorway(0, 0), 1);
        check.due("how often through", x.doorway(0, 1), 0);
        check.due("creaks(0)", x.creaks(0), 0);
        check.denies(x, 1, "back(0)", y -> y.back(0));
        check.denies(x, 6, "strike()", NightInn::strike);
        check.due("by DREAMS as told", x.called(0, 0, 3), 1);
        x.nightfall(0);
        check.due("DREAM at the next nightfall", x.sleeper(0, 4), 0);
    }

    private void innBehindAGreaterOne() {
        check.promise(3, "the INN from now on: nothing of the one before");
        NightInn x = new NightInn();
        String small = "inn minutes 2;room z creak 4;dream c 1 wait then 0;sleeper b bed z dreams c";
        int[] sizes = {1, 0, 0, 1, 1, 0, 2, 0, 0, 0, 0, 0};
        // An INN that is read has the place of the last but one: so each is told twice.
        for (int turn = 0; turn < 3; turn++) {
            check.due("inn() of all there is room for", Check.tell(x, NightEdges.FULL), 3);
            check.due("inn() of it again", Check.tell(x, NightEdges.FULL), 3);
            for (int times = 0; times < 2; times++) {
                check.due("inn() of little", Check.tell(x, small), 1);
                for (int what = 0; what < sizes.length; what++) {
                    check.due("size(" + what + ") of little", x.size(what), sizes[what]);
                }
                check.due("creak", x.room(0, 0), 4);
                check.due("cold", x.room(0, 1), 0);
                check.due("STATE 0, not told any more", x.dream(0, 0, 0), -1);
                check.due("STATE 1", x.dream(0, 1, 0), 4);
                check.due("fits(0)", x.fits(0), 1);
            }
        }
        for (String name : new String[] {"a", "h", "k", "x", "p"}) {
            NightInn y = check.told(NightEdges.FULL);
            Check.tell(y, "room zz creak 1;listens " + name);
            check.due("a NAME of the INN before isn't told: " + name, y.fault(), 2);
            Check.tell(y, small.replace("room z", "room " + name).replace("bed z", "bed " + name));
            check.due("a NAME of the INN before may be told: " + name, y.fault(), 0);
        }
    }

    private void fault() {
        check.promise(4, "The FAULT of the latest inn() not refused by 2; 0 without one");
        NightInn x = new NightInn();
        check.due("fault() of a new object", x.fault(), 0);
        x.inn(1);
        check.due("fault() behind 2", x.fault(), 0);
        String[] texts = {"inn", "listens a", "inn minutes 1;inn", "inn minutes 0", rooms(8) + "room", "inn minutes 1"};
        for (int i = 0; i < texts.length; i++) {
            Check.tell(x, texts[i]);
            check.due("fault() of '" + texts[i] + "'", x.fault(), i + 1);
            x.inn(21);
            check.due("fault() behind 2 behind that", x.fault(), i + 1);
            x.inn(-1);
            x.far(0, 0);
            x.morning();
            check.due("fault() behind other calls", x.fault(), i + 1);
        }
        Check.tell(x, LEAST);
        check.due("fault() behind an INN", x.fault(), 0);
        x.inn(1);
        check.due("fault() behind an INN and 2", x.fault(), 0);
        x.inn(0);
        check.due("fault() of inn(0)", x.fault(), 1);
    }

    private void where() {
        check.promise(5, "Its place, if the latest call that may be refused was by 4; NONE else");
        NightInn x = least();
        check.due("where() behind an INN", x.where(), -1);
        Check.tell(x, "inn minutes 41");
        check.due("where() behind 4", x.where(), 12);
        check.due("where() once more", x.where(), 12);
        x.feed(1, 2, 3, 4, 5);
        x.fault();
        x.size(0);
        x.size(99);
        x.trouble();
        Check.led(x, 0);
        check.due("where() behind calls that can't be refused", x.where(), 12);
        x.inn(21);
        check.due("where() behind 2", x.where(), -1);
        check.due("fault() behind 2", x.fault(), 4);
        for (int refused = 0; refused < 2; refused++) {
            NightInn y = least();
            y.inn(0);
            check.due("where() of inn(0)", y.where(), 0);
            if (refused == 0) {
                y.far(0, 0);
            } else {
                y.far(9, 9);
            }
            check.due("where() behind another call", y.where(), -1);
        }
        Check.tell(x, "inn minutes 41");
        Check.tell(x, LEAST);
        check.due("where() behind an INN behind a FAULT", x.where(), -1);
    }
}

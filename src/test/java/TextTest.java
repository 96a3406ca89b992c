/** Promises 1 to 5: the tape, the text of an inn, and its faults. */
public final class TextTest {
    private static final String LEAST =
        "inn minutes 1;room a creak 0;dream x 0 wait then 0;sleeper p bed a dreams x";
    private static final String TWO = "room a creak 1;room b creak 1;";

    private static final Check check = new Check();

    public static void main(String[] args) {
        newObject();
        tape();
        innAnswers();
        innBeginsAnew();
        innByInn();
        innEndsWithinAToken();
        tokens();
        form();
        names();
        toldAgain();
        bounds();
        many();
        lacks();
        leastNumber();
        check.end();
    }

    private static void newObject() {
        NightInn x = new NightInn();
        for (int what = 0; what <= 11; what++) {
            check.due("size(" + what + ") of a new object", x.size(what), 0);
        }
        check.due("trouble() of a new object", x.trouble(), 0);
        check.due("fault() of a new object", x.fault(), 0);
        check.due("where() of a new object", x.where(), -1);
        check.due("NONE", NightInn.NONE, -1);
    }

    private static void tape() {
        NightInn x = new NightInn();
        x.far(0, 0);
        for (int i = 1; i <= 45; i++) {
            check.due("feed " + i, x.feed(i, i, i, i, i), 20 * i);
        }
        check.due("feed beyond 900", x.feed(1, 2, 3, 4, 5), -1);
        check.due("size(11) of a full tape", x.size(11), 900);
        check.due("trouble() isn't feed's", x.trouble(), 1);
        check.refused(x, "inn(901)", x.inn(901), 2);
        check.refused(x, "inn(-1)", x.inn(-1), 2);
        check.due("the tape stays", x.size(11), 900);
        check.due("fault() behind 2", x.fault(), 0);
        check.refused(x, "inn(900)", x.inn(900), 4);
        check.due("the tape is empty", x.size(11), 0);
        check.due("feed on an emptied tape", x.feed(0, 0, 0, 0, 0), 20);

        NightInn order = new NightInn();
        // 'inn ' 'minu' 'tes ' '6;z?' : the highest byte of each comes first.
        order.feed(0x696e6e20, 0x6d696e75, 0x74657320, 0x363b7a3f, 0xff808020);
        check.refused(order, "inn(20)", order.inn(20), 4);
        check.due("fault() of z", order.fault(), 1);
        check.due("where() of z", order.where(), 14);
    }

    private static void innAnswers() {
        NightInn x = new NightInn();
        check.plain(x, "inn of the least text", Check.tell(x, LEAST), 1);
        check.due("fault() without one", x.fault(), 0);
        check.due("where() without one", x.where(), -1);
        check.due("size(11)", x.size(11), 0);
        check.refused(x, "inn(0)", x.inn(0), 4);
        check.due("fault()", x.fault(), 1);
        check.due("where()", x.where(), 0);
        check.due("the inn stays", x.size(4), 1);
        check.refused(x, "inn(1)", x.inn(1), 2);
        check.due("fault() isn't of what 2 refused", x.fault(), 1);
        check.due("where() behind 2", x.where(), -1);
        x.inn(0);
        x.size(0);
        x.feed(1, 1, 1, 1, 1);
        check.due("where() goes on behind calls that can't be refused", x.where(), 0);
        x.far(0, 0);
        check.due("where() behind another call", x.where(), -1);

        x = check.told(LEAST + ";listens a");
        Check.feed(x, LEAST + ";listens a");
        check.plain(x, "inn of the first bytes", x.inn(LEAST.length()), 1);
        check.due("size(5)", x.size(5), 0);
        check.due("the rest is gone", x.size(11), 0);
        check.plain(x, "inn of three sleepers",
            Check.tell(x, LEAST + ";sleeper q bed a dreams x;sleeper r bed a dreams x"), 3);
    }

    private static void innBeginsAnew() {
        NightInn x = check.told("inn minutes 5;room a creak 1;room b creak 2;door a,b;thing k in a full;"
            + "dream x 0 go b then 0;dream y 0 wait then 0;sleeper p bed a dreams x;listens a");
        x.nightfall(1);
        x.minutes(2);
        x.mark();
        x.noteThing(0, 0, 0);
        x.dreams(0, 1);
        Check.tell(x, "nothing");
        check.due("MINUTES stay behind a fault", x.size(7), 2);
        check.due("NOTES stay behind a fault", x.size(8), 1);
        check.due("MARKS stay behind a fault", x.size(9), 1);
        check.due("the SETTING stays behind a fault", x.size(10), 1);
        x.nightfall(1);
        check.due("DREAMS stay behind a fault", x.sleeper(0, 4), 1);
        x.dreams(0, 1);
        x.minutes(3);

        check.plain(x, "inn anew", Check.tell(x, "inn minutes 7;room c creak 3;room d creak 3;door d,c;"
            + "dream z 0 go c then 1;dream u 0 wait then 0;sleeper q bed d dreams z;listens d"), 1);
        int[] sizes = {2, 1, 0, 2, 1, 1, 7, 0, 0, 0, 0, 0};
        for (int what = 0; what < sizes.length; what++) {
            check.due("size(" + what + ") of an inn anew", x.size(what), sizes[what]);
        }
        check.due("DREAM as told", x.sleeper(0, 4), 0);
        check.due("STATE", x.sleeper(0, 1), 0);
        check.due("in bed", x.sleeper(0, 0), 1);
        check.denied(x, "back(0)", x.back(0), 1);
        check.due("nothing HEARD", x.creaks(0), 0);
        check.due("door open", x.doorway(0, 0), 0);
        check.due("nobody went through", x.doorway(0, 1), 0);
        check.due("a STATE of the inn before", x.dream(1, 1, 0), -1);
        x.nightfall(0);
        check.due("DREAM as told, at the next nightfall", x.sleeper(0, 4), 0);
    }

    /** Of an inn nothing is left two inns later, whether there was a fault between or not. */
    private static void innByInn() {
        NightInn x = new NightInn();
        String much = "inn minutes 9;room a creak 1 cold;room b creak 1;room c creak 1;door a,b locked;door b,c falls;"
            + "thing k in a full;thing l in b;dream x 0 go b then 0 met 1;dream x 1 put then 1;dream y 0 wait then 0;"
            + "sleeper p bed b dreams y;sleeper q bed c dreams x;sleeper r bed c dreams x;listens a;listens c";
        String little = "inn minutes 2;room c creak 0;dream x 3 wait then 0;sleeper a bed c dreams x";
        int[] sizesOfMuch = {3, 2, 2, 2, 3, 2, 9, 0, 0, 0, 0, 0};
        int[] sizesOfLittle = {1, 0, 0, 1, 1, 0, 2, 0, 0, 0, 0, 0};
        for (int i = 0; i < 12; i++) {
            boolean isMuch = i % 4 < 2;
            check.plain(x, "inn " + i, Check.tell(x, isMuch ? much : little), isMuch ? 3 : 1);
            for (int what = 0; what < 12; what++) {
                check.due("size(" + what + ") of inn " + i, x.size(what), (isMuch ? sizesOfMuch : sizesOfLittle)[what]);
            }
            check.due("cold", x.room(0, 1), isMuch ? 1 : 0);
            check.due("STATE 0", x.dream(0, 0, 0), isMuch ? 0 : -1);
            check.due("STATE 3", x.dream(0, 3, 0), isMuch ? -1 : 4);
            check.due("fits(3)", x.fits(3), isMuch ? 8 : 1);
            x.parts(0);
            if (i > 6) {
                check.due("a fault between", Check.tell(x, much + ";room z"), -1);
            }
        }
    }

    /** The first n bytes are the text, even if what stands behind would go on with its last token. */
    private static void innEndsWithinAToken() {
        NightInn x = new NightInn();
        Check.feed(x, LEAST + "yz");
        check.plain(x, "inn that ends in a WORD", x.inn(LEAST.length()), 1);
        Check.feed(x, LEAST.substring("inn minutes 1;".length()) + ";inn minutes 12");
        check.plain(x, "inn that ends in a WHOLE", x.inn(LEAST.length()), 1);
        check.due("size(6)", x.size(6), 1);
    }

    private static void tokens() {
        NightInn x = check.told("  inn minutes   001 ;room abcdefgh creak 0 cold;room a creak9;door a , abcdefgh locked falls;"
            + "thing k in a;dream x 0wait then 0met 3;sleeper p bed a dreams x  ");
        check.due("size(0)", x.size(0), 2);
        check.due("size(6) of 001", x.size(6), 1);
        check.due("room(0, 1)", x.room(0, 1), 1);
        check.due("room(1, 0)", x.room(1, 0), 9);
        check.due("met", x.dream(0, 0, 3), 3);
        // These have a meaning of their own, and yet they may be names.
        NightInn words = check.told("inn minutes 1;room creak creak 2;room in creak 1;thing bed in in;"
            + "dream dreams 0 go in then 0;sleeper minutes bed in dreams dreams;listens creak");
        check.due("thing in the room in", words.thing(0, 0), 1);
        check.due("listens creak", words.size(5), 1);

        check.faultyAt("!abcdefghi", 1);
        check.faultyAt("inn minutes !0001", 1);
        check.faultyAt("inn minutes 1;room a creak 1;!;", 1);
        check.faultyAt("inn minutes 1;!Room a creak 1", 1);
        check.faultyAt("inn minutes 1;room a creak 1!.", 1);
        check.faultyAt("inn minutes 1;room a creak 1!\t", 1);
        check.faultyAt("inn minutes 1;room a creak 1!\n;room b creak 1", 1);
        check.faultyAt("inn minutes 1;room a creak 1!\u00e1", 1);
        check.faultyAt("inn minutes 1;room a creak 1!\0", 1);
        check.faultyAt("room !abcdefghi creak 1", 1);
        check.faultyAt("room a creak !1234", 1);
        check.faultyAt("room a creak !- 1", 1);
    }

    private static void form() {
        check.faultyAt("!", 1);
        check.faultyAt("   !", 1);
        check.faultyAt("!;", 1);
        check.faultyAt("!a", 1);
        check.faultyAt("!5", 1);
        check.faultyAt("inn!", 1);
        check.faultyAt("inn   !", 1);
        check.faultyAt("inn !5", 1);
        check.faultyAt("inn minutes !a", 1);
        check.faultyAt("inn minutes 5 !6", 1);
        check.faultyAt("inn minutes 5 !room", 1);
        check.faultyAt("inn minutes 5!,", 1);
        check.faultyAt("inn minutes 5;!", 1);
        check.faultyAt("room !5", 1);
        check.faultyAt("room a !5", 1);
        check.faultyAt("room a creak !a", 1);
        check.faultyAt("room a creak 5 cold !cold", 1);
        check.faultyAt("room a creak 5 !shut", 1);
        check.faultyAt(TWO + "door a !b", 1);
        check.faultyAt(TWO + "door !, b", 1);
        check.faultyAt(TWO + "door a!", 1);
        check.faultyAt(TWO + "door a, b shut !locked", 1);
        check.faultyAt(TWO + "door a, b falls !shut", 1);
        check.faultyAt(TWO + "door a, b falls !falls", 1);
        check.faultyAt(TWO + "door a, b !cold", 1);
        check.faultyAt(TWO + "door a, b!,", 1);
        check.faultyAt(TWO + "thing k !a", 1);
        check.faultyAt(TWO + "thing k in !5", 1);
        check.faultyAt(TWO + "thing k in a full !full", 1);
        check.faultyAt(TWO + "dream x !go", 1);
        check.faultyAt(TWO + "dream x 0 !fly", 1);
        check.faultyAt(TWO + "dream x 0 !5", 1);
        check.faultyAt(TWO + "dream x 0!", 1);
        check.faultyAt(TWO + "dream x 0 go !then", 1);
        check.faultyAt(TWO + "dream x 0 go a !0", 1);
        check.faultyAt(TWO + "dream x 0 wait !a", 1);
        check.faultyAt(TWO + "dream x 0 put !a", 1);
        check.faultyAt(TWO + "dream x 0 wait then !a", 1);
        check.faultyAt(TWO + "dream x 0 wait then 0 met !;", 1);
        check.faultyAt(TWO + "dream x 0 wait then 0 !then", 1);
        check.faultyAt(TWO + "dream x 0 wait then 0 met 0 !met", 1);
        check.faultyAt(TWO + "dream x 0 wait then 0;sleeper p !a", 1);
        check.faultyAt(TWO + "dream x 0 wait then 0;sleeper p bed a !x", 1);
        check.faultyAt(TWO + "dream x 0 wait then 0;sleeper p bed a dreams!", 1);
        check.faultyAt(TWO + "listens !;", 1);
        check.faultyAt(TWO + "listens a !a", 1);
        String[] kept = {"inn", "room", "door", "thing", "dream", "sleeper", "listens", "cold", "shut", "locked",
            "falls", "full", "then", "met", "go", "take", "put", "tip", "wait"};
        for (String word : kept) {
            check.faultyAt("room !" + word + " creak 1", 1);
            check.faultyAt(TWO + "door a,!" + word, 1);
            check.faultyAt(TWO + "thing !" + word, 1);
            check.faultyAt(TWO + "dream !" + word, 1);
            check.faultyAt(TWO + "sleeper !" + word, 1);
            check.faultyAt(TWO + "listens !" + word, 1);
        }
    }

    private static void names() {
        check.faultyAt("door !a", 2);
        check.faultyAt("room a creak 1;door a,!b", 2);
        check.faultyAt(TWO + "thing k in !c", 2);
        check.faultyAt(TWO + "thing k in !k", 2);
        check.faultyAt(TWO + "thing k in a;door !k,a", 2);
        check.faultyAt(TWO + "dream x 0 go !x", 2);
        check.faultyAt(TWO + "dream x 0 go !c", 2);
        check.faultyAt(TWO + "dream x 0 shut !c", 2);
        check.faultyAt(TWO + "thing k in a;dream x 0 shut !k", 2);
        check.faultyAt(TWO + "dream x 0 take !a", 2);
        check.faultyAt(TWO + "dream x 0 tip !a", 2);
        check.faultyAt(TWO + "dream x 0 tip !k", 2);
        check.faultyAt(TWO + "sleeper p bed !c", 2);
        check.faultyAt(TWO + "sleeper p bed !p", 2);
        check.faultyAt(TWO + "sleeper p bed a dreams !x", 2);
        check.faultyAt(TWO + "sleeper p bed a dreams !p", 2);
        check.faultyAt(TWO + "sleeper p bed a dreams !b", 2);
        check.faultyAt(TWO + "listens !c", 2);
        check.faultyAt(TWO + "dream x 0 wait then 0;listens !x", 2);
    }

    private static void toldAgain() {
        String all = TWO + "thing k in a;dream x 0 wait then 0;sleeper p bed a dreams x;";
        for (String name : new String[] {"a", "k", "x", "p"}) {
            check.faultyAt(all + "room !" + name, 3);
            check.faultyAt(all + "thing !" + name, 3);
            check.faultyAt(all + "sleeper !" + name, 3);
            if (!name.equals("x")) {
                check.faultyAt(all + "dream !" + name, 3);
            }
        }
        check.faultyAt(TWO + "door a,!a", 3);
        check.faultyAt(TWO + "door a,b;door a,!b", 3);
        check.faultyAt(TWO + "door a,b;door b,!a", 3);
        check.faultyAt(TWO + "dream x 0 wait then 0;dream x !0", 3);
        check.faultyAt(TWO + "dream x 3 wait then 0;dream y 3 wait then 0;dream x 2 wait then 0;dream x !3", 3);
        check.faultyAt(TWO + "listens b;listens a;listens !b", 3);
        check.faultyAt("inn minutes 5;!inn minutes 5", 3);
        check.faultyAt("inn minutes 5;!inn", 3);
    }

    private static void bounds() {
        check.faultyAt("inn minutes !0", 4);
        check.faultyAt("inn minutes !41", 4);
        check.faultyAt("inn minutes !999", 4);
        check.faultyAt("room a creak !10", 4);
        check.faultyAt(TWO + "dream x !4", 4);
        check.faultyAt(TWO + "dream x 0 wait then !4", 4);
        check.faultyAt(TWO + "dream x 0 wait then 3 met !4", 4);
        NightInn x = check.told("inn minutes 40;room a creak 9;dream x 3 wait then 3 met 3;sleeper p bed a dreams x");
        check.due("size(6)", x.size(6), 40);
    }

    private static void many() {
        StringBuilder rooms = new StringBuilder();
        for (char name = 'a'; name < 'i'; name++) {
            rooms.append("room ").append(name).append(" creak 1;");
        }
        check.faultyAt(rooms + "!room", 5);
        check.faultyAt(rooms + "inn minutes 1;!room i creak 1", 5);
        StringBuilder doors = new StringBuilder(rooms);
        for (int i = 0; i < 10; i++) {
            doors.append("door ").append((char) ('a' + i / 6)).append(',').append((char) ('c' + i % 6)).append(';');
        }
        check.faultyAt(doors + "!door", 5);
        check.faultyAt(doors + "!door a,a", 5);
        String things = TWO + "thing k in a;thing l in a;thing m in a;thing n in a;";
        check.faultyAt(things + "!thing", 5);
        StringBuilder dreams = new StringBuilder(TWO);
        for (int i = 0; i < 16; i++) {
            dreams.append("dream ").append((char) ('p' + i % 4)).append(' ').append(i / 4).append(" wait then 0;");
        }
        check.faultyAt(dreams + "dream !t", 5);
        check.faultyAt(dreams + "dream p !0", 3);
        check.faultyAt(dreams + "dream !a", 3);
        String sleepers = TWO + "dream x 0 wait then 0;sleeper p bed a dreams x;sleeper q bed a dreams x;"
            + "sleeper r bed b dreams x;";
        check.faultyAt(sleepers + "!sleeper", 5);
        check.faultyAt(TWO + "room c creak 1;room d creak 1;listens a;listens b;listens c;!listens d", 5);

        NightInn x = check.told(doors + "thing w in a;dream x 0 wait then 0;sleeper y bed a dreams x;inn minutes 3");
        check.due("size(0) at most", x.size(0), 8);
        check.due("size(1) at most", x.size(1), 10);
        check.due("size(2) at most", check.told(LEAST + ";thing k in a;thing l in a;thing m in a;thing n in a").size(2), 4);
        check.due("size(3) at most", check.told(dreams + "inn minutes 1;sleeper u bed a dreams s").size(3), 4);
        check.due("size(4) at most", check.told(sleepers + "inn minutes 1").size(4), 3);
        // All names that there can be are known, up to the last one.
        String names = rooms + "thing k in a;thing l in a;thing m in a;thing n in a;dream p 0 wait then 0;dream q 0 wait then 0;"
            + "dream r 0 wait then 0;dream s 0 wait then 0;sleeper t bed a dreams p;sleeper u bed a dreams p;sleeper v bed a dreams s;";
        check.due("inn of all names", check.told(names + "inn minutes 1").size(4), 3);
        check.faultyAt(names + "dream !v", 3);
        check.due("size(5) at most", check.told(sleepers + "inn minutes 1;listens a;listens b;room z creak 0;listens z").size(5), 3);
    }

    private static void lacks() {
        check.faultyAt("room a creak 1;dream x 0 wait then 0;sleeper p bed a dreams x!", 6);
        check.faultyAt("inn minutes 1!", 6);
        check.faultyAt("inn minutes 1;room a creak 1;dream x 0 wait then 0!", 6);
        check.faultyAt("inn minutes 1;dream x 0 wait then 0!", 6);
        check.faultyAt("inn minutes 1  !", 6);
    }

    /** The first from the left counts, whatever its number; of one place the least number. */
    private static void leastNumber() {
        check.faultyAt("inn minutes !41;;", 4);
        check.faultyAt("thing k in !a.", 2);
        check.faultyAt("room a creak !10 a", 4);
        check.faultyAt("room a creak 1 !a creak 10", 1);
        check.faultyAt("inn minutes 5;!inn 7", 3);
        check.faultyAt("room a creak 1;room !a 5", 3);
        check.faultyAt("inn minutes 1;!", 1);
    }
}

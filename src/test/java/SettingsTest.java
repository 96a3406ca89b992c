/** Promises 30 to 34: what settings tell apart. */
public final class SettingsTest {
    /**
     * Dreams x and y both go from a to d, x by way of b, y by way of c, and come there in the
     * same minute; z is y again; w waits. Only a is listened from, and nothing creaks so far.
     */
    private static final String INN = "inn minutes 8;room a creak 0;room b creak 0;room c creak 0;room d creak 0;"
        + "door a,b;door b,d;door a,c;door c,d;"
        + "dream x 0 go b then 1;dream x 1 go d then 1;dream y 0 go c then 1;dream y 1 go d then 1;"
        + "dream z 0 go c then 2;dream z 2 go d then 3;dream w 0 wait then 0;sleeper p bed a dreams x;listens a";

    private static final Check check = new Check();

    public static void main(String[] args) {
        parts();
        byNotes();
        whatAMorningTells();
        best();
        toldByTwo();
        lastSetting();
        innAnew();
        alike();
        noneFits();
        noInn();
        check.end();
    }

    private static void parts() {
        NightInn x = check.told(INN);
        // All doors that are open stay so: x, y and z are in d by morning, w is in a.
        check.plain(x, "parts(0)", x.parts(0), 3);
        // A shut door is open if somebody went through: x from y and z.
        for (int door = 0; door < 4; door++) {
            check.plain(x, "parts with door " + door + " shut", x.parts(1 + 2 * door), 2);
        }
        // a,b locked: x goes to b by c and d, and so opens nothing; it is later, and yet in d.
        check.plain(x, "parts(2)", x.parts(2), 3);
        check.refused(x, "parts(9)", x.parts(9), 1);
        check.refused(x, "parts(-1)", x.parts(-1), 1);
        x.nightfall(2);
        x.minutes(3);
        x.parts(1);
        check.due("the NIGHT stays", x.size(7), 3);
        check.due("its SETTING stays", x.size(10), 2);
    }

    private static void byNotes() {
        NightInn x = check.told(INN);
        check.plain(x, "never()", x.never(), 1);
        x.noteThing(0, 0, 0);
        check.due("there is no such NOTE", x.size(8), 0);
        NightInn y = check.told(INN.replace("listens a", "listens b").replace("room b creak 0", "room b creak 1"));
        check.plain(y, "parts(0)", y.parts(0), 2);
        y.noteHeard(1, 0, 1, false);
        check.plain(y, "fits(3) without x", y.fits(3), 3);
        check.plain(y, "parts(0) without x", y.parts(0), 2);
        y.noteHeard(0, 0, 1, true);
        check.refused(y, "parts(0) of none", y.parts(0), 6);
        y.strike();
        y.strike();
        y.noteHeard(0, 0, 1, true);
        check.plain(y, "parts(0) of x alone", y.parts(0), 1);
        check.plain(y, "best() of x alone", y.best(), 0);
        check.plain(y, "never() of x alone", y.never(), 0);
    }

    /** Each part of a MORNING by itself tells two dreams apart. */
    private static void whatAMorningTells() {
        String house = "inn minutes 3;room a creak 0;room b creak 0;room c creak 0 cold;door a,b;thing k in a full;";
        String end = ";dream y 0 wait then 0;sleeper p bed a dreams x;listens a";
        apart("a THING that isn't full", house + "dream x 0 tip k then 1" + end);
        apart("a door", house + "dream x 0 shut b then 1" + end);
        apart("where a sleeper is", house + "dream x 0 go b then 1" + end);
        same("what is in hands", house + "dream x 0 take k then 1" + end);
        same("STATES", house + "dream x 0 wait then 1" + end);
        String back = "inn minutes 4;room a creak 1;room b creak 0;room c creak 0;door a,b;thing k in a;"
            + "dream x 0 go b then 1;dream x 1 go a then 1;dream y 0 wait then 0;sleeper p bed a dreams x;";
        same("how often a door", back + "listens b");
        apart("what was HEARD", back + "listens a");
        same("what wasn't HEARD", back.substring(0, back.length() - 1));
        // The thing's place alone: it is carried to b, put there, and the sleeper comes back.
        apart("where a THING is", "inn minutes 6;room a creak 0;room b creak 0;door a,b;thing k in a;"
            + "dream x 0 take k then 1;dream x 1 go b then 2;dream x 2 put then 3;dream x 3 go a then 3;"
            + "dream y 0 wait then 0;sleeper p bed a dreams x");
        // In which MINUTE alone: both come to b and go back, one of them a minute later.
        apart("in which MINUTE it was HEARD", "inn minutes 6;room a creak 0;room b creak 2;door a,b;"
            + "dream x 0 go b then 1;dream x 1 go a then 1;dream y 0 wait then 1;dream y 1 go b then 2;dream y 2 go a then 2;"
            + "sleeper p bed a dreams x;listens a");
        // AWAKE alone: the bed is in the cold, and one comes back to it.
        apart("whether one is AWAKE", "inn minutes 6;room a creak 0 cold;room b creak 0;door a,b;"
            + "dream x 0 go b then 1;dream x 1 go a then 1;dream y 0 wait then 0;sleeper p bed a dreams x");
    }

    private static void apart(String what, String text) {
        check.due(what + " tells apart", check.told(text).parts(0), 1);
    }

    private static void same(String what, String text) {
        check.due(what + " tells nothing", check.told(text).parts(0), 2);
    }

    private static void best() {
        NightInn x = check.told(INN);
        check.plain(x, "best()", x.best(), 1);
        // Without doors there is only the SETTING 0.
        NightInn y = check.told("inn minutes 2;room a creak 0;dream x 0 wait then 0;sleeper p bed a dreams x");
        check.plain(y, "best() without doors", y.best(), 0);
        check.plain(y, "parts(0)", y.parts(0), 1);
        check.refused(y, "parts(1)", y.parts(1), 1);
        // Only the lock on the last door keeps the two apart.
        NightInn z = check.told("inn minutes 8;room a creak 0;room b creak 0;room c creak 0;door a,c;door a,b;"
            + "dream x 0 go b then 1;dream x 1 go a then 2;dream x 2 go c then 3;"
            + "dream y 0 wait then 1;dream y 1 go b then 2;dream y 2 go a then 3;dream y 3 go c then 3;"
            + "sleeper p bed a dreams x");
        check.plain(z, "parts(0)", z.parts(0), 2);
        check.plain(z, "parts(4)", z.parts(4), 2);
        check.plain(z, "best() of like ones", z.best(), 0);
        check.plain(z, "never()", z.never(), 1);
    }

    private static void toldByTwo() {
        NightInn x = check.told(INN);
        check.plain(x, "told(0, 0)", x.told(0, 0), 3);
        check.plain(x, "told(0, 1)", x.told(0, 1), 2);
        check.plain(x, "told(1, 0)", x.told(1, 0), 2);
        check.plain(x, "told(1, 3)", x.told(1, 3), 2);
        check.refused(x, "told(9, 0)", x.told(9, 0), 1);
        check.refused(x, "told(0, 9)", x.told(0, 9), 1);
        check.refused(x, "told(-1, 0)", x.told(-1, 0), 1);
        check.refused(x, "told(0, -1)", x.told(0, -1), 1);
        // One door tells x from the rest, the other tells y: both together tell all three.
        NightInn y = check.told("inn minutes 5;room a creak 0;room b creak 0;room c creak 0;door a,b;door a,c;"
            + "dream x 0 go b then 1;dream x 1 go a then 1;dream y 0 go c then 1;dream y 1 go a then 1;"
            + "dream z 0 wait then 0;sleeper p bed a dreams x");
        check.plain(y, "told(0, 0)", y.told(0, 0), 3);
        check.plain(y, "told(1, 1)", y.told(1, 1), 2);
        check.plain(y, "told(3, 3)", y.told(3, 3), 2);
        check.plain(y, "told(1, 3)", y.told(1, 3), 1);
        check.plain(y, "told(0, 3)", y.told(0, 3), 2);
    }

    /** Only the lock on the last door tells x, who tips first, from y, who tips when it is back. */
    private static final String LAST = "inn minutes 9;room a creak 0;room b creak 0;room c creak 0;door b,c;door a,b;"
        + "thing k in a full;dream x 0 tip k then 1;dream x 1 go b then 1;"
        + "dream y 0 go b then 1;dream y 1 go a then 2;dream y 2 tip k then 3;dream y 3 go b then 3;sleeper p bed a dreams x";

    private static void lastSetting() {
        int[] due = {2, 2, 2, 2, 1};
        for (int setting = 0; setting < 5; setting++) {
            NightInn x = check.told(LAST);
            check.plain(x, "told(" + setting + ", 0)", x.told(setting, 0), due[setting]);
            x = check.told(LAST);
            check.plain(x, "told(0, " + setting + ")", x.told(0, setting), due[setting]);
            x = check.told(LAST);
            check.plain(x, "parts(" + setting + ")", x.parts(setting), due[setting]);
        }
        NightInn x = check.told(LAST);
        check.plain(x, "best()", x.best(), 4);
        x = check.told(LAST);
        check.plain(x, "alike(0, 1)", x.alike(0, 1), 0);
        x = check.told(LAST);
        check.plain(x, "never()", x.never(), 0);
        // Only without a SETTING x shuts what y leaves open.
        NightInn first = check.told("inn minutes 9;room a creak 0;room b creak 0;door a,b;dream x 0 shut b then 1;"
            + "dream y 0 wait then 1;sleeper p bed a dreams x");
        check.plain(first, "parts(0)", first.parts(0), 1);
        check.plain(first, "parts(1)", first.parts(1), 2);
        check.plain(first, "parts(2)", first.parts(2), 2);
        check.plain(first, "best()", first.best(), 0);
        check.plain(first, "alike(0, 1)", first.alike(0, 1), 0);
        check.plain(first, "never()", first.never(), 0);
        mostSettings();
    }

    /** Ten doors, four dreams, three sleepers: all casts in twenty-one settings. */
    private static void mostSettings() {
        NightInn x = check.told("inn minutes 40;room a creak 0;room b creak 0;room c creak 0;room d creak 0;room e creak 0;"
            + "room f creak 0;room g creak 0;room h creak 0;door a,b;door b,c;door c,d;door d,e;door e,f;door f,g;door g,h;"
            + "door a,c;door a,d;door a,e;dream x 0 wait then 0;dream y 0 go h then 0;dream z 0 go h then 0;dream u 1 put then 0;"
            + "sleeper p bed a dreams x;sleeper q bed h dreams x;sleeper r bed a dreams x");
        // All stay but p and r, each of whom goes to h by two dreams of four; a shut door opens for these.
        check.plain(x, "parts(0)", x.parts(0), 16);
        check.plain(x, "parts(20)", x.parts(20), 16);
        check.plain(x, "parts(13)", x.parts(13), 16);
        check.plain(x, "parts(14), which locks h", x.parts(14), 64);
        check.plain(x, "best()", x.best(), 0);
        check.plain(x, "never()", x.never(), 4 * (16 * 15 / 2));
        check.plain(x, "alike(63, 0)", x.alike(63, 0), 1);
        check.refused(x, "parts(21)", x.parts(21), 1);
    }

    /** What was found of one inn is not said of the next. */
    private static void innAnew() {
        NightInn x = new NightInn();
        String waiting = LAST.replace("go b", "wait").replace("go a", "wait").replace("tip k", "wait");
        for (int i = 0; i < 4; i++) {
            Check.tell(x, i % 2 == 0 ? LAST : waiting);
            check.plain(x, "parts(0)", x.parts(0), 2);
            check.plain(x, "parts(4)", x.parts(4), i % 2 == 0 ? 1 : 2);
            check.plain(x, "best()", x.best(), i % 2 == 0 ? 4 : 0);
            check.plain(x, "never()", x.never(), i % 2);
            x.noteDoor(0, 0, 0);
            check.plain(x, "fits(1)", x.fits(1), 2);
        }
        for (int i = 0; i < 4; i++) {
            Check.tell(x, LAST.replace("tip k", i % 2 == 0 ? "take k" : "wait"));
            x.noteThing(0, 0, 1);
            check.plain(x, "fits(1) of inn " + i, x.fits(1), i % 2 == 0 ? 2 : 0);
        }
    }

    private static void alike() {
        NightInn x = check.told(INN);
        for (int one = 0; one < 4; one++) {
            for (int other = 0; other < 4; other++) {
                String call = "alike(" + one + ", " + other + ")";
                if (one == other) {
                    check.refused(x, call, x.alike(one, other), 1);
                } else {
                    check.plain(x, call, x.alike(one, other), one + other == 3 && one * other == 2 ? 1 : 0);
                }
            }
        }
        check.refused(x, "alike(4, 0)", x.alike(4, 0), 1);
        check.refused(x, "alike(0, 4)", x.alike(0, 4), 1);
        check.refused(x, "alike(-1, 0)", x.alike(-1, 0), 1);
        check.refused(x, "alike(0, -1)", x.alike(0, -1), 1);
        // Numbers are among those that fit: w alone was not heard coming to d.
        NightInn y = check.told(INN.replace("listens a", "listens d").replace("room d creak 0", "room d creak 1"));
        y.noteHeard(0, 0, 3, true);
        check.plain(y, "fits(3)", y.fits(3), 3);
        check.plain(y, "alike(1, 2)", y.alike(1, 2), 1);
        check.plain(y, "alike(0, 1)", y.alike(0, 1), 0);
        check.refused(y, "alike(3, 0)", y.alike(3, 0), 1);

        // Of four dreams that all wait, all pairs are alike.
        NightInn z = check.told("inn minutes 1;room a creak 1;dream x 0 wait then 0;dream y 0 wait then 0;"
            + "dream z 0 wait then 0;dream u 0 wait then 0;"
            + "sleeper p bed a dreams u;sleeper q bed a dreams x;sleeper r bed a dreams x");
        check.plain(z, "never()", z.never(), 2016);
        check.plain(z, "parts(0)", z.parts(0), 64);
        check.plain(z, "told(0, 0)", z.told(0, 0), 64);
        check.plain(z, "alike(63, 0)", z.alike(63, 0), 1);
    }

    private static void noneFits() {
        NightInn x = check.told(INN);
        x.noteHeard(0, 0, 1, true);
        check.due("fits(3)", x.fits(3), 0);
        check.refused(x, "parts(0)", x.parts(0), 6);
        check.refused(x, "parts(9)", x.parts(9), 1);
        check.refused(x, "best()", x.best(), 6);
        check.refused(x, "told(0, 1)", x.told(0, 1), 6);
        check.refused(x, "told(0, 9)", x.told(0, 9), 1);
        check.refused(x, "alike(0, 1)", x.alike(0, 1), 1);
        check.plain(x, "never()", x.never(), 0);
    }

    private static void noInn() {
        NightInn x = new NightInn();
        check.refused(x, "parts(0)", x.parts(0), 1);
        check.refused(x, "best()", x.best(), 1);
        check.refused(x, "told(0, 0)", x.told(0, 0), 1);
        check.refused(x, "alike(0, 1)", x.alike(0, 1), 1);
        check.refused(x, "never()", x.never(), 1);
    }
}

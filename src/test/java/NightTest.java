/** Promises 10 to 21: nights minute by minute, calls and marks. */
public final class NightTest {
    private static final Check check = new Check();

    public static void main(String[] args) {
        going();
        goingRoundLocks();
        doorsThatFall();
        settings();
        waking();
        meeting();
        meetingByTurns();
        takingAndPutting();
        tipping();
        shutting();
        waitingAndUntold();
        hearing();
        dreamsOfNights();
        minutes();
        calls();
        marks();
        wrongNumbers();
        noInn();
        check.end();
    }

    private static void rooms(NightInn x, int sleeper, int... due) {
        for (int i = 0; i < due.length; i++) {
            check.plain(x, "minutes(1)", x.minutes(1), 1);
            check.plain(x, "ROOM of " + sleeper + " in MINUTE " + x.size(7), x.sleeper(sleeper, 0), due[i]);
        }
    }

    private static void going() {
        NightInn x = check.told("inn minutes 9;room a creak 0;room b creak 0;room c creak 0;door a,b;door b,c;"
            + "dream x 0 go c then 1;dream x 1 go a then 0;sleeper p bed a dreams x");
        check.plain(x, "ROOM at nightfall", x.sleeper(0, 0), 0);
        check.plain(x, "STATE at nightfall", x.sleeper(0, 1), 0);
        check.plain(x, "hands at nightfall", x.sleeper(0, 2), -2);
        check.plain(x, "AWAKE at nightfall", x.sleeper(0, 3), 0);
        rooms(x, 0, 1, 2);
        check.due("STATE where it came to", x.sleeper(0, 1), 0);
        rooms(x, 0, 2);
        check.due("STATE then", x.sleeper(0, 1), 1);
        rooms(x, 0, 1, 0, 0);
        check.due("STATE then again", x.sleeper(0, 1), 0);
        check.plain(x, "how often through 0", x.doorway(0, 1), 2);
        check.plain(x, "how often through 1", x.doorway(1, 1), 2);
        rooms(x, 0, 1);
        check.due("led(0)", Check.led(x, 0), 0);
    }

    private static void goingRoundLocks() {
        // Two ways of two doors each: by b (the first ROOM) although its doors are told last.
        NightInn x = check.told("inn minutes 9;room a creak 0;room b creak 0;room c creak 0;room d creak 0;"
            + "door a,c;door c,d;door d,b;door b,a;dream x 0 go d then 0;sleeper p bed a dreams x");
        rooms(x, 0, 1, 3);
        x.nightfall(8);
        rooms(x, 0, 2, 3);
        x.nightfall(6);
        rooms(x, 0, 2, 3);
        x.nightfall(4);
        rooms(x, 0, 1, 3);
        // A locked door makes a longer way the shortest; FAR stays.
        NightInn y = check.told("inn minutes 9;room a creak 0;room b creak 0;room c creak 0;room d creak 0;"
            + "door a,d locked;door a,b;door b,c shut;door c,d;dream x 0 go d then 0;sleeper p bed a dreams x");
        check.due("far(0, 3)", y.far(0, 3), 1);
        rooms(y, 0, 1, 2, 3);
        check.due("a shut door is open behind one", y.doorway(2, 0), 0);
        check.due("a locked door stays so", y.doorway(0, 0), 2);
        check.due("nobody went through it", y.doorway(0, 1), 0);
        y.nightfall(1);
        rooms(y, 0, 3);
        check.due("a SETTING shuts what is told locked", y.doorway(0, 0), 0);
        y.nightfall(6);
        rooms(y, 0, 0, 0);
        check.due("no way: STATE", y.sleeper(0, 1), 0);
        check.due("no way: nobody led", Check.led(y, 0), -1);
        // The most rooms and doors, and no way from the last room, but for one that a SETTING unlocks.
        NightInn z = check.told("inn minutes 9;room a creak 0;room b creak 0;room c creak 0;room d creak 0;room e creak 0;"
            + "room f creak 0;room g creak 0;room h creak 0;door a,b;door b,c;door c,d;door d,e;door e,f;door f,g;door a,c;"
            + "door a,d;door a,e;door h,g locked;dream x 0 go a then 0;sleeper p bed h dreams x;sleeper q bed a dreams x");
        rooms(z, 0, 7, 7);
        z.nightfall(20);
        rooms(z, 0, 7, 7);
        z.nightfall(19);
        rooms(z, 0, 6, 5, 4, 0, 0);
        check.denied(z, "nightfall(21)", z.nightfall(21), 1);
    }

    private static void doorsThatFall() {
        NightInn x = check.told("inn minutes 9;room a creak 0;room b creak 0;room c creak 0;door a,b falls;"
            + "door b,c locked falls;dream x 0 go c then 0;sleeper p bed a dreams x");
        check.plain(x, "falls is open at nightfall", x.doorway(0, 0), 0);
        check.plain(x, "locked falls is locked", x.doorway(1, 0), 2);
        x.nightfall(3);
        rooms(x, 0, 1);
        check.due("fallen shut", x.doorway(0, 0), 1);
        check.due("shut by the SETTING", x.doorway(1, 0), 1);
        rooms(x, 0, 2);
        check.due("fallen shut again", x.doorway(1, 0), 1);
        check.due("how often", x.doorway(1, 1), 1);
    }

    private static void settings() {
        NightInn x = check.told("inn minutes 9;room a creak 0;room b creak 0;room c creak 0;door a,b;"
            + "door b,c shut;door a,c locked;dream x 0 wait then 0;sleeper p bed a dreams x");
        int[][] due = {{0, 1, 2}, {1, 1, 2}, {2, 1, 2}, {0, 1, 2}, {0, 2, 2}, {0, 1, 1}, {0, 1, 2}};
        for (int setting = 0; setting < 7; setting++) {
            check.agreed(x, "nightfall(" + setting + ")", x.nightfall(setting));
            check.due("size(10)", x.size(10), setting);
            for (int d = 0; d < 3; d++) {
                check.due("door " + d + " with SETTING " + setting, x.doorway(d, 0), due[setting][d]);
            }
        }
        check.denied(x, "nightfall(7)", x.nightfall(7), 1);
        check.denied(x, "nightfall(-1)", x.nightfall(-1), 1);
        check.due("the NIGHT stays", x.size(10), 6);
    }

    private static void waking() {
        NightInn x = check.told("inn minutes 9;room a creak 0 cold;room b creak 3 cold;room c creak 0;door a,b;"
            + "door b,c;dream x 0 go c then 1 met 2;dream y 0 go b then 1 met 2;dream y 1 go c then 0 met 3;"
            + "sleeper p bed a dreams x;sleeper q bed b dreams y;listens a");
        x.minutes(1);
        check.due("it comes to a cold ROOM", x.sleeper(0, 0), 1);
        check.due("it is AWAKE", x.sleeper(0, 3), 1);
        check.due("it has met nobody", x.sleeper(0, 1), 0);
        check.due("a bed in a cold ROOM wakes nobody", x.sleeper(1, 3), 0);
        check.due("nor is it met", x.sleeper(1, 1), 1);
        check.due("it CREAKS all the same", x.heard(0, 1), 1);
        x.minutes(1);
        check.due("AWAKE it stays", x.sleeper(0, 0), 1);
        check.due("the other goes on", x.sleeper(1, 0), 2);
        check.due("led(0)", Check.led(x, 0), 0);
        check.due("led(1)", Check.led(x, 1), 1);
        x.nightfall(0);
        check.due("nobody AWAKE at nightfall", x.sleeper(0, 3), 0);
    }

    private static void meeting() {
        NightInn x = check.told("inn minutes 9;room a creak 0;room b creak 0;door a,b;"
            + "dream x 0 go b then 0 met 1;dream y 0 go b then 2 met 3;dream z 1 wait then 1;"
            + "sleeper p bed a dreams x;sleeper q bed b dreams y;sleeper r bed b dreams z");
        x.minutes(1);
        check.due("who comes has met", x.sleeper(0, 1), 1);
        check.due("who is there is met, and then does nothing by a STATE untold", x.sleeper(1, 1), 3);
        check.due("a STATE untold has no met", x.sleeper(2, 1), 0);

        // A met of 0 is told, too.
        NightInn zero = check.told("inn minutes 9;room a creak 0;room b creak 0;door a,b;"
            + "dream x 0 wait then 1;dream x 1 go b then 3 met 0;dream y 0 wait then 2;dream y 2 wait then 2 met 0;"
            + "sleeper p bed a dreams x;sleeper q bed b dreams y");
        zero.minutes(1);
        check.due("STATE of who goes", zero.sleeper(0, 1), 1);
        check.due("STATE of who is there", zero.sleeper(1, 1), 2);
        zero.minutes(1);
        check.due("STATE 0 of who has come", zero.sleeper(0, 1), 0);
        check.due("STATE 0, and 2 by waiting", zero.sleeper(1, 1), 2);
        check.due("who waits is met first", zero.called(0, 1, 2), 1);

        // Who comes to nobody meets nobody; who was there already is not met by standing there.
        NightInn y = check.told("inn minutes 9;room a creak 0;room b creak 0;door a,b;"
            + "dream x 0 go b then 0 met 1;dream y 0 wait then 0 met 2;"
            + "sleeper p bed a dreams x;sleeper q bed a dreams y");
        y.minutes(2);
        check.due("it has met nobody", y.sleeper(0, 1), 0);
        check.due("beds in one ROOM are no meeting", y.sleeper(1, 1), 0);
    }

    private static void meetingByTurns() {
        // p comes to q ahead of q's turn: q does what its STATE tells since then.
        NightInn x = check.told("inn minutes 9;room a creak 0;room b creak 0;room c creak 0;door a,b;door b,c;"
            + "dream x 0 go c then 0 met 1;dream x 1 wait then 1;dream y 0 wait then 0 met 2;dream y 2 go c then 0;"
            + "sleeper p bed a dreams x;sleeper q bed b dreams y");
        x.minutes(1);
        check.due("p has met", x.sleeper(0, 1), 1);
        check.due("q goes in the same MINUTE", x.sleeper(1, 0), 2);
        // The other way round by LINES: q has waited when p comes.
        NightInn y = check.told("inn minutes 9;room a creak 0;room b creak 0;room c creak 0;door a,b;door b,c;"
            + "dream x 0 go c then 0 met 1;dream x 1 wait then 1;dream y 0 wait then 0 met 2;dream y 2 go c then 0;"
            + "sleeper q bed b dreams y;sleeper p bed a dreams x");
        y.minutes(1);
        check.due("q has STATE met", y.sleeper(0, 1), 2);
        check.due("q goes later", y.sleeper(0, 0), 1);
        y.minutes(1);
        check.due("q goes now", y.sleeper(0, 0), 2);
    }

    private static void takingAndPutting() {
        NightInn x = check.told("inn minutes 20;room a creak 0;room b creak 0;door a,b;thing k in a full;thing l in a;"
            + "dream x 0 take k then 1;dream x 1 take l then 2 met 2;dream x 2 go b then 3;dream x 3 put then 3;"
            + "dream y 0 take k then 1;dream y 1 go b then 2;"
            + "sleeper p bed a dreams x;sleeper q bed a dreams y;sleeper r bed b dreams y");
        x.minutes(1);
        check.plain(x, "THING in hands", x.sleeper(0, 2), 0);
        check.plain(x, "whose hands", x.thing(0, 2), 0);
        check.plain(x, "nobody's hands", x.thing(1, 2), -2);
        check.due("q can't take what p has", x.sleeper(1, 2), -2);
        check.due("q's STATE stays", x.sleeper(1, 1), 0);
        check.due("r can't take what is in another ROOM", x.sleeper(2, 2), -2);
        x.minutes(1);
        check.due("full hands take nothing", x.sleeper(0, 1), 1);
        check.due("l is nobody's", x.thing(1, 2), -2);
        check.due("ROOM of k", x.thing(0, 0), 0);

        NightInn y = check.told("inn minutes 20;room a creak 0;room b creak 0;door a,b;thing k in a full;thing l in a;"
            + "dream x 0 take k then 2;dream x 2 go b then 3;dream x 3 put then 1;dream x 1 put then 0;"
            + "sleeper p bed a dreams x");
        y.minutes(2);
        check.due("what is in hands goes along", y.thing(0, 0), 1);
        check.due("what isn't stays", y.thing(1, 0), 0);
        check.due("the MINUTE of coming", y.sleeper(0, 1), 2);
        y.minutes(2);
        check.due("put: ROOM", y.thing(0, 0), 1);
        check.due("put: hands", y.thing(0, 2), -2);
        check.due("put: its hands", y.sleeper(0, 2), -2);
        check.due("put: STATE then", y.sleeper(0, 1), 1);
        check.due("put: full still", y.thing(0, 1), 1);
        y.minutes(1);
        check.due("empty hands put nothing", y.sleeper(0, 1), 1);
        y.nightfall(0);
        check.due("things are as told at nightfall", y.thing(0, 0), 0);
    }

    private static void tipping() {
        NightInn x = check.told("inn minutes 20;room a creak 0;room b creak 0;door a,b;thing k in a full;thing l in b;"
            + "dream x 0 tip k then 1;dream x 1 tip k then 2;dream y 0 tip l then 1;dream z 0 tip k then 1;"
            + "sleeper p bed a dreams x;sleeper q bed b dreams y;sleeper r bed b dreams z");
        check.plain(x, "full", x.thing(0, 1), 1);
        check.plain(x, "not full", x.thing(1, 1), 0);
        x.minutes(1);
        check.due("full no more", x.thing(0, 1), 0);
        check.due("STATE then", x.sleeper(0, 1), 1);
        check.due("what isn't full can't be tipped", x.sleeper(1, 1), 0);
        check.due("nor what is elsewhere", x.sleeper(2, 1), 0);
        x.minutes(1);
        check.due("nor again", x.sleeper(0, 1), 1);

        // In hands, one's own or another's: what is in hands is where these are.
        NightInn y = check.told("inn minutes 20;room a creak 0;room b creak 0;door a,b;thing k in a full;thing l in a full;"
            + "dream x 0 take k then 1;dream x 1 go b then 2;dream x 2 tip k then 3;dream y 0 tip l then 1;dream y 1 tip k then 2;"
            + "sleeper p bed a dreams x;sleeper q bed b dreams y;sleeper r bed a dreams y");
        y.minutes(2);
        check.due("r can't tip what has left its ROOM in p's hands", y.thing(0, 1), 1);
        y.morning();
        check.due("its own hands", y.thing(0, 1), 0);
        check.due("tipped in hands: still there", y.thing(0, 2), 0);
        check.due("STATE", y.sleeper(0, 1), 3);
        NightInn z = check.told("inn minutes 20;room a creak 0;thing k in a full;"
            + "dream x 0 take k then 1;dream y 0 tip k then 1;sleeper p bed a dreams x;sleeper q bed a dreams y");
        z.minutes(1);
        check.due("another's hands", z.thing(0, 1), 0);
        check.due("STATE of who tipped", z.sleeper(1, 1), 1);
    }

    private static void shutting() {
        NightInn x = check.told("inn minutes 20;room a creak 0;room b creak 0;room c creak 0;door a,b;door a,c;"
            + "dream x 0 shut b then 1;dream x 1 shut b then 2;dream y 0 shut a then 1;dream z 0 shut b then 1;"
            + "sleeper p bed a dreams x;sleeper q bed a dreams y;sleeper r bed c dreams z");
        x.minutes(1);
        check.due("shut", x.doorway(0, 0), 1);
        check.due("the other isn't", x.doorway(1, 0), 0);
        check.due("STATE then", x.sleeper(0, 1), 1);
        check.due("no door to one's own ROOM", x.sleeper(1, 1), 0);
        check.due("no door from c to b", x.sleeper(2, 1), 0);
        check.due("nobody went through", x.doorway(0, 1), 0);
        x.minutes(1);
        check.due("what is shut can't be shut", x.sleeper(0, 1), 1);
        x.nightfall(2);
        x.minutes(1);
        check.due("nor what is locked", x.doorway(0, 0), 2);
        check.due("STATE stays", x.sleeper(0, 1), 0);
    }

    private static void waitingAndUntold() {
        NightInn x = check.told("inn minutes 5;room a creak 0;dream x 0 wait then 2;dream x 2 wait then 1;"
            + "dream y 3 wait then 0;sleeper p bed a dreams x;sleeper q bed a dreams y");
        int[] due = {2, 1, 1};
        for (int state : due) {
            x.minutes(1);
            check.due("STATE by waiting", x.sleeper(0, 1), state);
            check.due("nothing by a STATE untold", x.sleeper(1, 1), 0);
        }
    }

    private static void hearing() {
        NightInn x = check.told("inn minutes 6;room a creak 0;room b creak 1;room c creak 2;room d creak 9;room e creak 3;"
            + "door a,b;door b,c locked;door a,c;door c,e;dream x 0 go b then 1;dream x 1 go a then 2;dream x 2 go c then 3;"
            + "sleeper p bed a dreams x;listens a;listens b;listens d");
        check.plain(x, "creaks(0) at nightfall", x.creaks(0), 0);
        check.refused(x, "heard(0, 1) at nightfall", x.heard(0, 1), 1);
        x.morning();
        // Minute 1: b (1); 3: a (0); 5: c (2), which is one door from b though that is locked.
        int[][] due = {{0, 0, 0, 0, 1, 0}, {1, 0, 0, 0, 1, 0}, {0, 0, 0, 0, 0, 0}};
        for (int who = 0; who < 3; who++) {
            int sum = 0;
            for (int minute = 1; minute <= 6; minute++) {
                check.plain(x, "heard(" + who + ", " + minute + ")", x.heard(who, minute), due[who][minute - 1]);
                sum += due[who][minute - 1];
            }
            check.plain(x, "creaks(" + who + ")", x.creaks(who), sum);
        }
        check.refused(x, "heard(0, 0)", x.heard(0, 0), 1);
        check.refused(x, "heard(0, 7)", x.heard(0, 7), 1);
        check.refused(x, "heard(0, -1)", x.heard(0, -1), 1);
        check.refused(x, "heard(3, 1)", x.heard(3, 1), 1);
        check.refused(x, "heard(-1, 1)", x.heard(-1, 1), 1);
        check.refused(x, "creaks(3)", x.creaks(3), 1);
        check.refused(x, "creaks(-1)", x.creaks(-1), 1);
        x.nightfall(0);
        check.due("creaks at the next nightfall", x.creaks(1), 0);

        // Two that creak in one MINUTE are one MINUTE; the fortieth counts too.
        NightInn y = check.told("inn minutes 40;room a creak 1;room b creak 1;door a,b;dream x 0 go b then 1;"
            + "dream x 1 go a then 0;sleeper p bed a dreams x;sleeper q bed a dreams x;listens a;listens b");
        y.morning();
        check.due("MINUTES by a", y.creaks(0), 10);
        check.due("MINUTES by b", y.creaks(1), 10);
        check.due("heard(0, 39)", y.heard(0, 39), 1);
        check.due("heard(0, 40)", y.heard(0, 40), 0);
    }

    private static void dreamsOfNights() {
        NightInn x = check.told("inn minutes 6;room a creak 0;room b creak 0;door a,b;dream x 0 wait then 0;"
            + "dream y 0 go b then 0;sleeper p bed a dreams x;sleeper q bed a dreams y");
        check.plain(x, "sleeper(1, 4)", x.sleeper(1, 4), 1);
        check.agreed(x, "dreams(0, 1)", x.dreams(0, 1));
        check.due("not in this NIGHT", x.sleeper(0, 4), 0);
        x.minutes(1);
        check.due("nor in its MINUTES", x.sleeper(0, 0), 0);
        x.nightfall(0);
        check.due("from nightfall on", x.sleeper(0, 4), 1);
        x.minutes(1);
        check.due("and it goes by it", x.sleeper(0, 0), 1);
        x.nightfall(0);
        check.due("and in nights behind that", x.sleeper(0, 4), 1);
        check.denied(x, "dreams(2, 0)", x.dreams(2, 0), 1);
        check.denied(x, "dreams(-1, 0)", x.dreams(-1, 0), 1);
        check.denied(x, "dreams(0, 2)", x.dreams(0, 2), 1);
        check.denied(x, "dreams(0, -1)", x.dreams(0, -1), 1);
    }

    private static void minutes() {
        NightInn x = check.told("inn minutes 10;room a creak 0;dream x 0 wait then 0;sleeper p bed a dreams x");
        check.plain(x, "minutes(4)", x.minutes(4), 4);
        check.due("size(7)", x.size(7), 4);
        check.refused(x, "minutes(0)", x.minutes(0), 2);
        check.refused(x, "minutes(-1)", x.minutes(-1), 2);
        check.refused(x, "minutes(41)", x.minutes(41), 2);
        check.plain(x, "minutes(40)", x.minutes(40), 6);
        check.due("size(7)", x.size(7), 10);
        check.refused(x, "minutes(1) when it is over", x.minutes(1), 6);
        check.refused(x, "minutes(41) when it is over", x.minutes(41), 2);
        check.plain(x, "morning() when it is over", x.morning(), 0);
        x.nightfall(0);
        check.plain(x, "morning()", x.morning(), 10);
        x.nightfall(0);
        x.minutes(3);
        check.plain(x, "morning() behind three", x.morning(), 7);
        check.due("size(7)", x.size(7), 10);
    }

    private static void calls() {
        NightInn x = check.told("inn minutes 6;room a creak 0;room b creak 0;room c creak 0;door a,b;door b,c;"
            + "dream x 0 go c then 0;dream y 0 wait then 0;sleeper p bed a dreams x;sleeper q bed c dreams y");
        x.nightfall(2);
        x.minutes(3);
        int[] due = {0, 1, 2, 2, 2, 2, 2};
        for (int minute = 0; minute <= 6; minute++) {
            check.plain(x, "called(0, 0, " + minute + ")", x.called(0, 0, minute), due[minute]);
            check.plain(x, "called(2, 0, " + minute + ")", x.called(2, 0, minute), 0);
            check.plain(x, "called(4, 0, " + minute + ")", x.called(4, 0, minute), 0);
        }
        check.plain(x, "called(0, 1, 6)", x.called(0, 1, 6), 2);
        x.dreams(1, 0);
        x.dreams(0, 1);
        check.plain(x, "called by DREAMS as they are set", x.called(0, 0, 6), 0);
        check.due("the NIGHT stays: MINUTES", x.size(7), 3);
        check.due("the NIGHT stays: SETTING", x.size(10), 2);
        check.due("the NIGHT stays: DREAM", x.sleeper(0, 4), 0);
        check.due("the NIGHT stays: door", x.doorway(0, 0), 2);
        check.refused(x, "called(5, 0, 0)", x.called(5, 0, 0), 1);
        check.refused(x, "called(-1, 0, 0)", x.called(-1, 0, 0), 1);
        check.refused(x, "called(0, 2, 0)", x.called(0, 2, 0), 1);
        check.refused(x, "called(0, -1, 0)", x.called(0, -1, 0), 1);
        check.refused(x, "called(0, 0, 7)", x.called(0, 0, 7), 2);
        check.refused(x, "called(0, 0, -1)", x.called(0, 0, -1), 2);
        check.refused(x, "called(5, 0, 7)", x.called(5, 0, 7), 1);
    }

    private static void marks() {
        NightInn x = check.told("inn minutes 9;room a creak 2;room b creak 2;room c creak 0 cold;door a,b falls;door b,c;"
            + "thing k in a full;dream x 0 take k then 1;dream x 1 go b then 2;dream x 2 tip k then 3;dream x 3 go c then 3;"
            + "dream y 0 wait then 0;sleeper p bed a dreams x;listens a");
        check.denied(x, "back(0) without a MARK", x.back(0), 1);
        x.nightfall(4);
        x.nightfall(3);
        x.minutes(2);
        check.plain(x, "mark()", x.mark(), 0);
        check.due("size(9)", x.size(9), 1);
        x.morning();
        check.due("AWAKE", x.sleeper(0, 3), 1);
        check.plain(x, "mark() again", x.mark(), 1);
        x.dreams(0, 1);
        x.nightfall(0);
        x.minutes(3);
        check.plain(x, "a third mark()", x.mark(), 2);
        check.refused(x, "a fourth mark()", x.mark(), 3);
        check.due("size(9) at most", x.size(9), 3);

        check.agreed(x, "back(0)", x.back(0));
        int[] night = {x.size(7), x.size(10), x.sleeper(0, 0), x.sleeper(0, 1), x.sleeper(0, 2), x.sleeper(0, 3),
            x.sleeper(0, 4), x.thing(0, 0), x.thing(0, 1), x.thing(0, 2), x.doorway(0, 0), x.doorway(0, 1),
            x.doorway(1, 0), x.doorway(1, 1), x.heard(0, 1), x.heard(0, 2), x.creaks(0)};
        int[] due = {2, 3, 1, 1, 0, 0, 0, 1, 1, 0, 1, 1, 1, 0, 0, 1, 1};
        for (int i = 0; i < due.length; i++) {
            check.due("the NIGHT by MARK 0, part " + i, night[i], due[i]);
        }
        check.plain(x, "the NIGHT goes on from it", x.minutes(40), 7);
        check.due("by its DREAMS", x.sleeper(0, 3), 1);
        check.due("tipped", x.thing(0, 1), 0);
        check.agreed(x, "back(2)", x.back(2));
        check.due("size(7) by MARK 2", x.size(7), 3);
        check.due("DREAM by MARK 2", x.sleeper(0, 4), 1);
        check.due("not AWAKE by MARK 2", x.sleeper(0, 3), 0);
        check.due("full by MARK 2", x.thing(0, 1), 1);
        check.agreed(x, "back(1)", x.back(1));
        check.due("size(7) by MARK 1", x.size(7), 9);
        check.due("AWAKE by MARK 1", x.sleeper(0, 3), 1);
        check.due("full no more by MARK 1", x.thing(0, 1), 0);
        check.agreed(x, "back(0) once more", x.back(0));
        check.due("size(7) by MARK 0", x.size(7), 2);
        check.due("MARKS stay", x.size(9), 3);
        check.denied(x, "back(3)", x.back(3), 1);
        check.denied(x, "back(-1)", x.back(-1), 1);
        x.nightfall(0);
        check.due("DREAMS as set are no part of a MARK", x.sleeper(0, 4), 1);
        check.due("MARKS stay behind nightfall", x.size(9), 3);

        // A MARK keeps what is locked, too.
        NightInn y = check.told("inn minutes 9;room a creak 0;room b creak 0;room c creak 0;door a,b;door b,c;door a,c;"
            + "dream x 0 go c then 0;sleeper p bed a dreams x");
        y.nightfall(6);
        y.mark();
        y.nightfall(0);
        y.minutes(1);
        check.due("straight", y.sleeper(0, 0), 2);
        y.back(0);
        y.minutes(1);
        check.due("round", y.sleeper(0, 0), 1);
    }

    private static void wrongNumbers() {
        NightInn x = check.told("inn minutes 9;room a creak 2;room b creak 2;door a,b;thing k in a;"
            + "dream x 0 wait then 0;sleeper p bed a dreams x");
        check.refused(x, "sleeper(1, 0)", x.sleeper(1, 0), 1);
        check.refused(x, "sleeper(-1, 0)", x.sleeper(-1, 0), 1);
        check.refused(x, "sleeper(0, 5)", x.sleeper(0, 5), 1);
        check.refused(x, "sleeper(0, -1)", x.sleeper(0, -1), 1);
        check.refused(x, "thing(1, 0)", x.thing(1, 0), 1);
        check.refused(x, "thing(-1, 0)", x.thing(-1, 0), 1);
        check.refused(x, "thing(0, 3)", x.thing(0, 3), 1);
        check.refused(x, "thing(0, -1)", x.thing(0, -1), 1);
        check.refused(x, "doorway(1, 0)", x.doorway(1, 0), 1);
        check.refused(x, "doorway(-1, 0)", x.doorway(-1, 0), 1);
        check.refused(x, "doorway(0, 2)", x.doorway(0, 2), 1);
        check.refused(x, "doorway(0, -1)", x.doorway(0, -1), 1);
    }

    private static void noInn() {
        NightInn x = new NightInn();
        check.denied(x, "nightfall(0)", x.nightfall(0), 1);
        check.denied(x, "dreams(0, 0)", x.dreams(0, 0), 1);
        check.refused(x, "minutes(1)", x.minutes(1), 1);
        check.refused(x, "minutes(0)", x.minutes(0), 1);
        check.refused(x, "morning()", x.morning(), 1);
        check.refused(x, "sleeper(0, 0)", x.sleeper(0, 0), 1);
        check.refused(x, "thing(0, 0)", x.thing(0, 0), 1);
        check.refused(x, "doorway(0, 0)", x.doorway(0, 0), 1);
        check.refused(x, "heard(0, 1)", x.heard(0, 1), 1);
        check.refused(x, "creaks(0)", x.creaks(0), 1);
        check.refused(x, "called(0, 0, 0)", x.called(0, 0, 0), 1);
        check.refused(x, "mark()", x.mark(), 1);
        check.denied(x, "back(0)", x.back(0), 1);
    }
}

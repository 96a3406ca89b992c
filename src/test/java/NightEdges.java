import java.util.List;
import java.util.function.Supplier;

/** The edges that Terms II and promises 6 to 21 name: the house, and nights minute by minute. */
final class NightEdges {
    /** All that an inn has room for: 8 rooms, 10 doors, 4 things, 4 dreams of 4 states, 3 sleepers, 3 who listen. */
    static final String FULL = "inn minutes 40;room a creak 9;room b creak 8;room c creak 7;room d creak 6;room e creak 5;"
        + "room f creak 4;room g creak 3;room h creak 2 cold;door a,b;door b,c;door c,d;door d,e;door e,f;door f,g;door g,h;"
        + "door a,c;door a,d;door h,a locked falls;thing k in a full;thing l in b;thing m in c full;thing n in h;"
        + "dream x 0 wait then 1;dream x 1 wait then 2;dream x 2 wait then 3;dream x 3 wait then 0;"
        + "dream y 0 go g then 1;dream y 1 take m then 2;dream y 2 go a then 3;dream y 3 put then 0;"
        + "dream z 0 shut a then 0;dream z 1 tip k then 0;dream z 2 wait then 0;dream z 3 wait then 0;"
        + "dream u 0 go h then 0;dream u 1 put then 1;dream u 2 put then 2;dream u 3 go h then 3 met 1;"
        + "sleeper p bed a dreams x;sleeper q bed c dreams y;sleeper r bed h dreams u;listens h;listens a;listens d";

    /** Some of all, with a state that isn't told. */
    static final String SOME = "inn minutes 6;room a creak 0;room b creak 9 cold;room c creak 5;room d creak 1;room e creak 2;"
        + "door b,a shut;door b,c locked;door d,c falls;thing k in a full;thing l in b;dream x 1 take l then 2;"
        + "dream y 0 go c then 1 met 3;dream y 1 tip k then 0;dream y 2 put then 3 met 0;dream y 3 shut d then 2;"
        + "dream x 3 wait then 1;sleeper p bed a dreams x;sleeper q bed d dreams y;listens c;listens a";

    private static final String LEAST = TextEdges.LEAST;

    private final Check check;

    NightEdges(Check check) {
        this.check = check;
    }

    void all() {
        far();
        room();
        door();
        dream();
        nightfall();
        dreams();
        minutes();
        morning();
        sleeper();
        thing();
        doorway();
        heard();
        creaks();
        called();
        mark();
        back();
        markKeepsAll();
        nightBegins();
        untoldState();
        goWhereItIs();
        goWithoutAWay();
        goTheFirst();
        goThroughDoors();
        coming();
        meeting();
        taking();
        putting();
        tipping();
        shutting();
        hearing();
        settings();
    }

    private NightInn full() {
        return check.told(FULL);
    }

    private NightInn some() {
        return check.told(SOME);
    }

    private NightInn least() {
        return check.told(LEAST);
    }

    /** Without an INN: a new object, one whose only inn had a fault, one whose tape has come but isn't told. */
    private void noInn(String call, Check.Asked ask) {
        for (int number : new int[] {0, 1, -1, 41, Integer.MIN_VALUE, Integer.MAX_VALUE}) {
            String told = call.replace("?", "" + number);
            check.refuses(new NightInn(), 1, told + " of a new object", x -> ask.of(x, number));
            NightInn faulty = new NightInn();
            Check.tell(faulty, LEAST + ";inn");
            check.refuses(faulty, 1, told + " behind a fault", x -> ask.of(x, number));
            NightInn fed = new NightInn();
            Check.feed(fed, LEAST);
            check.refuses(fed, 1, told + " of a tape", x -> ask.of(x, number));
        }
    }

    // ---- the house

    private void far() {
        check.promise(6, "FAR. NONE: 1");
        noInn("far(?, 0)", (x, n) -> x.far(n, 0));
        noInn("far(0, ?)", (x, n) -> x.far(0, n));
        check.bounds(this::least, "far(?, 0)", 0, 0, 1, (x, n) -> x.far(n, 0));
        check.bounds(this::some, "far(?, 0)", 0, 4, 1, (x, n) -> x.far(n, 0));
        check.bounds(this::some, "far(0, ?)", 0, 4, 1, (x, n) -> x.far(0, n));
        check.bounds(this::full, "far(?, 7)", 0, 7, 1, (x, n) -> x.far(n, 7));
        check.bounds(this::full, "far(7, ?)", 0, 7, 1, (x, n) -> x.far(7, n));
        check.promise(6, "the fewest doors on a way from one to the other (99 if there is none)");
        check.answers(some(), 99, "far(0, 4)", x -> x.far(0, 4));
        check.answers(some(), 99, "far(4, 0)", x -> x.far(4, 0));
        check.answers(some(), 0, "far(4, 4), of a ROOM without doors", x -> x.far(4, 4));
        check.answers(least(), 0, "far(0, 0)", x -> x.far(0, 0));
        NightInn row = check.told("inn minutes 1;room a creak 0;room b creak 0;room c creak 0;room d creak 0;room e creak 0;"
            + "room f creak 0;room g creak 0;room h creak 0;door g,h;door f,g;door e,f;door d,e;door c,d;door b,c;door a,b;"
            + "dream x 0 wait then 0;sleeper p bed a dreams x");
        for (int one = 0; one < 8; one++) {
            for (int other = 0; other < 8; other++) {
                check.due("far(" + one + ", " + other + ") in a row", row.far(one, other), Math.abs(one - other));
            }
        }
        check.promise(6, "whatever they are");
        check.answers(some(), 3, "far(0, 3) over doors shut, locked, falling", x -> x.far(0, 3));
        NightInn night = some();
        for (int setting = 0; setting <= 6; setting++) {
            night.nightfall(setting);
            check.due("far(0, 3) in a NIGHT with SETTING " + setting, night.far(0, 3), 3);
        }
    }

    private void room() {
        check.promise(7, "Of a ROOM 0 how much it creaks, 1 whether it is cold (1). NONE: 1");
        noInn("room(?, 0)", (x, n) -> x.room(n, 0));
        noInn("room(0, ?)", (x, n) -> x.room(0, n));
        check.bounds(this::least, "room(?, 0)", 0, 0, 1, (x, n) -> x.room(n, 0));
        check.bounds(this::some, "room(?, 1)", 0, 4, 1, (x, n) -> x.room(n, 1));
        check.bounds(this::full, "room(?, 0)", 0, 7, 1, (x, n) -> x.room(n, 0));
        check.bounds(this::full, "room(7, ?)", 0, 1, 1, (x, n) -> x.room(7, n));
        NightInn x = full();
        for (int r = 0; r < 8; r++) {
            check.due("room(" + r + ", 0)", x.room(r, 0), 9 - r);
            check.due("room(" + r + ", 1)", x.room(r, 1), r == 7 ? 1 : 0);
        }
    }

    private void door() {
        check.promise(8, "The door between two ROOMS; -2 if there is none. NONE: 1");
        noInn("door(?, 1)", (x, n) -> x.door(n, 1));
        noInn("door(0, ?)", (x, n) -> x.door(0, n));
        check.bounds(this::some, "door(?, 0)", 1, 4, 1, (x, n) -> x.door(n, 0));
        check.bounds(this::some, "door(4, ?)", 0, 3, 1, (x, n) -> x.door(4, n));
        check.bounds(this::full, "door(0, ?)", 1, 7, 1, (x, n) -> x.door(0, n));
        check.bounds(this::full, "door(?, 7)", 0, 6, 1, (x, n) -> x.door(n, 7));
        int[][] ends = {{0, 1}, {1, 2}, {2, 3}, {3, 4}, {4, 5}, {5, 6}, {6, 7}, {0, 2}, {0, 3}, {7, 0}};
        for (int d = 0; d < 10; d++) {
            int door = d;
            check.answers(full(), d, "door " + d, x -> x.door(ends[door][0], ends[door][1]));
            check.answers(full(), d, "door " + d + " the other way round", x -> x.door(ends[door][1], ends[door][0]));
        }
        check.answers(full(), -2, "door(1, 7)", x -> x.door(1, 7));
        check.answers(some(), -2, "door(0, 4)", x -> x.door(0, 4));
        check.promise(8, "NONE: 1 (one ROOM twice, too)");
        for (int room = 0; room < 8; room++) {
            int twice = room;
            check.refuses(full(), 1, "door(" + room + ", " + room + ")", x -> x.door(twice, twice));
        }
        check.refuses(least(), 1, "door(0, 0) without doors", x -> x.door(0, 0));
        check.refuses(least(), 1, "door(0, 1) without a second ROOM", x -> x.door(0, 1));
    }

    private void dream() {
        check.promise(9, "NONE: 1");
        noInn("dream(?, 0, 0)", (x, n) -> x.dream(n, 0, 0));
        noInn("dream(0, ?, 0)", (x, n) -> x.dream(0, n, 0));
        noInn("dream(0, 0, ?)", (x, n) -> x.dream(0, 0, n));
        check.bounds(this::least, "dream(?, 0, 0)", 0, 0, 1, (x, n) -> x.dream(n, 0, 0));
        check.bounds(this::some, "dream(?, 3, 2)", 0, 1, 1, (x, n) -> x.dream(n, 3, 2));
        check.bounds(this::some, "dream(1, ?, 2)", 0, 3, 1, (x, n) -> x.dream(1, n, 2));
        check.bounds(this::some, "dream(1, 3, ?)", 0, 3, 1, (x, n) -> x.dream(1, 3, n));
        check.bounds(this::full, "dream(?, 0, 0)", 0, 3, 1, (x, n) -> x.dream(n, 0, 0));
        check.promise(9, "6 (it isn't told)");
        for (int state : new int[] {0, 2}) {
            for (int what = 0; what < 4; what++) {
                int asked = what;
                check.refuses(some(), 6, "dream(0, " + state + ", " + what + ")", x -> x.dream(0, state, asked));
            }
            check.refuses(some(), 1, "dream(0, " + state + ", 4)", x -> x.dream(0, state, 4));
            check.refuses(some(), 1, "dream(0, " + state + ", -1)", x -> x.dream(0, state, -1));
        }
        for (int state = 1; state < 4; state++) {
            int untold = state;
            check.refuses(least(), 6, "dream(0, " + state + ", 0)", x -> x.dream(0, untold, 0));
        }
        check.promise(9, "0 its ACT (0 go, .. 5 shut), 1 the ROOM or THING (-2), 2 then, 3 met (-2)");
        int[][] due = {{0, 0, 4, -2, 1, -2}, {1, 0, 0, 6, 1, -2}, {1, 1, 1, 2, 2, -2}, {1, 3, 2, -2, 0, -2}, {2, 0, 5, 0, 0, -2},
            {2, 1, 3, 0, 0, -2}, {3, 3, 0, 7, 3, 1}};
        for (int[] row : due) {
            for (int what = 0; what < 4; what++) {
                int asked = what;
                check.answers(full(), row[2 + what], "dream(" + row[0] + ", " + row[1] + ", " + what + ")",
                    x -> x.dream(row[0], row[1], asked));
            }
        }
    }

    // ---- nights

    private void nightfall() {
        check.promise(10, "false: 1 (no INN, no such SETTING)");
        noInn("nightfall(?)", (x, n) -> Check.asInt(x.nightfall(n)));
        check.bounds(this::least, "nightfall(?)", 0, 0, 1, (x, n) -> Check.asInt(x.nightfall(n)));
        check.bounds(this::some, "nightfall(?)", 0, 6, 1, (x, n) -> Check.asInt(x.nightfall(n)));
        check.bounds(this::full, "nightfall(?)", 0, 20, 1, (x, n) -> Check.asInt(x.nightfall(n)));
        NightInn x = full();
        x.nightfall(20);
        x.minutes(3);
        check.denies(x, 1, "nightfall(21)", y -> y.nightfall(21));
        check.due("the NIGHT goes on: SETTING", x.size(10), 20);
        check.due("the NIGHT goes on: MINUTES", x.size(7), 3);
        check.due("the NIGHT goes on: STATE", x.sleeper(0, 1), 3);
        check.promise(10, "A NIGHT at nightfall, with a SETTING: true");
        check.agrees(x, "nightfall(19)", y -> y.nightfall(19));
        check.due("SETTING", x.size(10), 19);
        check.due("MINUTES", x.size(7), 0);
        check.due("the last door, told locked, is shut", x.doorway(9, 0), 1);
        x.morning();
        check.agrees(x, "nightfall(0) behind a MORNING", y -> y.nightfall(0));
        check.due("MINUTES behind a MORNING", x.size(7), 0);
    }

    private void dreams() {
        check.promise(11, "false: 1");
        noInn("dreams(?, 0)", (x, n) -> Check.asInt(x.dreams(n, 0)));
        noInn("dreams(0, ?)", (x, n) -> Check.asInt(x.dreams(0, n)));
        check.bounds(this::least, "dreams(?, 0)", 0, 0, 1, (x, n) -> Check.asInt(x.dreams(n, 0)));
        check.bounds(this::least, "dreams(0, ?)", 0, 0, 1, (x, n) -> Check.asInt(x.dreams(0, n)));
        check.bounds(this::some, "dreams(?, 1)", 0, 1, 1, (x, n) -> Check.asInt(x.dreams(n, 1)));
        check.bounds(this::some, "dreams(1, ?)", 0, 1, 1, (x, n) -> Check.asInt(x.dreams(1, n)));
        check.bounds(this::full, "dreams(?, 3)", 0, 2, 1, (x, n) -> Check.asInt(x.dreams(n, 3)));
        check.bounds(this::full, "dreams(2, ?)", 0, 3, 1, (x, n) -> Check.asInt(x.dreams(2, n)));
        NightInn refused = full();
        refused.dreams(2, 4);
        refused.dreams(3, 0);
        refused.nightfall(0);
        int[] told = {0, 1, 3};
        for (int s = 0; s < 3; s++) {
            check.due("DREAM of " + s + " behind refused calls", refused.sleeper(s, 4), told[s]);
        }
        check.promise(11, "A sleeper's DREAM from now on (in nights from nightfall() on)");
        NightInn x = full();
        check.agrees(x, "dreams(2, 0)", y -> y.dreams(2, 0));
        check.due("in this NIGHT", x.sleeper(2, 4), 3);
        x.mark();
        check.denies(x, 1, "nightfall(21)", y -> y.nightfall(21));
        check.due("behind a refused nightfall()", x.sleeper(2, 4), 3);
        x.nightfall(0);
        check.due("from nightfall() on", x.sleeper(2, 4), 0);
        check.due("the others' stay", x.sleeper(1, 4), 1);
        x.back(0);
        check.due("in the NIGHT by a MARK", x.sleeper(2, 4), 3);
        x.nightfall(0);
        check.due("from the next nightfall() on", x.sleeper(2, 4), 0);
        x.dreams(2, 2);
        x.dreams(2, 3);
        x.nightfall(0);
        check.due("the latest counts", x.sleeper(2, 4), 3);
    }

    private void minutes() {
        check.promise(12, "NONE: 1 (no INN); 2");
        noInn("minutes(?)", NightInn::minutes);
        check.bounds(this::least, "minutes(?)", 1, 40, 2, NightInn::minutes);
        check.bounds(this::some, "minutes(?)", 1, 40, 2, NightInn::minutes);
        check.bounds(this::full, "minutes(?)", 1, 40, 2, NightInn::minutes);
        check.promise(12, "So many MINUTES (1 .. 40), till the night is over: how many there were");
        for (int before = 0; before < 6; before++) {
            for (int n = 1; n <= 8; n++) {
                NightInn x = some();
                if (before > 0) {
                    x.minutes(before);
                }
                int asked = n;
                int due = Math.min(n, 6 - before);
                check.answers(x, due, "minutes(" + n + ") behind " + before + " of 6", y -> y.minutes(asked));
                check.due("size(7)", x.size(7), before + due);
            }
        }
        check.answers(full(), 40, "minutes(40)", x -> x.minutes(40));
        check.answers(some(), 6, "minutes(40) of 6", x -> x.minutes(40));
        check.answers(least(), 1, "minutes(1) of 1", x -> x.minutes(1));
        check.promise(12, "6 (it is over)");
        for (Supplier<NightInn> inn : List.<Supplier<NightInn>>of(this::least, this::some, this::full)) {
            for (int n : new int[] {1, 2, 40}) {
                NightInn x = inn.get();
                x.morning();
                check.refuses(x, 6, "minutes(" + n + ") when it is over", y -> y.minutes(n));
            }
            for (int n : new int[] {0, -1, 41}) {
                NightInn x = inn.get();
                x.minutes(40);
                check.refuses(x, 2, "minutes(" + n + ") when it is over", y -> y.minutes(n));
            }
        }
        NightInn again = least();
        again.minutes(1);
        again.nightfall(0);
        check.answers(again, 1, "minutes(1) of the next NIGHT", x -> x.minutes(1));
    }

    private void morning() {
        check.promise(13, "NONE: 1 (no INN)");
        noInn("morning()", (x, n) -> x.morning());
        check.promise(13, "MINUTES up to the MORNING: how many");
        check.answers(least(), 1, "morning() of 1", NightInn::morning);
        check.answers(full(), 40, "morning() of 40", NightInn::morning);
        for (int before = 1; before <= 6; before++) {
            NightInn x = some();
            x.minutes(before);
            check.answers(x, 6 - before, "morning() behind " + before + " of 6", NightInn::morning);
            check.due("size(7)", x.size(7), 6);
            check.answers(x, 0, "morning() when it is over", NightInn::morning);
            check.due("size(7)", x.size(7), 6);
        }
    }

    private void sleeper() {
        check.promise(14, "NONE: 1");
        noInn("sleeper(?, 0)", (x, n) -> x.sleeper(n, 0));
        noInn("sleeper(0, ?)", (x, n) -> x.sleeper(0, n));
        check.bounds(this::least, "sleeper(?, 0)", 0, 0, 1, (x, n) -> x.sleeper(n, 0));
        check.bounds(this::some, "sleeper(?, 4)", 0, 1, 1, (x, n) -> x.sleeper(n, 4));
        check.bounds(this::full, "sleeper(?, 3)", 0, 2, 1, (x, n) -> x.sleeper(n, 3));
        check.bounds(this::full, "sleeper(2, ?)", 0, 4, 1, (x, n) -> x.sleeper(2, n));
        check.promise(14, "0 its ROOM, 1 its STATE, 2 the THING in its hands (-2), 3 whether it is AWAKE (1), 4 its DREAM");
        NightInn x = check.told("inn minutes 9;room a creak 0;room b creak 0;room c creak 0 cold;door a,b;door b,c;thing k in a;"
            + "thing l in a;dream x 0 take l then 1;dream x 1 go c then 2;dream y 0 wait then 3;"
            + "sleeper p bed b dreams y;sleeper q bed a dreams x");
        int[][] due = {{0, 0, -2, 0, 0}, {0, 1, 1, 0, 0}, {1, 1, 1, 0, 0}, {2, 1, 1, 1, 0}, {2, 1, 1, 1, 0}};
        for (int minute = 0; minute < due.length; minute++) {
            for (int what = 0; what < 5; what++) {
                check.due("sleeper(1, " + what + ") behind " + minute, x.sleeper(1, what), due[minute][what]);
            }
            check.due("sleeper(0, 4)", x.sleeper(0, 4), 1);
            check.due("sleeper(0, 1)", x.sleeper(0, 1), minute == 0 ? 0 : 3);
            x.minutes(1);
        }
    }

    private void thing() {
        check.promise(15, "NONE: 1");
        noInn("thing(?, 0)", (x, n) -> x.thing(n, 0));
        noInn("thing(0, ?)", (x, n) -> x.thing(0, n));
        check.refuses(least(), 1, "thing(0, 0) without THINGS", x -> x.thing(0, 0));
        check.bounds(this::some, "thing(?, 0)", 0, 1, 1, (x, n) -> x.thing(n, 0));
        check.bounds(this::full, "thing(?, 1)", 0, 3, 1, (x, n) -> x.thing(n, 1));
        check.bounds(this::full, "thing(3, ?)", 0, 2, 1, (x, n) -> x.thing(3, n));
        check.promise(15, "0 its ROOM, 1 whether it is full (1), 2 in whose hands it is (-2)");
        int[] rooms = {0, 1, 2, 7};
        NightInn x = full();
        for (int t = 0; t < 4; t++) {
            check.due("ROOM of " + t, x.thing(t, 0), rooms[t]);
            check.due("whether " + t + " is full", x.thing(t, 1), t % 2 == 0 ? 1 : 0);
            check.due("in whose hands " + t + " is", x.thing(t, 2), -2);
        }
        // Each of three has one, the last sleeper the first thing.
        NightInn hands = check.told("inn minutes 1;room a creak 0;thing k in a;thing l in a;thing m in a;dream x 0 take m then 1;"
            + "dream y 0 take l then 1;dream z 0 take k then 1;sleeper p bed a dreams x;sleeper q bed a dreams y;"
            + "sleeper r bed a dreams z");
        hands.morning();
        for (int t = 0; t < 3; t++) {
            check.due("in whose hands " + t + " is", hands.thing(t, 2), 2 - t);
            check.due("what " + t + " has", hands.sleeper(t, 2), 2 - t);
        }
    }

    private void doorway() {
        check.promise(16, "NONE: 1");
        noInn("doorway(?, 0)", (x, n) -> x.doorway(n, 0));
        noInn("doorway(0, ?)", (x, n) -> x.doorway(0, n));
        check.refuses(least(), 1, "doorway(0, 0) without doors", x -> x.doorway(0, 0));
        check.bounds(this::some, "doorway(?, 0)", 0, 2, 1, (x, n) -> x.doorway(n, 0));
        check.bounds(this::full, "doorway(?, 1)", 0, 9, 1, (x, n) -> x.doorway(n, 1));
        check.bounds(this::full, "doorway(9, ?)", 0, 1, 1, (x, n) -> x.doorway(9, n));
        check.promise(16, "0 how it is (0 open, 1 shut, 2 locked), 1 how often somebody went through");
        NightInn x = check.told("inn minutes 40;room a creak 0;room b creak 0;door a,b;dream x 0 go b then 1;dream x 1 go a then 0;"
            + "sleeper p bed a dreams x;sleeper q bed a dreams x;sleeper r bed b dreams x");
        x.minutes(1);
        check.due("how often, by two", x.doorway(0, 1), 2);
        x.morning();
        // p and q go in minutes 1, 3, 5, .. 39; r, who is in b first, in 2, 4, .. 40.
        check.due("how often at most", x.doorway(0, 1), 60);
        x.nightfall(0);
        check.due("how often at nightfall", x.doorway(0, 1), 0);
        int[] how = {1, 2, 0};
        for (int d = 0; d < 3; d++) {
            check.due("how " + d + " is", some().doorway(d, 0), how[d]);
        }
    }

    private void heard() {
        check.promise(17, "NONE: 1 (who, MINUTE)");
        noInn("heard(?, 1)", (x, n) -> x.heard(n, 1));
        noInn("heard(0, ?)", (x, n) -> x.heard(0, n));
        check.bounds(() -> behind(full(), 40), "heard(?, 40)", 0, 2, 1, (x, n) -> x.heard(n, 40));
        check.bounds(() -> behind(full(), 40), "heard(2, ?)", 1, 40, 1, (x, n) -> x.heard(2, n));
        check.bounds(() -> behind(some(), 6), "heard(?, 1)", 0, 1, 1, (x, n) -> x.heard(n, 1));
        check.refuses(behind(least(), 1), 1, "heard(0, 1) where nobody listens", x -> x.heard(0, 1));
        check.promise(17, "in a MINUTE that has been");
        for (int been = 0; been <= 6; been++) {
            int minutes = been;
            check.bounds(() -> behind(some(), minutes), "heard(1, ?) behind " + been, 1, been, 1, (x, n) -> x.heard(1, n));
        }
        NightInn x = behind(some(), 4);
        x.nightfall(0);
        check.refuses(x, 1, "heard(0, 1) of the NIGHT before", y -> y.heard(0, 1));
        check.promise(17, "Whether one who listens HEARD something: 1, 0");
        // p comes to b, and to a again, in turns: a is heard by the one, b by the other.
        NightInn turns = check.told("inn minutes 40;room a creak 1;room b creak 1;door a,b;dream x 0 go b then 1;"
            + "dream x 1 wait then 2;dream x 2 go a then 3;dream x 3 wait then 0;sleeper p bed a dreams x;listens b;listens a");
        turns.morning();
        for (int minute = 1; minute <= 40; minute++) {
            // In b from minute 1 on: go (1), there (2), wait (3), go (4), there (5), wait (6), go (7) ..
            check.due("heard(0, " + minute + ")", turns.heard(0, minute), minute % 6 == 1 ? 1 : 0);
            check.due("heard(1, " + minute + ")", turns.heard(1, minute), minute % 6 == 4 ? 1 : 0);
        }
    }

    private NightInn behind(NightInn x, int minutes) {
        if (minutes > 0) {
            check.due("minutes", x.minutes(minutes), minutes);
        }
        return x;
    }

    private void creaks() {
        check.promise(18, "NONE: 1");
        noInn("creaks(?)", NightInn::creaks);
        check.refuses(least(), 1, "creaks(0) where nobody listens", x -> x.creaks(0));
        check.bounds(this::some, "creaks(?)", 0, 1, 1, NightInn::creaks);
        check.bounds(this::full, "creaks(?)", 0, 2, 1, NightInn::creaks);
        check.promise(18, "In how many MINUTES it HEARD something so far");
        // Two sleepers go to and fro, one a minute behind the other: something creaks in each minute.
        NightInn x = check.told("inn minutes 40;room a creak 9;room b creak 9;door a,b;dream x 0 go b then 1;dream x 1 go a then 0;"
            + "dream y 0 wait then 1;dream y 1 go b then 2;dream y 2 go a then 1;sleeper p bed a dreams x;"
            + "sleeper q bed a dreams y;listens a;listens b");
        for (int minute = 0; minute < 40; minute++) {
            check.due("creaks(0) behind " + minute, x.creaks(0), minute);
            check.due("creaks(1) behind " + minute, x.creaks(1), minute);
            x.minutes(1);
        }
        check.due("creaks(1) behind all", x.creaks(1), 40);
        x.nightfall(0);
        check.due("creaks(0) at nightfall", x.creaks(0), 0);
    }

    private void called() {
        check.promise(19, "NONE: 1; 2");
        noInn("called(?, 0, 0)", (x, n) -> x.called(n, 0, 0));
        noInn("called(0, ?, 0)", (x, n) -> x.called(0, n, 0));
        noInn("called(0, 0, ?)", (x, n) -> x.called(0, 0, n));
        check.bounds(this::least, "called(?, 0, 1)", 0, 0, 1, (x, n) -> x.called(n, 0, 1));
        check.bounds(this::some, "called(?, 0, 6)", 0, 6, 1, (x, n) -> x.called(n, 0, 6));
        check.bounds(this::full, "called(?, 2, 40)", 0, 20, 1, (x, n) -> x.called(n, 2, 40));
        check.bounds(this::full, "called(20, ?, 40)", 0, 2, 1, (x, n) -> x.called(20, n, 40));
        check.promise(19, "in a MINUTE (0 at nightfall, up to minutes)");
        check.bounds(this::least, "called(0, 0, ?)", 0, 1, 2, (x, n) -> x.called(0, 0, n));
        check.bounds(this::some, "called(6, 1, ?)", 0, 6, 2, (x, n) -> x.called(6, 1, n));
        check.bounds(this::full, "called(20, 2, ?)", 0, 40, 2, (x, n) -> x.called(20, 2, n));
        check.refuses(some(), 1, "called(7, 0, 7)", x -> x.called(7, 0, 7));
        check.refuses(some(), 1, "called(0, 2, 7)", x -> x.called(0, 2, 7));
        check.promise(19, "of a NIGHT with a SETTING, by DREAMS as they are set");
        NightInn x = check.told("inn minutes 4;room a creak 0;room b creak 0;room c creak 0;door a,b;door b,c locked;"
            + "dream x 0 go c then 0;dream y 0 wait then 0;sleeper p bed a dreams y;sleeper q bed b dreams x");
        int[][] due = {{1, 1, 1, 1, 1}, {1, 1, 1, 1, 1}, {1, 1, 1, 1, 1}, {1, 2, 2, 2, 2}, {1, 1, 1, 1, 1}};
        for (int setting = 0; setting < 5; setting++) {
            for (int minute = 0; minute <= 4; minute++) {
                check.due("called(" + setting + ", 1, " + minute + ")", x.called(setting, 1, minute), due[setting][minute]);
                check.due("called(" + setting + ", 0, " + minute + ")", x.called(setting, 0, minute), 0);
            }
        }
        x.minutes(4);
        x.dreams(0, 0);
        int[] rooms = {0, 1, 2, 2, 2};
        for (int minute = 0; minute <= 4; minute++) {
            check.due("called(3, 0, " + minute + ") by what is set", x.called(3, 0, minute), rooms[minute]);
        }
        check.due("this NIGHT's MINUTES stay", x.size(7), 4);
        check.due("this NIGHT's SETTING stays", x.size(10), 0);
        check.due("this NIGHT's DREAM stays", x.sleeper(0, 4), 1);
        check.due("this NIGHT's door stays", x.doorway(1, 0), 2);
    }

    private void mark() {
        check.promise(20, "NONE: 1 (no INN)");
        noInn("mark()", (x, n) -> x.mark());
        check.promise(20, "A MARK: its number. 3 (MARKS: up to 3)");
        NightInn x = some();
        for (int mark = 0; mark < 3; mark++) {
            check.answers(x, mark, "mark()", NightInn::mark);
            check.due("size(9)", x.size(9), mark + 1);
        }
        for (int more = 0; more < 3; more++) {
            check.refuses(x, 3, "mark() beyond three", NightInn::mark);
        }
        x.nightfall(1);
        check.refuses(x, 3, "mark() behind nightfall()", NightInn::mark);
        x.back(0);
        check.refuses(x, 3, "mark() behind back()", NightInn::mark);
        Check.tell(x, SOME);
        check.due("size(9) of an INN anew", x.size(9), 0);
        for (int mark = 0; mark < 3; mark++) {
            check.answers(x, mark, "mark() of an INN anew", NightInn::mark);
        }
        check.refuses(x, 3, "a fourth mark() of an INN anew", NightInn::mark);
    }

    private void back() {
        check.promise(21, "false: 1");
        noInn("back(?)", (x, n) -> Check.asInt(x.back(n)));
        for (int marks = 0; marks <= 3; marks++) {
            int made = marks;
            check.bounds(() -> marked(made), "back(?) of " + marks, 0, marks - 1, 1, (x, n) -> Check.asInt(x.back(n)));
        }
        check.promise(21, "The NIGHT is as by a MARK (all MARKS stay)");
        NightInn x = marked(3);
        for (int turn = 0; turn < 6; turn++) {
            int mark = turn % 3;
            check.agrees(x, "back(" + mark + ")", y -> y.back(mark));
            check.due("MINUTES by MARK " + mark, x.size(7), 2 * mark);
            check.due("SETTING by MARK " + mark, x.size(10), 2 * mark);
            check.due("size(9)", x.size(9), 3);
            x.morning();
        }
        check.denies(x, 1, "back(3)", y -> y.back(3));
        check.due("the NIGHT stays behind a refused back()", x.size(7), 6);
        check.agrees(x, "back(0) behind the MORNING", y -> y.back(0));
        check.answers(x, 6, "the NIGHT has all MINUTES again", y -> y.minutes(40));
        NightInn noted = marked(1);
        noted.noteDoor(0, 0, 0);
        noted.dreams(0, 1);
        noted.feed(0, 0, 0, 0, 0);
        noted.back(0);
        check.due("NOTES are no part of a NIGHT", noted.size(8), 1);
        check.due("nor is THE TAPE", noted.size(11), 20);
        check.due("nor DREAMS as set", called(noted), 1);
    }

    private void markKeepsAll() {
        check.promise(21, "MARKS: each keeps the NIGHT");
        String text = "inn minutes 9;room a creak 2;room b creak 2;room c creak 1 cold;door a,b falls;door b,c;door a,c locked;"
            + "thing k in a full;thing l in a;dream x 0 take k then 1;dream x 1 go b then 2;dream x 2 tip k then 3;dream x 3 go c then 3;"
            + "dream y 0 take l then 1;dream y 1 wait then 2;dream y 2 go b then 3;dream y 3 put then 0;"
            + "sleeper p bed a dreams x;sleeper q bed a dreams y;listens a;listens c";
        for (int setting = 0; setting <= 6; setting++) {
            for (int minutes = 0; minutes <= 9; minutes++) {
                NightInn x = check.told(text);
                x.nightfall(setting);
                if (minutes > 0) {
                    x.minutes(minutes);
                }
                String due = night(x);
                x.mark();
                String next = behindOne(x);
                x.nightfall((setting + 3) % 7);
                x.minutes((minutes + 4) % 9 + 1);
                x.back(0);
                check.due("the NIGHT by a MARK, SETTING " + setting + ", MINUTE " + minutes, night(x), due);
                check.due("and a MINUTE later", behindOne(x), next);
            }
        }
    }

    private static String behindOne(NightInn x) {
        x.minutes(1);
        return night(x);
    }

    /** All that can be seen of a night of two sleepers, two things, three doors and two who listen. */
    private static String night(NightInn x) {
        StringBuilder seen = new StringBuilder();
        seen.append(x.size(7)).append(' ').append(x.size(10));
        for (int i = 0; i < 10; i++) {
            seen.append(' ').append(x.sleeper(i / 5, i % 5));
        }
        for (int i = 0; i < 6; i++) {
            seen.append(' ').append(x.thing(i / 3, i % 3)).append(' ').append(x.doorway(i / 2, i % 2));
        }
        for (int minute = 1; minute <= 9; minute++) {
            seen.append(' ').append(x.heard(0, minute)).append(x.heard(1, minute));
        }
        return seen.append(' ').append(x.creaks(0)).append(x.creaks(1)).toString();
    }

    /** So many marks: of nights with settings 0, 2, 4 behind 0, 2, 4 minutes. */
    private NightInn marked(int marks) {
        NightInn x = some();
        for (int mark = 0; mark < marks; mark++) {
            x.nightfall(2 * mark);
            if (mark > 0) {
                x.minutes(2 * mark);
            }
            x.mark();
        }
        return x;
    }

    /** The dream that is set for sleeper 0, seen at a nightfall. */
    private static int called(NightInn x) {
        x.nightfall(0);
        return x.sleeper(0, 4);
    }

    // ---- Terms II

    private void nightBegins() {
        check.promise(10, "A NIGHT: all doors as told, things, sleepers in their beds, in STATE 0, with nothing in their hands; "
            + "nobody AWAKE");
        NightInn x = check.told("inn minutes 9;room a creak 1;room b creak 1 cold;door a,b shut;thing k in a full;"
            + "dream x 0 tip k then 1;dream x 1 take k then 2;dream x 2 go b then 3;sleeper p bed a dreams x;listens a");
        x.morning();
        int[] night = {1, 2, 0, 1, 1, 0, 0, 0, 1};
        int[] seen = {x.sleeper(0, 0), x.sleeper(0, 1), x.sleeper(0, 2), x.sleeper(0, 3), x.thing(0, 0), x.thing(0, 1),
            x.thing(0, 2), x.doorway(0, 0), x.doorway(0, 1)};
        for (int i = 0; i < night.length; i++) {
            check.due("by morning, part " + i, seen[i], night[i]);
        }
        x.nightfall(0);
        int[] fall = {0, 0, -2, 0, 0, 1, -2, 1, 0};
        int[] again = {x.sleeper(0, 0), x.sleeper(0, 1), x.sleeper(0, 2), x.sleeper(0, 3), x.thing(0, 0), x.thing(0, 1),
            x.thing(0, 2), x.doorway(0, 0), x.doorway(0, 1)};
        for (int i = 0; i < fall.length; i++) {
            check.due("at nightfall, part " + i, again[i], fall[i]);
        }
        check.due("a bed in the cold", check.told(LEAST.replace("creak 0", "creak 0 cold")).sleeper(0, 3), 0);
    }

    private void untoldState() {
        check.promise(12, "each sleeper does what its STATE tells (nothing, if that isn't told)");
        for (int then = 0; then < 4; then++) {
            NightInn x = check.told("inn minutes 5;room a creak 0;dream x 0 wait then " + then + ";sleeper p bed a dreams x");
            x.minutes(1);
            check.due("STATE", x.sleeper(0, 1), then);
            x.morning();
            check.due("STATE by MORNING", x.sleeper(0, 1), then);
        }
        NightInn x = check.told("inn minutes 5;room a creak 0;dream x 3 wait then 2;sleeper p bed a dreams x");
        x.morning();
        check.due("STATE 0 isn't told", x.sleeper(0, 1), 0);
    }

    private void goWhereItIs() {
        check.promise(12, "go: if it is in that ROOM, STATE then");
        NightInn x = check.told("inn minutes 5;room a creak 9 cold;room b creak 9;door a,b;dream x 0 go a then 2;"
            + "sleeper p bed a dreams x;sleeper q bed a dreams x;listens a");
        x.minutes(1);
        check.due("STATE", x.sleeper(0, 1), 2);
        check.due("nothing CREAKS", x.heard(0, 1), 0);
        check.due("nobody is AWAKE", x.sleeper(0, 3), 0);
        check.due("nobody went", x.doorway(0, 1), 0);
    }

    private void goWithoutAWay() {
        check.promise(12, "go: .. if there is any such way");
        NightInn x = check.told("inn minutes 5;room a creak 9;room b creak 9;room c creak 9;door a,b locked;dream x 0 go b then 2;"
            + "dream y 0 go c then 2;sleeper p bed a dreams x;sleeper q bed a dreams y;listens a");
        x.morning();
        for (int s = 0; s < 2; s++) {
            check.due("ROOM of " + s, x.sleeper(s, 0), 0);
            check.due("STATE of " + s, x.sleeper(s, 1), 0);
        }
        check.due("nothing CREAKS", x.creaks(0), 0);
        check.due("the door stays locked", x.doorway(0, 0), 2);
        check.due("led(0)", Check.led(x, 0), -1);
        check.promise(12, "go: .. through one door that isn't locked");
        // Ahead of a lock it doesn't go as near as it can: it stays.
        NightInn y = check.told("inn minutes 5;room a creak 9;room b creak 9;room c creak 9;door a,b;door b,c locked;"
            + "dream x 0 go c then 2;sleeper p bed a dreams x");
        y.morning();
        check.due("ROOM", y.sleeper(0, 0), 0);
        y.nightfall(3);
        y.morning();
        check.due("ROOM, the lock being shut instead", y.sleeper(0, 0), 2);
    }

    private void goTheFirst() {
        check.promise(12, "go: to a ROOM from which that ROOM is the fewest such doors away (of like ones the first)");
        // Three ways of two doors: by g, f, e. The first ROOM by LINES is taken, whichever door is told first.
        String house = "inn minutes 9;room h creak 0;room a creak 0;room e creak 0;room f creak 0;room g creak 0;";
        String[] doors = {"door a,g;door a,f;door a,e;door g,h;door f,h;door e,h;", "door h,e;door h,f;door h,g;door e,a;door f,a;"
            + "door g,a;"};
        for (String told : doors) {
            NightInn x = check.told(house + told + "dream x 0 go h then 0;sleeper p bed a dreams x");
            x.minutes(1);
            check.due("ROOM", x.sleeper(0, 0), 2);
            x.minutes(1);
            check.due("ROOM", x.sleeper(0, 0), 0);
            x.nightfall(2 + 2 * x.door(1, 2));
            x.minutes(1);
            check.due("ROOM, the first being locked off", x.sleeper(0, 0), 3);
            x.nightfall(2 + 2 * x.door(0, 2));
            x.minutes(1);
            check.due("ROOM, the first leading nowhere", x.sleeper(0, 0), 3);
        }
        // A shut door counts as one that is open.
        NightInn y = check.told(house + "door a,e shut;door e,h shut;door a,f;door f,g;door g,h;dream x 0 go h then 0;"
            + "sleeper p bed a dreams x");
        y.minutes(2);
        check.due("ROOM behind two shut doors", y.sleeper(0, 0), 0);
    }

    private void goThroughDoors() {
        check.promise(12, "go: the door is open (or shut, if it falls)");
        String[] told = {"", " shut", " falls", " shut falls"};
        for (int i = 0; i < told.length; i++) {
            NightInn x = check.told("inn minutes 5;room a creak 0;room b creak 0;door b,a" + told[i]
                + ";dream x 0 go b then 1;dream x 1 go a then 0;sleeper p bed a dreams x");
            check.due("at nightfall" + told[i], x.doorway(0, 0), i % 2);
            x.minutes(1);
            check.due("behind one" + told[i], x.doorway(0, 0), i / 2);
            x.minutes(2);
            check.due("behind two" + told[i], x.doorway(0, 0), i / 2);
            check.due("how often", x.doorway(0, 1), 2);
        }
    }

    private void coming() {
        check.promise(12, "It CREAKS in the ROOM where it comes to. If that is cold, it is AWAKE");
        NightInn x = check.told("inn minutes 5;room a creak 0;room b creak 1 cold;room c creak 0;door a,b;door b,c;thing k in a;"
            + "dream x 0 take k then 1;dream x 1 go c then 2 met 3;sleeper p bed a dreams x;sleeper q bed b dreams x;listens b");
        x.minutes(2);
        check.due("HEARD", x.heard(0, 2), 1);
        check.due("AWAKE", x.sleeper(0, 3), 1);
        check.due("STATE", x.sleeper(0, 1), 1);
        check.due("the other, in its bed there", x.sleeper(1, 3), 0);
        check.due("the other isn't met", x.sleeper(1, 1), 0);
        x.morning();
        check.due("who is AWAKE goes no more", x.sleeper(0, 0), 1);
        check.due("what it has stays in its hands", x.thing(0, 2), 0);
        check.due("and is where it is", x.thing(0, 0), 1);
        check.due("nothing CREAKS any more", x.creaks(0), 1);
    }

    private void meeting() {
        check.promise(12, "if other sleepers are there that aren't AWAKE: its STATE is met, if told, and so is that of each of "
            + "these, if told");
        // r comes to p and q; some of the three STATES have a met.
        for (int mets = 0; mets < 8; mets++) {
            StringBuilder text = new StringBuilder("inn minutes 5;room a creak 0;room b creak 0;door a,b;");
            String[] acts = {"take k", "tip k", "go a"};
            text.append("thing k in b;");
            for (int s = 0; s < 3; s++) {
                text.append("dream ").append("xyz".charAt(s)).append(" 0 ").append(acts[s]).append(" then 1");
                text.append((mets >> s & 1) == 1 ? " met 2;" : ";");
            }
            text.append("sleeper p bed a dreams x;sleeper q bed a dreams y;sleeper r bed b dreams z");
            NightInn x = check.told(text.toString());
            x.minutes(1);
            for (int s = 0; s < 3; s++) {
                check.due("STATE of " + s + " by " + mets, x.sleeper(s, 1), (mets >> s & 1) == 1 ? 2 : 0);
            }
        }
        check.promise(12, "its STATE is met, if told: a met of 0, too");
        NightInn zero = check.told("inn minutes 5;room a creak 0;room b creak 0;door a,b;dream x 0 wait then 1;"
            + "dream x 1 go b then 3 met 0;dream y 0 wait then 2;dream y 2 put then 2 met 0;"
            + "sleeper q bed b dreams y;sleeper p bed a dreams x");
        zero.minutes(2);
        check.due("STATE of who comes", zero.sleeper(1, 1), 0);
        check.due("STATE of who is there", zero.sleeper(0, 1), 0);
        check.promise(12, "if other sleepers are there: who comes to nobody meets nobody");
        NightInn elsewhere = check.told("inn minutes 5;room a creak 0;room b creak 0;room c creak 0;door a,b;"
            + "dream x 0 go b then 1 met 2;dream y 0 put then 0 met 3;sleeper p bed a dreams x;sleeper q bed a dreams y;"
            + "sleeper r bed c dreams y");
        elsewhere.minutes(1);
        for (int s = 0; s < 3; s++) {
            check.due("STATE of " + s + ", the others being elsewhere", elsewhere.sleeper(s, 1), 0);
        }
        NightInn alone = check.told("inn minutes 5;room a creak 0;room b creak 0;door a,b;dream x 0 go b then 1 met 2;"
            + "sleeper p bed a dreams x");
        alone.minutes(1);
        check.due("STATE", alone.sleeper(0, 1), 0);
        check.promise(12, "other sleepers that aren't AWAKE: who comes to one AWAKE meets nobody");
        // p wakes in b, which is cold; q has its bed in c, goes to b, too, and wakes itself.
        NightInn x = check.told("inn minutes 5;room a creak 0;room b creak 0 cold;room c creak 0;door a,b;door b,c;"
            + "dream x 0 go b then 1 met 2;dream y 0 wait then 0 met 3;sleeper p bed a dreams x;sleeper q bed c dreams x;"
            + "sleeper r bed b dreams y");
        x.minutes(1);
        for (int s = 0; s < 3; s++) {
            check.due("STATE of " + s, x.sleeper(s, 1), 0);
            check.due("AWAKE " + s, x.sleeper(s, 3), s < 2 ? 1 : 0);
        }
    }

    private void taking() {
        check.promise(12, "take: if the THING is in its ROOM, in nobody's hands, and its own are empty");
        NightInn x = check.told("inn minutes 5;room a creak 0;room b creak 0;thing k in a;thing l in a;thing m in b;"
            + "dream x 0 take k then 1;dream x 1 take l then 2;dream y 0 take k then 3;dream z 0 take m then 3;"
            + "sleeper p bed a dreams x;sleeper q bed a dreams y;sleeper r bed a dreams z");
        x.morning();
        check.due("p has k", x.sleeper(0, 2), 0);
        check.due("its hands not being empty, it waits for l", x.sleeper(0, 1), 1);
        check.due("q, k being in p's hands", x.sleeper(1, 1), 0);
        check.due("q's hands", x.sleeper(1, 2), -2);
        check.due("r, m being elsewhere", x.sleeper(2, 1), 0);
        check.due("m is in nobody's hands", x.thing(2, 2), -2);
        NightInn twice = check.told("inn minutes 5;room a creak 0;thing k in a;dream x 0 take k then 1;dream x 1 take k then 2;"
            + "sleeper p bed a dreams x");
        twice.morning();
        check.due("what it has it can't take", twice.sleeper(0, 1), 1);
    }

    private void putting() {
        check.promise(12, "put: if it has something: that is in its ROOM, STATE then");
        NightInn x = check.told("inn minutes 5;room a creak 0;room b creak 0;door a,b;thing k in a;thing l in b;"
            + "dream x 0 take k then 1;dream x 1 go b then 2;dream x 2 put then 3;dream x 3 put then 0;"
            + "dream y 0 take k then 1;sleeper q bed b dreams y;sleeper p bed a dreams x");
        x.minutes(2);
        check.due("on the way it is in hands", x.thing(0, 2), 1);
        check.due("and where these are", x.thing(0, 0), 1);
        x.minutes(2);
        check.due("put: ROOM", x.thing(0, 0), 1);
        check.due("put: hands", x.thing(0, 2), -2);
        check.due("put: STATE", x.sleeper(1, 1), 3);
        x.minutes(1);
        check.due("empty hands put nothing", x.sleeper(1, 1), 3);
        check.due("and another can take it there", x.thing(0, 2), 0);
    }

    private void tipping() {
        check.promise(12, "tip: if the THING is in its ROOM (or in its hands) and full: it is full no more, STATE then");
        NightInn x = check.told("inn minutes 5;room a creak 0;room b creak 0;door a,b;thing k in a full;thing l in a;thing m in b full;"
            + "dream x 0 tip k then 1;dream x 1 tip k then 2;dream y 0 tip l then 1;dream z 0 tip m then 1;"
            + "sleeper p bed a dreams x;sleeper q bed a dreams y;sleeper r bed a dreams z");
        x.morning();
        check.due("k is full no more", x.thing(0, 1), 0);
        check.due("once tipped it isn't tipped", x.sleeper(0, 1), 1);
        check.due("what isn't full isn't tipped", x.sleeper(1, 1), 0);
        check.due("what is elsewhere isn't tipped", x.sleeper(2, 1), 0);
        check.due("m is full", x.thing(2, 1), 1);
        NightInn hands = check.told("inn minutes 5;room a creak 0;room b creak 0;door a,b;thing k in a full;dream x 0 take k then 1;"
            + "dream x 1 go b then 2;dream x 2 tip k then 3;sleeper p bed a dreams x");
        hands.minutes(4);
        check.due("in its hands, elsewhere than told", hands.thing(0, 1), 0);
        check.due("and it has it still", hands.sleeper(0, 2), 0);
        check.due("STATE", hands.sleeper(0, 1), 3);
    }

    private void shutting() {
        check.promise(12, "shut: if there is a door to that ROOM and it is open: it is shut, STATE then");
        int[] how = {1, 1, 2};
        int[] state = {1, 0, 0};
        String[] told = {"", " shut", " locked"};
        for (int i = 0; i < 3; i++) {
            NightInn x = check.told("inn minutes 5;room a creak 0;room b creak 0;room c creak 0;door c,b;door b,a" + told[i]
                + ";dream x 0 shut b then 1;dream y 0 shut c then 1;dream z 0 shut a then 1;"
                + "sleeper p bed a dreams x;sleeper q bed a dreams y;sleeper r bed a dreams z");
            x.minutes(1);
            check.due("the door" + told[i], x.doorway(1, 0), how[i]);
            check.due("STATE, the door" + told[i], x.sleeper(0, 1), state[i]);
            check.due("STATE, no door to c", x.sleeper(1, 1), 0);
            check.due("STATE, its own ROOM", x.sleeper(2, 1), 0);
            check.due("the other door", x.doorway(0, 0), 0);
            check.due("nobody went through", x.doorway(1, 1), 0);
        }
    }

    private void hearing() {
        check.promise(17, "something CREAKS in a ROOM that CREAKS more than it is FAR");
        // A row of rooms: p goes from a to b, which creaks from 0 to 9; b is 0, 1, .. doors away.
        for (int creak = 0; creak <= 9; creak++) {
            for (int away = 0; away <= 6; away++) {
                NightInn x = check.told("inn minutes 1;room a creak 0;room b creak " + creak + ";room c creak 0;room d creak 0;"
                    + "room e creak 0;room f creak 0;room g creak 0;room h creak 0;door a,b;door b,c;door c,d locked;"
                    + "door d,e shut;door e,f;door f,g falls;door g,h;dream x 0 go b then 1;sleeper p bed a dreams x;"
                    + "listens " + (char) ('b' + away));
                x.morning();
                check.due("creak " + creak + ", FAR " + away, x.heard(0, 1), creak > away ? 1 : 0);
            }
        }
        NightInn none = check.told("inn minutes 1;room a creak 0;room b creak 9;room c creak 9;door a,b;dream x 0 go b then 1;"
            + "sleeper p bed a dreams x;listens c");
        none.morning();
        check.due("without a way nothing is HEARD", none.heard(0, 1), 0);
        check.promise(17, "HEARD in a MINUTE: two that CREAK are HEARD, though the latter can't be");
        NightInn two = check.told("inn minutes 1;room a creak 0;room b creak 1;room c creak 0;door a,b;door a,c;"
            + "dream x 0 go b then 1;dream y 0 go c then 1;sleeper p bed a dreams x;sleeper q bed a dreams y;listens b");
        two.morning();
        check.due("heard(0, 1)", two.heard(0, 1), 1);
    }

    private void settings() {
        check.promise(10, "A SETTING: 0 none; 1 and 2 times a door: that is shut at nightfall; 2 and 2 times a door: it is locked");
        int[] told = {1, 2, 0};
        NightInn x = some();
        for (int setting = 0; setting <= 6; setting++) {
            x.nightfall(setting);
            for (int d = 0; d < 3; d++) {
                int due = setting == 1 + 2 * d ? 1 : setting == 2 + 2 * d ? 2 : told[d];
                check.due("door " + d + " with SETTING " + setting, x.doorway(d, 0), due);
            }
        }
        NightInn last = full();
        for (int setting = 17; setting <= 20; setting++) {
            last.nightfall(setting);
            check.due("door 8 with SETTING " + setting, last.doorway(8, 0), setting == 17 ? 1 : setting == 18 ? 2 : 0);
            check.due("door 9 with SETTING " + setting, last.doorway(9, 0), setting == 19 ? 1 : 2);
        }
        check.promise(10, "(Each in place of what is told of it.)");
        NightInn locked = check.told("inn minutes 5;room a creak 0;room b creak 0;door a,b locked;dream x 0 go b then 1;"
            + "sleeper p bed a dreams x");
        locked.nightfall(1);
        locked.minutes(1);
        check.due("what is told locked is shut by a SETTING, and one goes through", locked.sleeper(0, 0), 1);
        check.due("and the door is open", locked.doorway(0, 0), 0);
        locked.nightfall(0);
        check.due("as told in the next NIGHT", locked.doorway(0, 0), 2);
    }
}

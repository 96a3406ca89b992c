/** Promises 35 to 40: rooms that none comes to, who is led, sizes, trouble. */
public final class SafeTest {
    private static final Check check = new Check();

    public static void main(String[] args) {
        safe();
        leastBits();
        lockedAsTold();
        walks();
        led();
        sizes();
        trouble();
        noInn();
        check.end();
    }

    private static void keeps(NightInn x, int room, int doors) {
        int count = doors < 0 ? doors : Integer.bitCount(doors);
        check.plain(x, "safely(" + room + ")", x.safely(room), doors);
        check.plain(x, "safe(" + room + ")", x.safe(room), count);
        check.plain(x, "walks(" + room + ")", x.walks(room), count);
    }

    private static void safe() {
        NightInn x = check.told("inn minutes 1;room a creak 0;room b creak 0;room c creak 0;room d creak 0;room e creak 0;"
            + "door a,b;door b,c shut;door a,c falls;door c,d;dream x 0 wait then 0;sleeper p bed a dreams x");
        keeps(x, 0, -2);
        keeps(x, 1, 3);
        keeps(x, 2, 6 - 1);
        keeps(x, 3, 8);
        keeps(x, 4, 0);
        for (int room : new int[] {5, -1, Integer.MAX_VALUE, Integer.MIN_VALUE}) {
            check.refused(x, "safe(" + room + ")", x.safe(room), 1);
            check.refused(x, "safely(" + room + ")", x.safely(room), 1);
            check.refused(x, "walks(" + room + ")", x.walks(room), 1);
        }
    }

    private static void leastBits() {
        // A row of doors: any of them keeps d, and the least bits are the first's.
        NightInn x = check.told("inn minutes 1;room a creak 0;room b creak 0;room c creak 0;room d creak 0;"
            + "door c,d;door b,c;door a,b;dream x 0 wait then 0;sleeper p bed a dreams x");
        keeps(x, 3, 1);
        keeps(x, 2, 2);
        keeps(x, 1, 4);
        // Beds on both sides: two doors, and fewer bits are not less than fewer doors.
        NightInn y = check.told("inn minutes 1;room a creak 0;room b creak 0;room c creak 0;room d creak 0;room e creak 0;"
            + "door a,b;door b,c;door c,d;door d,e;dream x 0 wait then 0;sleeper p bed a dreams x;sleeper q bed e dreams x");
        keeps(y, 2, 1 + 4);
        // Every door there is, and none of them at the first room.
        NightInn all = check.told("inn minutes 1;room a creak 0;room b creak 0;room c creak 0;room d creak 0;"
            + "door b,c;door d,c;dream x 0 wait then 0;sleeper p bed b dreams x;sleeper q bed d dreams x");
        keeps(all, 2, 1 + 2);
        keeps(all, 0, 0);
        keeps(all, 3, -2);
        NightInn z = check.told("inn minutes 1;room a creak 0;room b creak 0;room c creak 0;room d creak 0;"
            + "door a,b;door a,c;door b,d;door c,d;door b,c;room e creak 0;door d,e;"
            + "dream x 0 wait then 0;sleeper p bed a dreams x");
        keeps(z, 3, 1 + 2);
        keeps(z, 4, 32);
    }

    private static void lockedAsTold() {
        NightInn x = check.told("inn minutes 1;room a creak 0;room b creak 0;room c creak 0;door a,b locked;door b,c;"
            + "door a,c;dream x 0 wait then 0;sleeper p bed a dreams x");
        keeps(x, 1, 2);
        keeps(x, 2, 4);
        // A SETTING is of nights, not of what is told.
        x.nightfall(6);
        keeps(x, 1, 2);
        x.nightfall(1);
        keeps(x, 2, 4);
        NightInn y = check.told("inn minutes 1;room a creak 0;room b creak 0;door a,b locked;"
            + "dream x 0 wait then 0;sleeper p bed a dreams x");
        keeps(y, 1, 0);
    }

    private static void walks() {
        // Four doors at the room, three at the bed: three walks, over rooms that they share.
        NightInn x = check.told("inn minutes 1;room a creak 0;room b creak 0;room c creak 0;room d creak 0;room e creak 0;"
            + "room f creak 0;room g creak 0;room h creak 0;door a,b;door a,c;door a,d;door b,e;door c,e;door d,e;"
            + "door e,f;door e,g;door f,h;door g,h;dream x 0 wait then 0;sleeper p bed a dreams x");
        keeps(x, 4, 7);
        keeps(x, 7, 64 + 128);
        keeps(x, 5, 64 + 128);
        // From several beds, one in the way of another.
        NightInn y = check.told("inn minutes 1;room a creak 0;room b creak 0;room c creak 0;room d creak 0;"
            + "door a,b;door b,c;door a,c;door c,d;door b,d;door a,d;dream x 0 wait then 0;"
            + "sleeper p bed a dreams x;sleeper q bed b dreams x;sleeper r bed a dreams x");
        keeps(y, 2, 2 + 4 + 8);
        keeps(y, 3, 8 + 16 + 32);
    }

    private static void led() {
        NightInn x = check.told("inn minutes 5;room a creak 0;room b creak 0;door a,b;dream x 0 go b then 1;"
            + "dream x 1 go a then 2;dream y 0 wait then 0;sleeper p bed a dreams x;sleeper q bed a dreams y;"
            + "sleeper r bed a dreams x");
        check.due("led(0) at nightfall", Check.led(x, 0), -1);
        x.minutes(1);
        int before = x.far(0, 9);
        check.due("led(0)", Check.led(x, 0), 0);
        check.due("led(1)", Check.led(x, 1), 2);
        check.due("led(2)", Check.led(x, 2), -1);
        check.due("led(-1)", Check.led(x, -1), -1);
        check.due("led(MAX)", Check.led(x, Integer.MAX_VALUE), -1);
        check.due("led changes no trouble", x.trouble(), -before);
        x.minutes(2);
        check.due("led(0) back in bed", Check.led(x, 0), -1);
    }

    private static void sizes() {
        NightInn x = check.told("inn minutes 12;room a creak 0;room b creak 0;room c creak 0;door a,b;door b,c;thing k in a;"
            + "dream x 0 wait then 0;dream y 1 wait then 0;dream y 2 wait then 0;dream z 0 wait then 0;dream u 0 wait then 0;"
            + "sleeper p bed a dreams x;sleeper q bed a dreams x;listens a;listens b;listens c");
        x.nightfall(4);
        x.minutes(7);
        x.noteDoor(0, 0, 0);
        x.noteDoor(0, 0, 0);
        x.mark();
        x.feed(1, 2, 3, 4, 5);
        int[] due = {3, 2, 1, 4, 2, 3, 12, 7, 2, 1, 4, 20};
        for (int what = 0; what < due.length; what++) {
            check.due("size(" + what + ")", x.size(what), due[what]);
        }
        check.due("size(-1)", x.size(-1), -1);
        check.due("size(12)", x.size(12), -1);
        check.due("size(MIN)", x.size(Integer.MIN_VALUE), -1);
        check.due("trouble() isn't size's", x.trouble(), 0);
    }

    private static void trouble() {
        NightInn x = check.told("inn minutes 1;room a creak 0;dream x 0 wait then 0;sleeper p bed a dreams x");
        check.refused(x, "far(9, 9)", x.far(9, 9), 1);
        check.due("trouble() once more", x.trouble(), 1);
        x.size(0);
        x.size(99);
        x.fault();
        x.where();
        x.feed(0, 0, 0, 0, 0);
        Check.led(x, 0);
        check.due("trouble() behind calls that can't be refused", x.trouble(), 1);
        check.plain(x, "far(0, 0)", x.far(0, 0), 0);
        check.agreed(x, "nightfall(0)", x.nightfall(0));
        check.denied(x, "strike()", x.strike(), 6);
        check.plain(x, "verdict()", x.verdict(), 0);
        noTroubleBehind();
    }

    /** Each call that may be refused, and isn't, behind one that was. */
    private static void noTroubleBehind() {
        NightInn x = check.told("inn minutes 2;room a creak 0;room b creak 0;door a,b;thing k in a;dream x 0 go b then 0;"
            + "dream y 0 wait then 0;sleeper p bed a dreams x;listens a");
        for (int call = 0; call < 32; call++) {
            x.far(-1, -1);
            switch (call) {
                case 0 -> x.far(0, 1);
                case 1 -> x.room(0, 0);
                case 2 -> x.door(0, 1);
                case 3 -> x.dream(0, 0, 0);
                case 4 -> x.nightfall(0);
                case 5 -> x.dreams(0, 1);
                case 6 -> x.minutes(1);
                case 7 -> x.morning();
                case 8 -> x.thing(0, 0);
                case 9 -> x.thing(0, 1);
                case 10 -> x.thing(0, 2);
                case 11 -> x.doorway(0, 0);
                case 12 -> x.heard(0, 1);
                case 13 -> x.creaks(0);
                case 14 -> x.called(0, 0, 0);
                case 15 -> x.mark();
                case 16 -> x.back(0);
                case 17 -> x.noteHeard(0, 0, 1, false);
                case 18 -> x.noteThing(0, 0, 0);
                case 19 -> x.noteDoor(0, 0, 0);
                case 20 -> x.strike();
                case 21 -> x.fits(0);
                case 22 -> x.fit(0, 0, 0);
                case 23 -> x.sure(0);
                case 24 -> x.verdict();
                case 25 -> x.parts(0);
                case 26 -> x.best();
                case 27 -> x.told(0, 1);
                case 28 -> x.alike(0, 1);
                case 29 -> x.never();
                case 30 -> x.safe(1);
                default -> x.walks(1);
            }
            check.due("trouble() behind call " + call + " behind one refused", x.trouble(), 0);
        }
        for (int what = 0; what < 5; what++) {
            x.far(-1, -1);
            x.sleeper(0, what);
            check.due("trouble() behind sleeper(0, " + what + ")", x.trouble(), 0);
        }
        for (int how = 0; how < 4; how++) {
            x.noteDoor(how % 2, 0, how / 2 == 0 ? 1 : 0);
            x.noteDoor(1 - how % 2, 0, 2);
            x.far(-1, -1);
            x.verdict();
            check.due("trouble() behind verdict()", x.trouble(), 0);
            x.strike();
            x.strike();
        }
        x.far(-1, -1);
        Check.tell(x, "inn minutes 2;room a creak 0;dream x 0 wait then 0;sleeper p bed a dreams x");
        check.due("trouble() behind inn()", x.trouble(), 0);
        x.far(-1, -1);
        x.safely(0);
        check.due("trouble() behind safely()", x.trouble(), 0);
    }

    private static void noInn() {
        NightInn x = new NightInn();
        check.refused(x, "safe(0)", x.safe(0), 1);
        check.refused(x, "safely(0)", x.safely(0), 1);
        check.refused(x, "walks(0)", x.walks(0), 1);
        check.due("led(0)", Check.led(x, 0), -1);
    }
}

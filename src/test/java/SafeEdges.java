import java.util.NoSuchElementException;

/** The edges that Terms III and IV and promises 35 to 40 name: safe rooms, who is led, sizes, trouble. */
final class SafeEdges {
    private static final String FULL = NightEdges.FULL;
    private static final String SOME = NightEdges.SOME;
    private static final String LEAST = TextEdges.LEAST;

    private final Check check;

    SafeEdges(Check check) {
        this.check = check;
    }

    void all() {
        numbers();
        bedIsThere();
        noDoorIsNeeded();
        besideThoseToldLocked();
        leastBits();
        allDoors();
        walks();
        led();
        sizes();
        troubleOfWhichCalls();
        troubleNumbers();
    }

    private NightInn full() {
        return check.told(FULL);
    }

    private NightInn some() {
        return check.told(SOME);
    }

    private NightInn least() {
        return check.told(LEAST);
    }

    /** Rooms a, b, .. so many, that don't creak, and a dream x that waits. */
    private static String rooms(int count) {
        StringBuilder text = new StringBuilder("inn minutes 1;dream x 0 wait then 0");
        for (int i = 0; i < count; i++) {
            text.append(";room ").append((char) ('a' + i)).append(" creak 0");
        }
        return text.toString();
    }

    /** What safely, safe and walks answer of a room, each of an object of its own. */
    private void keeps(String text, int room, int bits) {
        int count = bits < 0 ? bits : Integer.bitCount(bits);
        check.promise(35, "SAFE: how many doors; -2 if a bed is there");
        check.answers(check.told(text), count, "safe(" + room + ") of " + text, x -> x.safe(room));
        check.promise(36, "They, as bits; -2");
        check.answers(check.told(text), bits, "safely(" + room + ") of " + text, x -> x.safely(room));
        check.promise(37, "WALKS; -2 if a bed is there");
        check.answers(check.told(text), count, "walks(" + room + ") of " + text, x -> x.walks(room));
    }

    private void numbers() {
        for (int promise = 35; promise <= 37; promise++) {
            check.promise(promise, "NONE: 1");
            Check.Asked ask = promise == 35 ? NightInn::safe : promise == 36 ? NightInn::safely : NightInn::walks;
            for (int room : new int[] {0, 1, -1, 7, Integer.MIN_VALUE, Integer.MAX_VALUE}) {
                check.refuses(new NightInn(), 1, "of ROOM " + room + " without an INN", x -> ask.of(x, room));
            }
            check.bounds(this::least, "of ROOM ?", 0, 0, 1, ask);
            check.bounds(this::some, "of ROOM ?", 0, 4, 1, ask);
            check.bounds(this::full, "of ROOM ?", 0, 7, 1, ask);
        }
    }

    private void bedIsThere() {
        keeps(LEAST, 0, -2);
        String row = rooms(3) + ";door a,b;door b,c";
        keeps(row + ";sleeper p bed a dreams x;sleeper q bed c dreams x", 0, -2);
        keeps(row + ";sleeper p bed a dreams x;sleeper q bed c dreams x", 2, -2);
        keeps(row + ";sleeper p bed a dreams x;sleeper q bed c dreams x", 1, 3);
        keeps(row + ";sleeper p bed a dreams x;sleeper q bed a dreams x;sleeper r bed b dreams x", 1, -2);
        keeps(row + ";sleeper p bed a dreams x;sleeper q bed a dreams x;sleeper r bed b dreams x", 2, 2);
        check.promise(35, "if a bed is there: a bed, not a sleeper");
        NightInn x = check.told("inn minutes 1;room a creak 0;room b creak 0;door a,b;dream x 0 go b then 0;sleeper p bed a dreams x");
        x.morning();
        check.answers(x, 1, "safe(1), where the sleeper is", y -> y.safe(1));
        check.answers(x, -2, "safe(0), which it has left", y -> y.safe(0));
    }

    private void noDoorIsNeeded() {
        keeps(rooms(2) + ";sleeper p bed a dreams x", 1, 0);
        keeps(rooms(3) + ";door b,c;sleeper p bed a dreams x", 1, 0);
        keeps(rooms(3) + ";door b,c;sleeper p bed a dreams x", 2, 0);
        keeps(rooms(2) + ";door a,b locked;sleeper p bed a dreams x", 1, 0);
        keeps(rooms(3) + ";door a,b locked;door b,c;sleeper p bed a dreams x", 2, 0);
    }

    private void besideThoseToldLocked() {
        // A door told locked is no way, is none of those to lock, and a SETTING changes nothing of that.
        String ring = rooms(3) + ";door a,b locked;door b,c;door c,a shut;sleeper p bed a dreams x";
        keeps(ring, 1, 2);
        keeps(ring, 2, 4);
        check.promise(36, "locked beside those that are told so");
        for (int setting = 0; setting <= 6; setting++) {
            NightInn x = check.told(ring);
            x.nightfall(setting);
            check.answers(x, 2, "safely(1) in a NIGHT with SETTING " + setting, y -> y.safely(1));
            check.answers(x, 4, "safely(2) in a NIGHT with SETTING " + setting, y -> y.safely(2));
            check.answers(x, 1, "walks(2) in a NIGHT with SETTING " + setting, y -> y.walks(2));
        }
    }

    private void leastBits() {
        // A row in which any door will do, whichever way round it is told.
        keeps(rooms(4) + ";door a,b;door b,c;door c,d;sleeper p bed a dreams x", 3, 1);
        keeps(rooms(4) + ";door d,c;door c,b;door b,a;sleeper p bed a dreams x", 3, 1);
        keeps(rooms(4) + ";door c,b;door a,b;door d,c;sleeper p bed a dreams x", 3, 1);
        keeps(rooms(4) + ";door c,b;door a,b;door d,c;sleeper p bed a dreams x", 2, 1);
        keeps(rooms(4) + ";door c,b;door a,b;door d,c;sleeper p bed a dreams x", 1, 2);
        // Fewer doors ahead of less bits: one door of 512 is fewer than two of 3.
        keeps(rooms(8) + ";door a,b;door a,c;door b,d;door c,d;door b,c;door d,e;door d,f;door e,g;door f,g;door g,h;"
            + "sleeper p bed a dreams x", 7, 512);
        keeps(rooms(8) + ";door a,b;door a,c;door b,d;door c,d;door b,c;door d,e;door d,f;door e,g;door f,g;door g,h;"
            + "sleeper p bed a dreams x", 6, 1 + 2);
        // From two sides: the least of each.
        keeps(rooms(5) + ";door a,b;door b,c;door c,d;door d,e;sleeper p bed a dreams x;sleeper q bed e dreams x", 2, 1 + 4);
    }

    private void allDoors() {
        // A star of seven doors with beds in three of its ends, and in one.
        String star = rooms(8) + ";door a,b;door a,c;door a,d;door a,e;door a,f;door a,g;door a,h";
        keeps(star + ";sleeper p bed b dreams x;sleeper q bed d dreams x;sleeper r bed h dreams x", 0, 1 + 4 + 64);
        keeps(star + ";sleeper p bed h dreams x", 0, 64);
        keeps(star + ";sleeper p bed h dreams x", 1, 1);
        keeps(rooms(2) + ";door a,b;sleeper p bed a dreams x", 1, 1);
        keeps(rooms(3) + ";door a,b;door c,b;sleeper p bed a dreams x;sleeper q bed c dreams x", 1, 3);
        // Five doors at a room, and as many ways: each room between has a way of its own.
        keeps(rooms(7) + ";door a,b;door a,c;door a,d;door a,e;door a,f;door b,g;door c,g;door d,g;door e,g;door f,g;"
            + "sleeper p bed a dreams x", 6, 31);
    }

    private void walks() {
        check.promise(37, "as many from beds to it as share no door (none locked), at most");
        // Rooms may be shared, doors not: four doors at e, three at a, two at h.
        String knot = rooms(8) + ";door a,b;door a,c;door a,d;door b,e;door c,e;door d,e;door e,f;door e,g;door f,h;door g,h;"
            + "sleeper p bed a dreams x";
        int[] due = {-2, 2, 2, 2, 3, 2, 2, 2};
        for (int room = 0; room < 8; room++) {
            int asked = room;
            check.answers(check.told(knot), due[room], "walks(" + room + ")", x -> x.walks(asked));
        }
        // One locked door less.
        String locked = knot.replace("door a,b", "door a,b locked");
        check.answers(check.told(locked), 2, "walks(4), a door being locked", x -> x.walks(4));
        check.answers(check.told(locked), 1, "walks(1), a door being locked", x -> x.walks(1));
        // Three beds in one room are as one; a bed on the way begins a walk of its own.
        check.answers(check.told(rooms(2) + ";door a,b;sleeper p bed a dreams x;sleeper q bed a dreams x;sleeper r bed a dreams x"),
            1, "walks(1) from three beds in one ROOM", x -> x.walks(1));
        check.answers(check.told(rooms(4) + ";door a,b;door b,c;door b,d;door d,c;sleeper p bed a dreams x;sleeper q bed b dreams x"),
            2, "walks(2), a bed being on the way", x -> x.walks(2));
    }

    private void led() {
        check.promise(38, "The i-th sleeper, by LINES, that isn't in its bed. NoSuchElementException if there is none such");
        String text = "inn minutes 5;room a creak 0;room b creak 0;room c creak 0 cold;door a,b;door a,c;dream x 0 go b then 1;"
            + "dream x 1 go a then 2;dream y 0 wait then 0;dream z 0 go c then 0;sleeper p bed a dreams ?;sleeper q bed a dreams !;"
            + "sleeper r bed a dreams #";
        for (int cast = 0; cast < 27; cast++) {
            int[] dreams = {cast / 9, cast / 3 % 3, cast % 3};
            NightInn x = check.told(text.replace('?', "xyz".charAt(dreams[0])).replace('!', "xyz".charAt(dreams[1]))
                .replace('#', "xyz".charAt(dreams[2])));
            throwsNone(x, 0);
            x.minutes(1);
            int led = 0;
            for (int s = 0; s < 3; s++) {
                if (dreams[s] != 1) {
                    check.due("led(" + led + ") of cast " + cast, Check.led(x, led), s);
                    led++;
                }
            }
            for (int i : Check.outside(0, led - 1)) {
                throwsNone(x, i);
            }
            x.minutes(2);
            led = 0;
            for (int s = 0; s < 3; s++) {
                if (dreams[s] == 2) {
                    check.due("led(" + led + ") of those AWAKE", Check.led(x, led), s);
                    led++;
                }
            }
            throwsNone(x, led);
        }
        for (int i : Check.outside(0, -1)) {
            throwsNone(new NightInn(), i);
            throwsNone(least(), i);
        }
        check.promise(38, "led is of no TROUBLE, and what it threw changes nothing");
        NightInn x = some();
        x.inn(-1);
        int[] before = Check.sizes(x);
        throwsNone(x, 0);
        check.due("trouble()", x.trouble(), 2);
        int[] behind = Check.sizes(x);
        for (int what = 0; what < before.length; what++) {
            check.due("size(" + what + ")", behind[what], before[what]);
        }
    }

    private void throwsNone(NightInn x, int i) {
        boolean thrown = false;
        try {
            x.led(i);
        } catch (NoSuchElementException none) {
            thrown = true;
        }
        check.due("led(" + i + ") throws NoSuchElementException", thrown, true);
    }

    private void sizes() {
        check.promise(39, "NONE for others; 0 for what there isn't");
        for (int what : Check.outside(0, 11)) {
            check.due("size(" + what + ") of a new object", new NightInn().size(what), -1);
            check.due("size(" + what + ")", full().size(what), -1);
        }
        int[] none = new int[12];
        int[] ofLeast = {1, 0, 0, 1, 1, 0, 1, 0, 0, 0, 0, 0};
        int[] ofSome = {5, 3, 2, 2, 2, 2, 6, 0, 0, 0, 0, 0};
        int[] ofFull = {8, 10, 4, 4, 3, 3, 40, 0, 0, 0, 0, 0};
        sizesOf(new NightInn(), none);
        sizesOf(least(), ofLeast);
        sizesOf(some(), ofSome);
        sizesOf(full(), ofFull);
        check.promise(39, "7 MINUTES of this NIGHT that have been, 8 NOTES, 9 MARKS, 10 the SETTING of this NIGHT, 11 bytes of THE TAPE");
        NightInn x = full();
        x.nightfall(20);
        x.morning();
        for (int i = 0; i < 21; i++) {
            x.noteDoor(0, 0, 0);
        }
        for (int i = 0; i < 4; i++) {
            x.mark();
        }
        for (int i = 0; i < 46; i++) {
            x.feed(0, 0, 0, 0, 0);
        }
        sizesOf(x, new int[] {8, 10, 4, 4, 3, 3, 40, 40, 20, 3, 20, 900});
        x.nightfall(7);
        sizesOf(x, new int[] {8, 10, 4, 4, 3, 3, 40, 0, 20, 3, 7, 900});
        x.inn(-1);
        x.size(0);
        x.size(-1);
        check.due("trouble() isn't size's", x.trouble(), 2);
    }

    private void sizesOf(NightInn x, int[] due) {
        for (int what = 0; what < due.length; what++) {
            check.due("size(" + what + ")", x.size(what), due[what]);
        }
    }

    private void troubleOfWhichCalls() {
        check.promise(40, "TROUBLE of the latest call that may be refused (those of which a number is told here)");
        check.due("trouble() of a new object", new NightInn().trouble(), 0);
        for (int why : new int[] {0, 1, 2, 4, 6}) {
            NightInn x = least();
            makeTrouble(x, why);
            check.due("trouble()", x.trouble(), why);
            check.due("trouble() once more", x.trouble(), why);
            x.feed(0, 0, 0, 0, 0);
            check.due("trouble() behind feed()", x.trouble(), why);
            x.fault();
            check.due("trouble() behind fault()", x.trouble(), why);
            x.where();
            check.due("trouble() behind where()", x.trouble(), why);
            x.size(0);
            x.size(99);
            check.due("trouble() behind size()", x.trouble(), why);
            throwsNone(x, 0);
            check.due("trouble() behind led()", x.trouble(), why);
            for (int i = 0; i < 46; i++) {
                x.feed(0, 0, 0, 0, 0);
            }
            check.due("trouble() behind a feed() that didn't come", x.trouble(), why);
        }
    }

    private static void makeTrouble(NightInn x, int why) {
        switch (why) {
            case 0 -> x.far(0, 0);
            case 1 -> x.far(1, 1);
            case 2 -> x.inn(1);
            case 4 -> x.inn(0);
            default -> x.strike();
        }
    }

    private void troubleNumbers() {
        check.promise(40, "0 it wasn't; 1 there is none such; 2 a number; 3 no room; 4 a FAULT; 6 there is none");
        NightInn x = check.told(SOME);
        check.answers(x, 0, "far(0, 0)", y -> y.far(0, 0));
        check.refuses(x, 1, "far(0, 5)", y -> y.far(0, 5));
        check.refuses(x, 2, "minutes(0)", y -> y.minutes(0));
        for (int i = 0; i < 3; i++) {
            check.answers(x, i, "mark()", NightInn::mark);
        }
        check.refuses(x, 3, "mark()", NightInn::mark);
        x.inn(-1);
        x.inn(0);
        check.due("trouble() behind a FAULT", x.trouble(), 4);
        check.denies(x, 6, "strike()", NightInn::strike);
        check.answers(x, 6, "morning()", NightInn::morning);
        check.refuses(x, 6, "minutes(1)", y -> y.minutes(1));
        check.agrees(x, "nightfall(0)", y -> y.nightfall(0));
    }
}

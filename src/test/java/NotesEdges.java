import java.util.HashMap;
import java.util.Map;

/** The edges that Terms III and promises 22 to 34 name: notes, casts, and what settings tell. */
final class NotesEdges {
    private static final String FULL = NightEdges.FULL;
    private static final String SOME = NightEdges.SOME;
    private static final String LEAST = TextEdges.LEAST;

    /** x carries k to b, y shuts the door, z waits; only x is heard, in minute 2, from b. */
    private static final String THREE = "inn minutes 3;room a creak 0;room b creak 1;door a,b;thing k in a;"
        + "dream x 0 take k then 1;dream x 1 go b then 2;dream y 0 shut b then 1;dream z 0 wait then 0;"
        + "sleeper p bed a dreams x;listens b";

    /** One room without doors, four dreams that wait, three sleepers: 64 casts, all of one morning. */
    private static final String ALL_WAIT = "inn minutes 1;room a creak 1;thing k in a;dream x 0 wait then 0;dream y 0 wait then 0;"
        + "dream z 0 wait then 0;dream u 0 wait then 0;sleeper p bed a dreams u;sleeper q bed a dreams x;sleeper r bed a dreams x";

    private final Check check;

    NotesEdges(Check check) {
        this.check = check;
    }

    void all() {
        noteHeard();
        noteThing();
        noteDoor();
        twentyNotes();
        strike();
        fits();
        fit();
        castsInOrder();
        sure();
        verdict();
        parts();
        best();
        told();
        alike();
        never();
        lastSettingTells();
        innAnew();
        withoutASetting();
        notesOfEach();
        morningOfSleepers();
        morningOfThings();
        morningOfDoors();
        morningOfAll();
        morningOfOnePart();
        morningOfWhoListens();
    }

    private NightInn full() {
        return check.told(FULL);
    }

    private NightInn some() {
        return check.told(SOME);
    }

    private NightInn least() {
        return check.told(LEAST);
    }

    private NightInn three() {
        return check.told(THREE);
    }

    /** An inn whose notes can't be so in any night. */
    private NightInn noneFits() {
        NightInn x = three();
        x.noteThing(0, 0, 0);
        x.noteThing(1, 0, 1);
        return x;
    }

    private NightInn withNotes(String text, int notes) {
        NightInn x = check.told(text);
        for (int i = 0; i < notes; i++) {
            check.due("NOTE " + i, x.noteDoor(i % 2, 0, 0), i + 1);
        }
        return x;
    }

    private void noInn(String call, Check.Asked ask) {
        for (int number : new int[] {0, 1, -1, 4, Integer.MIN_VALUE, Integer.MAX_VALUE}) {
            check.refuses(new NightInn(), 1, call.replace("?", "" + number) + " without an INN", x -> ask.of(x, number));
        }
    }

    // ---- notes

    private void noteHeard() {
        check.promise(22, "NONE: 1 (book, who); 2; 3");
        noInn("noteHeard(?, 0, 1, true)", (x, n) -> x.noteHeard(n, 0, 1, true));
        noInn("noteHeard(0, ?, 1, true)", (x, n) -> x.noteHeard(0, n, 1, true));
        noInn("noteHeard(0, 0, ?, true)", (x, n) -> x.noteHeard(0, 0, n, true));
        check.refuses(least(), 1, "noteHeard where nobody listens", x -> x.noteHeard(0, 0, 1, true));
        check.bounds(this::some, "noteHeard(?, 1, 6, true)", 0, 1, 1, (x, n) -> x.noteHeard(n, 1, 6, true));
        check.bounds(this::some, "noteHeard(0, ?, 6, false)", 0, 1, 1, (x, n) -> x.noteHeard(0, n, 6, false));
        check.bounds(this::full, "noteHeard(1, ?, 40, true)", 0, 2, 1, (x, n) -> x.noteHeard(1, n, 40, true));
        check.refuses(some(), 1, "a wrong book and MINUTE", x -> x.noteHeard(2, 0, 7, true));
        check.refuses(some(), 1, "a wrong who and MINUTE", x -> x.noteHeard(0, 2, 0, true));
        check.promise(22, "in a MINUTE (1 up to minutes)");
        check.bounds(() -> check.told(LEAST + ";listens a"), "noteHeard(0, 0, ?, true)", 1, 1, 2, (x, n) -> x.noteHeard(0, 0, n, true));
        check.bounds(this::some, "noteHeard(0, 1, ?, true)", 1, 6, 2, (x, n) -> x.noteHeard(0, 1, n, true));
        check.bounds(this::full, "noteHeard(1, 2, ?, false)", 1, 40, 2, (x, n) -> x.noteHeard(1, 2, n, false));
        NightInn before = some();
        check.answers(before, 1, "noteHeard of a MINUTE that hasn't been", x -> x.noteHeard(0, 0, 6, true));
        check.promise(22, "HEARD by one in a MINUTE, or not");
        for (int minute = 1; minute <= 3; minute++) {
            NightInn x = three();
            x.noteHeard(0, 0, minute, true);
            check.due("fits(1) by HEARD in MINUTE " + minute, x.fits(1), minute == 2 ? 1 : 0);
            x.strike();
            x.noteHeard(0, 0, minute, false);
            check.due("fits(1) by not HEARD in MINUTE " + minute, x.fits(1), minute == 2 ? 2 : 3);
        }
    }

    private void noteThing() {
        check.promise(23, "NONE: 1; 3");
        noInn("noteThing(?, 0, 0)", (x, n) -> x.noteThing(n, 0, 0));
        noInn("noteThing(0, ?, 0)", (x, n) -> x.noteThing(0, n, 0));
        noInn("noteThing(0, 0, ?)", (x, n) -> x.noteThing(0, 0, n));
        check.refuses(least(), 1, "noteThing without THINGS", x -> x.noteThing(0, 0, 0));
        check.bounds(this::some, "noteThing(?, 1, 4)", 0, 1, 1, (x, n) -> x.noteThing(n, 1, 4));
        check.bounds(this::some, "noteThing(1, ?, 4)", 0, 1, 1, (x, n) -> x.noteThing(1, n, 4));
        check.bounds(this::some, "noteThing(1, 1, ?)", 0, 4, 1, (x, n) -> x.noteThing(1, 1, n));
        check.bounds(this::full, "noteThing(0, ?, 7)", 0, 3, 1, (x, n) -> x.noteThing(0, n, 7));
        check.bounds(this::full, "noteThing(0, 3, ?)", 0, 7, 1, (x, n) -> x.noteThing(0, 3, n));
        check.promise(23, "A NOTE: a THING in a ROOM");
        for (int room = 0; room < 2; room++) {
            NightInn x = three();
            x.noteThing(1, 0, room);
            check.due("fits(2) by k in " + room, x.fits(2), room == 0 ? 2 : 1);
        }
    }

    private void noteDoor() {
        check.promise(24, "NONE: 1; 2; 3");
        noInn("noteDoor(?, 0, 0)", (x, n) -> x.noteDoor(n, 0, 0));
        noInn("noteDoor(0, ?, 0)", (x, n) -> x.noteDoor(0, n, 0));
        noInn("noteDoor(0, 0, ?)", (x, n) -> x.noteDoor(0, 0, n));
        check.refuses(least(), 1, "noteDoor without doors", x -> x.noteDoor(0, 0, 0));
        check.bounds(this::some, "noteDoor(?, 2, 2)", 0, 1, 1, (x, n) -> x.noteDoor(n, 2, 2));
        check.bounds(this::some, "noteDoor(1, ?, 2)", 0, 2, 1, (x, n) -> x.noteDoor(1, n, 2));
        check.bounds(this::full, "noteDoor(0, ?, 1)", 0, 9, 1, (x, n) -> x.noteDoor(0, n, 1));
        check.refuses(some(), 1, "a wrong door and how", x -> x.noteDoor(0, 3, 3));
        check.refuses(some(), 1, "a wrong book and how", x -> x.noteDoor(2, 0, -1));
        check.promise(24, "a door open (0), shut (1), locked (2)");
        check.bounds(this::some, "noteDoor(1, 0, ?)", 0, 2, 2, (x, n) -> x.noteDoor(1, 0, n));
        check.bounds(this::full, "noteDoor(1, 9, ?)", 0, 2, 2, (x, n) -> x.noteDoor(1, 9, n));
        int[] due = {2, 1, 0};
        for (int how = 0; how < 3; how++) {
            NightInn x = three();
            x.noteDoor(0, 0, how);
            check.due("fits(1) by the door being " + how, x.fits(1), due[how]);
        }
    }

    private void twentyNotes() {
        check.promise(22, "NOTES: up to 20; how many there are; 3");
        NightInn heard = some();
        for (int i = 1; i <= 20; i++) {
            int note = i;
            check.due("noteHeard " + i, heard.noteHeard(i % 2, 0, 1, false), note);
        }
        check.refuses(heard, 3, "noteHeard 21", x -> x.noteHeard(0, 0, 1, true));
        check.refuses(withNotes(SOME, 20), 3, "noteHeard behind twenty", x -> x.noteHeard(1, 1, 6, false));
        check.refuses(withNotes(SOME, 20), 1, "noteHeard of no such book", x -> x.noteHeard(2, 1, 6, false));
        check.refuses(withNotes(SOME, 20), 2, "noteHeard of no such MINUTE", x -> x.noteHeard(1, 1, 7, false));
        check.answers(withNotes(SOME, 19), 20, "noteHeard behind nineteen", x -> x.noteHeard(1, 1, 6, false));
        check.promise(23, "NOTES: up to 20; how many; 3");
        NightInn things = some();
        for (int i = 1; i <= 20; i++) {
            check.due("noteThing " + i, things.noteThing(i % 2, 0, 1), i);
        }
        check.refuses(things, 3, "noteThing 21", x -> x.noteThing(0, 0, 0));
        check.refuses(withNotes(SOME, 20), 3, "noteThing behind twenty", x -> x.noteThing(1, 1, 4));
        check.refuses(withNotes(SOME, 20), 1, "noteThing of no such ROOM", x -> x.noteThing(1, 1, 5));
        check.answers(withNotes(SOME, 19), 20, "noteThing behind nineteen", x -> x.noteThing(1, 1, 4));
        check.promise(24, "NOTES: up to 20; how many; 3");
        check.refuses(withNotes(SOME, 20), 3, "noteDoor behind twenty", x -> x.noteDoor(1, 2, 2));
        check.refuses(withNotes(SOME, 20), 1, "noteDoor of no such door", x -> x.noteDoor(1, 3, 2));
        check.refuses(withNotes(SOME, 20), 2, "noteDoor of no such how", x -> x.noteDoor(1, 2, 3));
        check.answers(withNotes(SOME, 19), 20, "noteDoor behind nineteen", x -> x.noteDoor(1, 2, 2));
        check.promise(22, "NOTES: the twentieth counts, one that was refused doesn't");
        NightInn last = three();
        for (int i = 0; i < 19; i++) {
            last.noteHeard(0, 0, 1, false);
        }
        last.noteThing(0, 0, 1);
        check.due("fits(1) by the twentieth", last.fits(1), 1);
        last.noteThing(0, 0, 0);
        last.noteDoor(0, 0, 2);
        last.noteHeard(0, 0, 1, true);
        check.due("fits(1) behind refused NOTES", last.fits(1), 1);
        check.agrees(last, "strike() of the twentieth", NightInn::strike);
        check.due("fits(1) without it", last.fits(1), 3);
        check.answers(last, 20, "a twentieth again", x -> x.noteDoor(0, 0, 1));
        check.due("fits(1) by it", last.fits(1), 1);
        check.due("and it is y", last.fit(1, 0, 0), 1);
        Check.tell(last, THREE);
        check.due("NOTES of an INN anew", last.size(8), 0);
        check.answers(last, 1, "the first NOTE of an INN anew", x -> x.noteDoor(0, 0, 1));
    }

    private void strike() {
        check.promise(25, "The latest NOTE goes: true; false: 6 (there is none)");
        check.denies(new NightInn(), 6, "strike() without an INN", NightInn::strike);
        check.denies(least(), 6, "strike() without a NOTE", NightInn::strike);
        NightInn x = three();
        x.noteThing(0, 0, 1);
        x.noteDoor(1, 0, 1);
        check.due("fits(3) by both", x.fits(3), 0);
        check.agrees(x, "strike()", NightInn::strike);
        check.due("size(8)", x.size(8), 1);
        check.due("the latest went, whatever its book", x.fits(3), 1);
        check.agrees(x, "strike()", NightInn::strike);
        check.due("fits(3) without NOTES", x.fits(3), 3);
        check.denies(x, 6, "strike() of none", NightInn::strike);
        check.due("size(8)", x.size(8), 0);
        NightInn many = withNotes(SOME, 20);
        for (int left = 19; left >= 0; left--) {
            check.agrees(many, "strike()", NightInn::strike);
            check.due("size(8)", many.size(8), left);
        }
        check.denies(many, 6, "strike() behind twenty", NightInn::strike);
    }

    // ---- casts

    private void fits() {
        check.promise(26, "NONE: 1 (no INN; no DREAM); 2");
        noInn("fits(?)", NightInn::fits);
        check.bounds(this::least, "fits(?)", 0, 3, 2, NightInn::fits);
        check.bounds(this::full, "fits(?)", 0, 3, 2, NightInn::fits);
        check.promise(26, "How many CASTS FIT by books (bits 0 .. 3)");
        int[] due = {3, 2, 1, 0};
        int[] changed = {3, 1, 2, 0};
        for (int books = 0; books < 4; books++) {
            int asked = books;
            check.answers(noneFits(), due[books], "fits(" + books + ")", x -> x.fits(asked));
            NightInn x = three();
            x.noteThing(1, 0, 0);
            x.noteThing(0, 0, 1);
            check.answers(x, changed[books], "fits(" + books + "), the books being changed", y -> y.fits(asked));
        }
        check.promise(26, "A CAST: a DREAM for each sleeper: one up to 4 times 4 times 4");
        check.answers(least(), 1, "fits(0) of one", x -> x.fits(0));
        check.answers(check.told(ALL_WAIT), 64, "fits(0) of 64", x -> x.fits(0));
        check.answers(check.told(LEAST + ";sleeper q bed a dreams x;sleeper r bed a dreams x"), 1, "fits(0) of one DREAM",
            x -> x.fits(0));
        check.answers(full(), 64, "fits(3) of all", x -> x.fits(3));
        check.answers(some(), 4, "fits(3) of two and two", x -> x.fits(3));
    }

    private void fit() {
        check.promise(27, "NONE: 1 (sleeper, i); 2");
        noInn("fit(?, 0, 0)", (x, n) -> x.fit(n, 0, 0));
        noInn("fit(0, ?, 0)", (x, n) -> x.fit(0, n, 0));
        noInn("fit(0, 0, ?)", (x, n) -> x.fit(0, 0, n));
        check.bounds(this::least, "fit(?, 0, 0)", 0, 3, 2, (x, n) -> x.fit(n, 0, 0));
        check.bounds(this::least, "fit(3, ?, 0)", 0, 0, 1, (x, n) -> x.fit(3, n, 0));
        check.bounds(this::least, "fit(3, 0, ?)", 0, 0, 1, (x, n) -> x.fit(3, 0, n));
        check.bounds(this::some, "fit(0, ?, 1)", 0, 3, 1, (x, n) -> x.fit(0, n, 1));
        check.bounds(this::full, "fit(0, ?, 2)", 0, 63, 1, (x, n) -> x.fit(0, n, 2));
        check.bounds(this::full, "fit(0, 63, ?)", 0, 2, 1, (x, n) -> x.fit(0, 63, n));
        check.bounds(this::full, "fit(?, 63, 2)", 0, 3, 2, (x, n) -> x.fit(n, 63, 2));
        check.promise(27, "in the i-th CAST that FITS");
        for (int books = 0; books < 4; books++) {
            int asked = books;
            int[] fit = {3, 2, 1, 0};
            check.bounds(this::noneFits, "fit(" + books + ", ?, 0)", 0, fit[books] - 1, 1, (x, n) -> x.fit(asked, n, 0));
        }
        int[] byFirst = {1, 2};
        for (int i = 0; i < 2; i++) {
            int asked = i;
            check.answers(noneFits(), byFirst[i], "fit(1, " + i + ", 0)", x -> x.fit(1, asked, 0));
        }
        check.answers(noneFits(), 0, "fit(2, 0, 0)", x -> x.fit(2, 0, 0));
        check.answers(noneFits(), 2, "fit(0, 2, 0)", x -> x.fit(0, 2, 0));
    }

    private void castsInOrder() {
        check.promise(27, "in order of DREAMS by LINES, the last sleeper's change first");
        NightInn x = check.told(ALL_WAIT);
        for (int i = 0; i < 64; i++) {
            check.due("fit(0, " + i + ", 0)", x.fit(0, i, 0), i / 16);
            check.due("fit(0, " + i + ", 1)", x.fit(0, i, 1), i / 4 % 4);
            check.due("fit(0, " + i + ", 2)", x.fit(0, i, 2), i % 4);
        }
        NightInn two = some();
        for (int i = 0; i < 4; i++) {
            check.due("fit(3, " + i + ", 0)", two.fit(3, i, 0), i / 2);
            check.due("fit(3, " + i + ", 1)", two.fit(3, i, 1), i % 2);
        }
        // Of an inn behind another, smaller or greater.
        Check.tell(x, ALL_WAIT.replace(";sleeper r bed a dreams x", "").replace(";dream u 0 wait then 0", "").replace("dreams u",
            "dreams x"));
        for (int i = 0; i < 9; i++) {
            check.due("fit(0, " + i + ", 0) of the next INN", x.fit(0, i, 0), i / 3);
            check.due("fit(0, " + i + ", 1) of the next INN", x.fit(0, i, 1), i % 3);
        }
        check.refuses(x, 1, "fit(0, 9, 0) of the next INN", y -> y.fit(0, 9, 0));
        check.refuses(x, 1, "fit(0, 0, 2) of the next INN", y -> y.fit(0, 0, 2));
    }

    private void sure() {
        check.promise(28, "NONE: 1; 6 (none FITS)");
        noInn("sure(?)", NightInn::sure);
        check.bounds(this::least, "sure(?)", 0, 0, 1, NightInn::sure);
        check.bounds(this::some, "sure(?)", 0, 1, 1, NightInn::sure);
        check.bounds(this::full, "sure(?)", 0, 2, 1, NightInn::sure);
        check.refuses(noneFits(), 6, "sure(0) when none FITS", x -> x.sure(0));
        check.refuses(noneFits(), 1, "sure(1) when none FITS", x -> x.sure(1));
        check.refuses(noneFits(), 1, "sure(-1) when none FITS", x -> x.sure(-1));
        check.promise(28, "SURE: the DREAM; -2 if it isn't");
        check.answers(least(), 0, "sure(0) of one DREAM", x -> x.sure(0));
        check.answers(three(), -2, "sure(0) of three", x -> x.sure(0));
        // One fits, the first, the second, the third; and two, of which each other one is left out.
        for (int one = 0; one < 3; one++) {
            NightInn x = three();
            only(x, one);
            check.due("fits(3)", x.fits(3), 1);
            int due = one;
            check.answers(x, due, "sure(0) of the one " + one, y -> y.sure(0));
        }
        NightInn noX = three();
        noX.noteThing(0, 0, 0);
        check.answers(noX, -2, "sure(0) of y and z", x -> x.sure(0));
        NightInn noY = three();
        noY.noteDoor(1, 0, 0);
        check.answers(noY, -2, "sure(0) of x and z", x -> x.sure(0));
        // Of two sleepers one is sure, in all CASTS that fit.
        String two = THREE.replace("sleeper p bed a dreams x", "sleeper p bed a dreams x;sleeper q bed b dreams x");
        NightInn x = check.told(two);
        x.noteThing(0, 0, 1);
        check.due("fits(3)", x.fits(3), 3);
        check.answers(x, 0, "sure(0)", y -> y.sure(0));
        check.answers(x, -2, "sure(1)", y -> y.sure(1));
    }

    /** Notes by which one dream alone fits in THREE. */
    private static void only(NightInn x, int dream) {
        x.noteThing(0, 0, dream == 0 ? 1 : 0);
        x.noteDoor(1, 0, dream == 1 ? 1 : 0);
    }

    private void verdict() {
        check.promise(29, "NONE: 1 (no INN; no DREAM)");
        noInn("verdict()", (x, n) -> x.verdict());
        check.promise(29, "VERDICT: 0 there are some by both");
        check.answers(least(), 0, "verdict() without NOTES", NightInn::verdict);
        for (int one = 0; one < 3; one++) {
            NightInn x = three();
            only(x, one);
            check.answers(x, 0, "verdict(), one FITTING", NightInn::verdict);
        }
        check.promise(29, "1 by book 0 alone, not by book 1; 2 by book 1 alone");
        // Of the book that doesn't lie one CAST fits, or all do.
        for (int liar = 0; liar < 2; liar++) {
            for (int notes = 0; notes < 2; notes++) {
                NightInn x = three();
                x.noteDoor(liar, 0, 2);
                if (notes > 0) {
                    x.noteThing(1 - liar, 0, 1);
                }
                check.answers(x, liar == 1 ? 1 : 2, "verdict(), book " + liar + " lying", NightInn::verdict);
            }
        }
        check.promise(29, "3 by each, not by both");
        check.answers(noneFits(), 3, "verdict()", NightInn::verdict);
        NightInn each = three();
        each.noteThing(0, 0, 1);
        each.noteDoor(1, 0, 1);
        check.answers(each, 3, "verdict(), by one CAST each", NightInn::verdict);
        check.promise(29, "4 by neither");
        NightInn neither = three();
        neither.noteDoor(0, 0, 2);
        neither.noteHeard(1, 0, 3, true);
        check.answers(neither, 4, "verdict()", NightInn::verdict);
    }

    // ---- settings

    private void parts() {
        check.promise(30, "NONE: 1 (SETTING; no DREAM); 6 (none FITS)");
        noInn("parts(?)", NightInn::parts);
        check.bounds(this::least, "parts(?)", 0, 0, 1, NightInn::parts);
        check.bounds(this::some, "parts(?)", 0, 6, 1, NightInn::parts);
        check.bounds(this::full, "parts(?)", 0, 20, 1, NightInn::parts);
        for (int setting = 0; setting < 3; setting++) {
            int asked = setting;
            check.refuses(noneFits(), 6, "parts(" + setting + ") when none FITS", x -> x.parts(asked));
        }
        check.refuses(noneFits(), 1, "parts(3) when none FITS", x -> x.parts(3));
        check.refuses(noneFits(), 1, "parts(-1) when none FITS", x -> x.parts(-1));
        check.promise(30, "the most CASTS that FIT by both books with one MORNING");
        check.answers(check.told(ALL_WAIT), 64, "parts(0) of 64 alike", x -> x.parts(0));
        check.answers(least(), 1, "parts(0) of one", x -> x.parts(0));
        // Without a SETTING all three are told apart; the door shut, y is as z; locked, all are in a.
        int[] due = {1, 2, 3};
        for (int setting = 0; setting < 3; setting++) {
            int asked = setting;
            check.answers(three(), due[setting], "parts(" + setting + ")", x -> x.parts(asked));
            NightInn one = three();
            only(one, 1);
            check.answers(one, 1, "parts(" + setting + ") of one", x -> x.parts(asked));
        }
        // By notes, as they are without a SETTING.
        NightInn noX = three();
        noX.noteThing(0, 0, 0);
        check.answers(noX, 2, "parts(2) without x", x -> x.parts(2));
        NightInn noZ = three();
        noZ.noteDoor(1, 0, 1);
        check.answers(noZ, 1, "parts(2) of y", x -> x.parts(2));
    }

    private void best() {
        check.promise(31, "NONE: 1 (no INN; no DREAM); 6");
        noInn("best()", (x, n) -> x.best());
        check.refuses(noneFits(), 6, "best() when none FITS", NightInn::best);
        check.promise(31, "BEST: the SETTING with the least, the first such");
        check.answers(least(), 0, "best() without doors", NightInn::best);
        check.answers(three(), 0, "best(), without a SETTING", NightInn::best);
        check.answers(check.told(ALL_WAIT), 0, "best() of all alike", NightInn::best);
        String row = "inn minutes 9;room a creak 0;room b creak 0;room c creak 0;room d creak 0;room e creak 0;room f creak 0;"
            + "room g creak 0;room h creak 0;door a,b;door b,c;door c,d;door d,e;door e,f;door f,g;door g,a;door a,c;door a,d;door a,h;";
        String same = row + "thing k in h full;dream x 0 go h then 1;dream x 1 tip k then 2;dream y 0 go h then 1;"
            + "dream y 1 wait then 2;dream y 2 tip k then 3;sleeper p bed h dreams x";
        check.answers(check.told(same), 0, "best() of two alike", NightInn::best);
        check.promise(33, "ALIKE: in all SETTINGS of ten doors");
        check.answers(check.told(same), 1, "alike(0, 1) of two alike", x -> x.alike(0, 1));
        check.promise(34, "ALIKE: in all SETTINGS of ten doors");
        check.answers(check.told(same), 1, "never() of two alike", NightInn::never);
        check.promise(31, "BEST: the SETTING with the least, of ten doors");
        // x tips k and goes off to a; y goes to a first, comes back, tips k and goes off, too: the last of ten doors
        // being locked, x alone tips k.
        String text = row + "thing k in h full;dream x 0 tip k then 1;dream x 1 go a then 1;dream y 0 go a then 1;"
            + "dream y 1 go h then 2;dream y 2 tip k then 3;dream y 3 go a then 3;sleeper p bed h dreams x";
        check.answers(check.told(text), 20, "best() by the last SETTING", NightInn::best);
        check.answers(check.told(text), 0, "alike(0, 1), told apart by the last SETTING", x -> x.alike(0, 1));
        check.answers(check.told(text), 0, "never(), told apart by the last SETTING", NightInn::never);
        NightInn last = check.told(text);
        for (int setting = 0; setting < 20; setting++) {
            check.due("parts(" + setting + ")", last.parts(setting), 2);
        }
        check.due("parts(20)", last.parts(20), 1);
        // x goes through the last door and comes back: shut at nightfall, it tells who opened it.
        check.answers(check.told(row + "dream x 0 go h then 1;dream x 1 go a then 1;dream y 0 wait then 0;sleeper p bed a dreams x"),
            19, "best() by the last SETTING but one", NightInn::best);
    }

    private void told() {
        check.promise(32, "NONE: 1; 6");
        noInn("told(?, 0)", (x, n) -> x.told(n, 0));
        noInn("told(0, ?)", (x, n) -> x.told(0, n));
        check.bounds(this::least, "told(?, 0)", 0, 0, 1, (x, n) -> x.told(n, 0));
        check.bounds(this::some, "told(?, 6)", 0, 6, 1, (x, n) -> x.told(n, 6));
        check.bounds(this::some, "told(6, ?)", 0, 6, 1, (x, n) -> x.told(6, n));
        check.bounds(this::full, "told(20, ?)", 0, 20, 1, (x, n) -> x.told(20, n));
        check.refuses(noneFits(), 6, "told(0, 2) when none FITS", x -> x.told(0, 2));
        check.refuses(noneFits(), 1, "told(0, 3) when none FITS", x -> x.told(0, 3));
        check.refuses(noneFits(), 1, "told(3, 0) when none FITS", x -> x.told(3, 0));
        check.promise(32, "TOLD by two SETTINGS: the most with one MORNING in both");
        int[][] due = {{1, 1, 1}, {1, 2, 2}, {1, 2, 3}};
        for (int one = 0; one < 3; one++) {
            for (int other = 0; other < 3; other++) {
                int first = one;
                int second = other;
                check.answers(three(), due[one][other], "told(" + one + ", " + other + ")", x -> x.told(first, second));
            }
        }
        // One SETTING tells x, another y; both of them all.
        String two = "inn minutes 5;room a creak 0;room b creak 0;room c creak 0;door a,b;door a,c;dream x 0 go b then 1;"
            + "dream x 1 go a then 1;dream y 0 go c then 1;dream y 1 go a then 1;dream z 0 wait then 0;sleeper p bed a dreams x";
        check.answers(check.told(two), 1, "best() of like ones", NightInn::best);
        check.answers(check.told(two), 2, "told(1, 1)", x -> x.told(1, 1));
        check.answers(check.told(two), 2, "told(3, 3)", x -> x.told(3, 3));
        check.answers(check.told(two), 1, "told(1, 3)", x -> x.told(1, 3));
        check.answers(check.told(two), 1, "told(3, 1)", x -> x.told(3, 1));
        check.answers(check.told(ALL_WAIT), 64, "told(0, 0) of 64 alike", x -> x.told(0, 0));
    }

    private void alike() {
        check.promise(33, "NONE: 1 (numbers; one twice, too)");
        noInn("alike(?, 1)", (x, n) -> x.alike(n, 1));
        noInn("alike(0, ?)", (x, n) -> x.alike(0, n));
        check.bounds(this::three, "alike(?, 0)", 1, 2, 1, (x, n) -> x.alike(n, 0));
        check.bounds(this::three, "alike(2, ?)", 0, 1, 1, (x, n) -> x.alike(2, n));
        check.bounds(() -> check.told(ALL_WAIT), "alike(?, 63)", 0, 62, 1, (x, n) -> x.alike(n, 63));
        check.bounds(() -> check.told(ALL_WAIT), "alike(0, ?)", 1, 63, 1, (x, n) -> x.alike(0, n));
        check.refuses(least(), 1, "alike(0, 0) of one CAST", x -> x.alike(0, 0));
        check.refuses(least(), 1, "alike(0, 1) of one CAST", x -> x.alike(0, 1));
        check.refuses(noneFits(), 1, "alike(0, 1) when none FITS", x -> x.alike(0, 1));
        for (int one = 0; one < 3; one++) {
            int twice = one;
            check.refuses(three(), 1, "alike(" + one + ", " + one + ")", x -> x.alike(twice, twice));
        }
        check.promise(33, "two such CASTS, by their numbers among these");
        NightInn noX = three();
        noX.noteThing(0, 0, 0);
        check.answers(noX, 0, "alike(0, 1) of y and z", x -> x.alike(0, 1));
        check.refuses(noX, 1, "alike(0, 2) of two", x -> x.alike(0, 2));
        NightInn one = three();
        only(one, 2);
        check.refuses(one, 1, "alike(0, 1) of one", x -> x.alike(0, 1));
        check.promise(33, "ALIKE: have one MORNING in all SETTINGS: 1, 0");
        // z is y again: they are alike, though neither is first; x differs without a SETTING alone.
        String text = THREE.replace("dream z 0 wait then 0", "dream z 0 shut b then 2");
        check.answers(check.told(text), 1, "alike(1, 2)", x -> x.alike(1, 2));
        check.answers(check.told(text), 1, "alike(2, 1)", x -> x.alike(2, 1));
        check.answers(check.told(text), 0, "alike(0, 1)", x -> x.alike(0, 1));
        check.answers(check.told(text), 0, "alike(2, 0)", x -> x.alike(2, 0));
        // Told apart by one SETTING of three: the first, or the second.
        check.answers(three(), 0, "alike(1, 2), by the SETTING 0", x -> x.alike(1, 2));
        String opened = "inn minutes 5;room a creak 0;room b creak 0;door a,b;dream x 0 go b then 1;dream x 1 go a then 1;"
            + "dream y 0 wait then 0;sleeper p bed a dreams x";
        check.answers(check.told(opened), 0, "alike(0, 1), by the SETTING 1", x -> x.alike(0, 1));
    }

    private void never() {
        check.promise(34, "NONE: 1 (no INN; no DREAM)");
        noInn("never()", (x, n) -> x.never());
        check.promise(34, "How many pairs of CASTS are ALIKE");
        check.answers(least(), 0, "never() of one CAST", NightInn::never);
        check.answers(noneFits(), 0, "never() when none FITS", NightInn::never);
        check.answers(three(), 0, "never() of three told apart", NightInn::never);
        check.answers(check.told(ALL_WAIT), 64 * 63 / 2, "never() of 64 alike", NightInn::never);
        String text = THREE.replace("dream z 0 wait then 0", "dream z 0 shut b then 2");
        check.answers(check.told(text), 1, "never() of one pair", NightInn::never);
        NightInn noX = check.told(text);
        noX.noteThing(0, 0, 0);
        check.answers(noX, 1, "never() of one pair that fits", NightInn::never);
        NightInn x = check.told(text);
        x.noteThing(0, 0, 1);
        check.answers(x, 0, "never() of x alone", NightInn::never);
    }

    /** Only with the last door locked x, who tips first, is told from y, who tips when it is back. */
    private static final String LAST = "inn minutes 9;room a creak 0;room b creak 0;room c creak 0;door b,c;door a,b;"
        + "thing k in a full;dream x 0 tip k then 1;dream x 1 go b then 1;"
        + "dream y 0 go b then 1;dream y 1 go a then 2;dream y 2 tip k then 3;dream y 3 go b then 3;sleeper p bed a dreams x";

    private void lastSettingTells() {
        check.promise(33, "ALIKE: in all SETTINGS, the last of them, too");
        check.answers(check.told(LAST), 0, "alike(0, 1)", x -> x.alike(0, 1));
        check.promise(34, "pairs that are ALIKE: in all SETTINGS, the last of them, too");
        check.answers(check.told(LAST), 0, "never()", NightInn::never);
        check.promise(31, "the SETTING with the least, the last of them, too");
        check.answers(check.told(LAST), 4, "best()", NightInn::best);
        int[] due = {2, 2, 2, 2, 1};
        for (int setting = 0; setting < 5; setting++) {
            int asked = setting;
            check.promise(30, "PARTS of a SETTING");
            check.answers(check.told(LAST), due[setting], "parts(" + setting + ")", x -> x.parts(asked));
            check.promise(32, "TOLD by two SETTINGS");
            check.answers(check.told(LAST), due[setting], "told(0, " + setting + ")", x -> x.told(0, asked));
            check.answers(check.told(LAST), due[setting], "told(" + setting + ", 0)", x -> x.told(asked, 0));
        }
    }

    private void innAnew() {
        check.promise(30, "PARTS of the INN that is told, not of one before");
        NightInn x = new NightInn();
        String waiting = LAST.replace("go b", "wait").replace("go a", "wait").replace("tip k", "wait");
        for (int turn = 0; turn < 4; turn++) {
            boolean tells = turn % 2 == 0;
            Check.tell(x, tells ? LAST : waiting);
            check.answers(x, tells ? 1 : 2, "parts(4)", y -> y.parts(4));
            check.answers(x, tells ? 4 : 0, "best()", NightInn::best);
            check.answers(x, tells ? 0 : 1, "never()", NightInn::never);
            check.answers(x, tells ? 0 : 1, "alike(1, 0)", y -> y.alike(1, 0));
            check.answers(x, 2, "told(0, 2)", y -> y.told(0, 2));
            x.noteThing(0, 0, 0);
            check.answers(x, 2, "fits(3)", y -> y.fits(3));
        }
        Check.tell(x, THREE);
        x.noteThing(0, 0, 1);
        check.answers(x, 1, "fits(3) of another INN", y -> y.fits(3));
        check.answers(x, 1, "parts(2) of another INN", y -> y.parts(2));
    }

    private void withoutASetting() {
        check.promise(26, "A CAST FITS if all NOTES of these are so, without a SETTING");
        for (int setting = 0; setting < 3; setting++) {
            NightInn x = three();
            x.nightfall(setting);
            x.minutes(2);
            x.dreams(0, 2);
            x.noteThing(0, 0, 1);
            check.due("fits(1) in a NIGHT with SETTING " + setting, x.fits(1), 1);
            check.due("the NIGHT stays", x.size(7), 2);
            check.due("its SETTING stays", x.size(10), setting);
            check.due("its DREAM stays", x.sleeper(0, 4), 0);
        }
    }

    private void notesOfEach() {
        // Nobody goes: each thing is in its room, each door is as told, and nothing else can be noted of it.
        String still = FULL.substring(0, FULL.indexOf(";dream")) + ";dream x 0 wait then 0;sleeper p bed a dreams x";
        check.promise(23, "A NOTE: a THING in a ROOM, of each THING and each ROOM");
        for (int[] rooms : new int[][] {{0, 1, 2, 7}, {7, 0, 5, 3}, {1, 7, 7, 6}, {4, 4, 3, 2}}) {
            String text = still;
            for (int t = 0; t < 4; t++) {
                text = text.replaceFirst("thing " + "klmn".charAt(t) + " in .", "thing " + "klmn".charAt(t) + " in " + "abcdefgh".charAt(rooms[t]));
            }
            NightInn x = check.told(text);
            for (int t = 0; t < 4; t++) {
                for (int room = 0; room < 8; room++) {
                    x.noteThing(t % 2, t, room);
                    check.due("fits(3) by THING " + t + " in " + room, x.fits(3), room == rooms[t] ? 1 : 0);
                    x.strike();
                }
            }
        }
        check.promise(24, "A NOTE: a door open, shut, locked, of each door");
        String rooms = still.substring(0, still.indexOf(";door"));
        for (int first = 0; first < 3; first++) {
            StringBuilder text = new StringBuilder(rooms);
            for (int d = 0; d < 10; d++) {
                text.append(";door ").append((char) ('a' + d / 6)).append(',').append((char) ('c' + d % 6));
                text.append(new String[] {"", " shut", " locked"}[(first + d) % 3]);
            }
            NightInn x = check.told(text + ";dream x 0 wait then 0;sleeper p bed a dreams x");
            for (int d = 0; d < 10; d++) {
                for (int how = 0; how < 3; how++) {
                    x.noteDoor(d % 2, d, how);
                    check.due("fits(3) by door " + d + " being " + how, x.fits(3), how == (first + d) % 3 ? 1 : 0);
                    x.strike();
                }
            }
        }
        check.promise(22, "A NOTE: HEARD by one in a MINUTE, of each one and each MINUTE");
        // p goes round: b, c and d are heard each in its turn, by who is there alone.
        NightInn x = check.told("inn minutes 12;room a creak 0;room b creak 1;room c creak 1;room d creak 1;door b,c;door c,d;door d,b;"
            + "dream x 0 go b then 1;dream x 1 go c then 2;dream x 2 go d then 0;sleeper p bed d dreams x;listens c;listens d;listens b");
        int[] heard = {2, 0, 1};
        for (int who = 0; who < 3; who++) {
            for (int minute = 1; minute <= 12; minute++) {
                int due = minute % 2 == 1 && heard[minute / 2 % 3] == who ? 1 : 0;
                x.noteHeard(minute % 2, who, minute, true);
                check.due("fits(3) by " + who + " in MINUTE " + minute, x.fits(3), due);
                x.strike();
            }
        }
    }

    // ---- what a MORNING tells

    /** Rooms a to h, a being next to all others; those in cold are so. */
    private static String star(int minutes, String cold) {
        StringBuilder text = new StringBuilder("inn minutes " + minutes);
        for (char room = 'a'; room <= 'h'; room++) {
            text.append(";room ").append(room).append(" creak 0").append(cold.indexOf(room) >= 0 ? " cold" : "");
        }
        for (char room = 'b'; room <= 'h'; room++) {
            text.append(";door a,").append(room);
        }
        return text.toString();
    }

    private static String threeIn(String bed) {
        return ";sleeper sa bed " + bed + " dreams dw;sleeper sb bed " + bed + " dreams dw;sleeper sc bed " + bed + " dreams dw";
    }

    private void morningOfSleepers() {
        check.promise(30, "MORNING: where each sleeper is");
        // Three sleepers, each of whom may be in four rooms by morning: no two of 64 casts are the same.
        for (char one = 'b'; one <= 'f'; one++) {
            for (char two = (char) (one + 1); two <= 'g'; two++) {
                for (char three = (char) (two + 1); three <= 'h'; three++) {
                    NightInn x = check.told(star(3, "") + ";dream dw 0 wait then 0;dream dx 0 go " + one + " then 0;dream dy 0 go " + two
                        + " then 0;dream dz 0 go " + three + " then 0" + threeIn("a"));
                    check.due("parts(0) by " + one + two + three, x.parts(0), 1);
                }
            }
        }
        check.promise(30, "MORNING: whether it is AWAKE");
        // The bed is in the cold: one waits, one goes off and comes back, one stays in a, one goes to another room.
        for (char bed = 'b'; bed <= 'h'; bed++) {
            for (char other = 'b'; other <= 'h'; other++) {
                if (other != bed) {
                    String dreams = ";dream dw 0 wait then 0;dream dx 0 go a then 1;dream dx 1 go " + bed
                        + " then 1;dream dy 0 go a then 0;dream dz 0 go " + other + " then 0";
                    NightInn x = check.told(star(3, "" + bed) + dreams + threeIn("" + bed));
                    check.due("parts(0), bed " + bed + ", else " + other, x.parts(0), 1);
                    NightInn cold = check.told(star(3, "" + bed + other) + dreams + threeIn("" + bed));
                    check.due("parts(0), bed " + bed + ", else in the cold " + other, cold.parts(0), 1);
                }
            }
        }
    }

    private void morningOfThings() {
        check.promise(30, "MORNING: whether a THING is full");
        // Each of three tips one of four: the most casts of one morning are six.
        for (char room = 'a'; room <= 'h'; room += 7) {
            NightInn x = check.told(star(1, "") + ";thing k in ? full;thing l in ? full;thing m in ? full;thing n in ? full".replace('?', room)
                + ";dream dw 0 tip k then 1;dream dx 0 tip l then 1;dream dy 0 tip m then 1;dream dz 0 tip n then 1" + threeIn("" + room));
            check.due("parts(0), all in " + room, x.parts(0), 6);
        }
        check.promise(30, "MORNING: where each THING is");
        // One of four things is carried to one of three rooms, or not at all; who carried it goes back to a.
        for (int t = 0; t < 4; t++) {
            for (String rooms : new String[] {"bcd", "efg", "beh", "cfh", "dgh"}) {
                StringBuilder text = new StringBuilder(star(9, "") + ";thing k in a;thing l in a full;thing m in a;thing n in a full");
                for (int i = 0; i < 3; i++) {
                    String dream = ";dream d" + (char) ('x' + i);
                    text.append(dream).append(" 0 take ").append("klmn".charAt(t)).append(" then 1");
                    text.append(dream).append(" 1 go ").append(rooms.charAt(i)).append(" then 2");
                    text.append(dream).append(" 2 put then 3").append(dream).append(" 3 go a then 3");
                }
                NightInn x = check.told(text + ";dream dw 0 wait then 0;sleeper sa bed a dreams dw");
                check.due("parts(0), THING " + t + " to " + rooms, x.parts(0), 1);
            }
        }
    }

    private void morningOfDoors() {
        check.promise(30, "MORNING: how each door is");
        // Each of three in a shuts one of four doors, the first of ten or the last.
        for (boolean last : new boolean[] {false, true}) {
            String others = ";door b,c;door c,d;door d,e";
            String rooms = star(1, "").substring(0, star(1, "").indexOf(";door"));
            String doors = star(1, "").substring(rooms.length());
            for (String shut : new String[] {"bcde", "efgh", "bdfh", "cegh"}) {
                StringBuilder text = new StringBuilder(rooms).append(last ? others + doors : doors + others);
                for (int i = 0; i < 4; i++) {
                    text.append(";dream d").append("wxyz".charAt(i)).append(" 0 shut ").append(shut.charAt(i)).append(" then 1");
                }
                NightInn x = check.told(text + threeIn("a"));
                check.due("parts(0) by the doors to " + shut, x.parts(0), 6);
            }
        }
    }

    private void morningOfAll() {
        check.promise(30, "MORNING: each part tells, whatever the others are");
        // A thing tipped, the first door shut, the last door but one shut, or gone through into the cold.
        for (char room = 'b'; room <= 'h'; room++) {
            if (room == 'c') {
                continue;
            }
            for (char thing = 'k'; thing <= 'n'; thing++) {
                String rooms = star(1, "" + room);
                rooms = rooms.substring(0, rooms.indexOf(";door"));
                NightInn x = check.told(rooms + ";door a,c;door b,d;door d,f;door e,f;door e,g;door f,h;door g,h;door b,h;door a,"
                    + room + ";door h,c" + ";thing k in a full;thing l in a full;thing m in a full;thing n in a full;dream dw 0 tip "
                    + thing + " then 1;dream dx 0 shut c then 1;dream dy 0 shut " + room + " then 1;dream dz 0 go " + room
                    + " then 1" + threeIn("a"));
                check.due("parts(0) by " + thing + " and " + room, x.parts(0), mostOfAll());
            }
        }
    }

    /**
     * The most casts of one morning among 64, when dy's door is opened again by those who go through it later:
     * found by going through them, in the order of the sleepers.
     */
    private static int mostOfAll() {
        Map<String, Integer> mornings = new HashMap<>();
        for (int cast = 0; cast < 64; cast++) {
            boolean tipped = false;
            boolean first = false;
            boolean last = false;
            int gone = 0;
            for (int s = 0; s < 3; s++) {
                switch (cast >> 2 * s & 3) {
                    case 0 -> tipped = true;
                    case 1 -> first = true;
                    case 2 -> last = true;
                    default -> {
                        gone |= 1 << s;
                        last = false;
                    }
                }
            }
            mornings.merge(tipped + " " + first + " " + last + " " + gone, 1, Integer::sum);
        }
        return mornings.values().stream().mapToInt(Integer::intValue).max().orElse(0);
    }

    private void morningOfOnePart() {
        // All go to r, which may be cold. If one of three, whichever, has done something first, the morning is another than
        // if none has; a second who would do it again can't, and stays.
        for (char r = 'b'; r <= 'h'; r++) {
            for (String cold : new String[] {"", "" + r}) {
                String rooms = star(4, cold).substring(0, star(4, cold).indexOf(";door"));
                String things = ";thing k in h full;thing l in h full;thing m in h full;thing n in h full";
                String dreams = ";dream dw 0 go " + r + " then 0;dream dx 0 ? then 1;dream dx 1 go " + r + " then 1" + threeIn("a");
                char other = r == 'c' ? 'd' : 'c';
                check.promise(30, "MORNING: how each door is, whatever else is so");
                for (int d = 0; d < 9; d++) {
                    String doors = doorsWith(d, ";door a," + other, ";door a," + r);
                    NightInn x = check.told(rooms + doors + things + dreams.replace("?", "shut " + other));
                    check.due("parts(0) by door " + d + ", all in " + r, x.parts(0), 3);
                }
                check.promise(30, "MORNING: of each THING, whatever else is so");
                for (int t = 0; t < 4; t++) {
                    char name = "klmn".charAt(t);
                    NightInn x = check.told(rooms + doorsWith(0, ";door a," + other, ";door a," + r)
                        + things.replace(name + " in h", name + " in a") + dreams.replace("?", "tip " + name));
                    check.due("parts(0) by THING " + t + " tipped, all in " + r, x.parts(0), 3);
                }
            }
        }
        check.promise(30, "MORNING: where each sleeper is, whatever else is so");
        for (String how : new String[] {" shut", " locked"}) {
            String rooms = star(3, "").substring(0, star(3, "").indexOf(";door"));
            String others = ";door b,c?;door b,d?;door b,e?;door b,f?;door b,g?;door c,d?;door c,e?;door c,f?;door c,g?".replace("?", how);
            String things = ";thing k in h full;thing l in h full;thing m in h full;thing n in h full";
            for (String doors : new String[] {";door a,h" + others, others + ";door a,h"}) {
                for (String thing : new String[] {"", things}) {
                    NightInn x = check.told(rooms + doors + thing + ";dream dw 0 wait then 0;dream dx 0 go h then 0" + threeIn("a"));
                    check.due("parts(0), the other doors being" + how, x.parts(0), 1);
                    NightInn from = check.told(rooms + doors + thing + ";dream dw 0 wait then 0;dream dx 0 go a then 0" + threeIn("h"));
                    check.due("parts(0) from h, the other doors being" + how, from.parts(0), 1);
                }
            }
        }
    }

    /** Ten doors, the last but one of which leads to where all go; the one at a place is another of a's. */
    private static String doorsWith(int place, String one, String last) {
        String[] others = {";door b,g", ";door b,h", ";door c,g", ";door c,h", ";door d,g", ";door d,h", ";door e,g", ";door e,h"};
        StringBuilder text = new StringBuilder();
        int next = 0;
        for (int d = 0; d < 10; d++) {
            if (d == place) {
                text.append(one);
            } else if (d == 9) {
                text.append(last);
            } else {
                text.append(others[next]);
                next++;
            }
        }
        return text.toString();
    }

    private void morningOfWhoListens() {
        check.promise(30, "MORNING: what each who listens HEARD in which MINUTES");
        // y goes to b and comes back, x a minute later; z waits: only one of three who listen can tell, if b creaks.
        for (int who = 0; who < 3; who++) {
            for (int creak = 0; creak <= 1; creak++) {
                String[] rooms = {"c", "d", "e"};
                rooms[who] = "b";
                String text = "inn minutes 6;room a creak 0;room b creak " + creak + ";room c creak 0;room d creak 0;room e creak 0;"
                    + "door a,b;dream x 0 wait then 1;dream x 1 go b then 2;dream x 2 go a then 2;dream y 0 go b then 1;"
                    + "dream y 1 go a then 1;dream z 0 wait then 0;sleeper p bed a dreams x;"
                    + "listens " + rooms[0] + ";listens " + rooms[1] + ";listens " + rooms[2];
                check.due("parts(0) by " + who + ", creak " + creak, check.told(text).parts(0), creak == 1 ? 1 : 3);
            }
        }
        // x comes back to a in the minutes 3, 7, .. 39, y in 4, 8, .. 40.
        NightInn last = check.told("inn minutes 40;room a creak 1;room b creak 1;door a,b;dream x 0 go b then 1;dream x 1 go a then 0;"
            + "dream y 0 wait then 1;dream y 1 go b then 2;dream y 2 go a then 1;sleeper p bed a dreams x;listens a");
        last.noteHeard(0, 0, 39, true);
        check.due("by HEARD in MINUTE 39", last.fit(1, 0, 0), 0);
        last.strike();
        last.noteHeard(0, 0, 40, true);
        check.due("by HEARD in MINUTE 40", last.fit(1, 0, 0), 1);
        check.due("and by one alone", last.fits(1), 1);
    }
}

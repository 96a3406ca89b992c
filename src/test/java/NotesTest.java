/** Promises 22 to 29: notes in two books, and by whose dreams they can be. */
public final class NotesTest {
    /** Dream x takes the thing to c, y goes to b and back, z waits; d is heard by nobody. */
    private static final String INN = "inn minutes 6;room a creak 1;room b creak 2;room c creak 1;room d creak 0;"
        + "door a,b;door b,c falls;door c,d locked;thing k in a full;thing l in b;"
        + "dream x 0 take k then 1;dream x 1 go c then 2;dream x 2 put then 3;"
        + "dream y 0 go b then 1;dream y 1 go a then 2;dream z 0 wait then 0;"
        + "sleeper p bed a dreams x;sleeper q bed d dreams z;listens a;listens c";

    private static final Check check = new Check();

    public static void main(String[] args) {
        writing();
        wrongNotes();
        fitting();
        notHeard();
        foundThingsAndDoors();
        order();
        sure();
        verdicts();
        castsAreApart();
        noInn();
        check.end();
    }

    private static void writing() {
        NightInn x = check.told(INN);
        check.denied(x, "strike() without a NOTE", x.strike(), 6);
        check.plain(x, "noteHeard", x.noteHeard(0, 0, 1, true), 1);
        check.plain(x, "noteHeard", x.noteHeard(1, 1, 6, false), 2);
        check.plain(x, "noteThing", x.noteThing(0, 1, 3), 3);
        check.plain(x, "noteDoor", x.noteDoor(1, 2, 2), 4);
        check.due("size(8)", x.size(8), 4);
        check.agreed(x, "strike()", x.strike());
        check.due("size(8)", x.size(8), 3);
        for (int i = 4; i <= 20; i++) {
            check.plain(x, "NOTE " + i, x.noteDoor(i % 2, 0, 0), i);
        }
        check.refused(x, "a note too many", x.noteHeard(0, 0, 1, true), 3);
        check.refused(x, "a note too many", x.noteThing(0, 0, 0), 3);
        check.refused(x, "a note too many", x.noteDoor(0, 0, 0), 3);
        check.refused(x, "1 ahead of 3", x.noteThing(2, 0, 0), 1);
        check.refused(x, "2 ahead of 3", x.noteHeard(0, 0, 7, true), 2);
        check.refused(x, "2 ahead of 3", x.noteDoor(0, 0, 3), 2);
        check.due("size(8) at most", x.size(8), 20);
        for (int i = 20; i > 0; i--) {
            check.agreed(x, "strike()", x.strike());
        }
        check.denied(x, "strike() of none", x.strike(), 6);
        check.plain(x, "all CASTS again", x.fits(3), 9);
        x.noteThing(0, 0, 3);
        x.nightfall(0);
        x.morning();
        check.due("NOTES stay behind nights", x.size(8), 1);
    }

    private static void wrongNotes() {
        NightInn x = check.told(INN);
        check.refused(x, "noteHeard(2, ..)", x.noteHeard(2, 0, 1, true), 1);
        check.refused(x, "noteHeard(-1, ..)", x.noteHeard(-1, 0, 1, true), 1);
        check.refused(x, "noteHeard(0, 2, ..)", x.noteHeard(0, 2, 1, true), 1);
        check.refused(x, "noteHeard(0, -1, ..)", x.noteHeard(0, -1, 1, true), 1);
        check.refused(x, "noteHeard(0, 0, 0, ..)", x.noteHeard(0, 0, 0, true), 2);
        check.refused(x, "noteHeard(0, 0, 7, ..)", x.noteHeard(0, 0, 7, true), 2);
        check.refused(x, "noteHeard(2, 0, 7, ..)", x.noteHeard(2, 0, 7, true), 1);
        check.refused(x, "noteThing(2, 0, 0)", x.noteThing(2, 0, 0), 1);
        check.refused(x, "noteThing(0, 2, 0)", x.noteThing(0, 2, 0), 1);
        check.refused(x, "noteThing(0, -1, 0)", x.noteThing(0, -1, 0), 1);
        check.refused(x, "noteThing(0, 0, 4)", x.noteThing(0, 0, 4), 1);
        check.refused(x, "noteThing(0, 0, -1)", x.noteThing(0, 0, -1), 1);
        check.refused(x, "noteDoor(-1, 0, 0)", x.noteDoor(-1, 0, 0), 1);
        check.refused(x, "noteDoor(0, 3, 0)", x.noteDoor(0, 3, 0), 1);
        check.refused(x, "noteDoor(0, -1, 0)", x.noteDoor(0, -1, 0), 1);
        check.refused(x, "noteDoor(0, 0, 3)", x.noteDoor(0, 0, 3), 2);
        check.refused(x, "noteDoor(0, 0, -1)", x.noteDoor(0, 0, -1), 2);
        check.refused(x, "noteDoor(0, 3, 3)", x.noteDoor(0, 3, 3), 1);
        check.due("size(8)", x.size(8), 0);
    }

    private static void fitting() {
        NightInn x = check.told(INN);
        check.plain(x, "fits(0)", x.fits(0), 9);
        check.plain(x, "fits(3)", x.fits(3), 9);
        x.noteHeard(0, 0, 1, true);
        // In minute 1 only y is at b, by p; q is behind a locked door.
        check.plain(x, "fits(1)", x.fits(1), 3);
        check.plain(x, "fits(2)", x.fits(2), 9);
        check.plain(x, "fits(3)", x.fits(3), 3);
        check.plain(x, "fits(0) is by no book", x.fits(0), 9);
        check.plain(x, "fit(1, 0, 0)", x.fit(1, 0, 0), 1);
        check.plain(x, "fit(1, 0, 1)", x.fit(1, 0, 1), 0);
        check.plain(x, "fit(1, 2, 1)", x.fit(1, 2, 1), 2);
        check.refused(x, "fit(1, 3, 0)", x.fit(1, 3, 0), 1);
        check.refused(x, "fit(1, -1, 0)", x.fit(1, -1, 0), 1);
        check.refused(x, "fit(1, 0, 2)", x.fit(1, 0, 2), 1);
        check.refused(x, "fit(1, 0, -1)", x.fit(1, 0, -1), 1);
        check.refused(x, "fit(4, 0, 0)", x.fit(4, 0, 0), 2);
        check.refused(x, "fit(-1, 0, 0)", x.fit(-1, 0, 0), 2);
        check.refused(x, "fit(4, 0, 2)", x.fit(4, 0, 2), 1);
        check.refused(x, "fits(4)", x.fits(4), 2);
        check.refused(x, "fits(-1)", x.fits(-1), 2);
        check.plain(x, "fit by book 1", x.fit(2, 8, 0), 2);
    }

    private static void notHeard() {
        NightInn x = check.told(INN);
        x.noteHeard(1, 1, 3, false);
        // In minute 3 x comes to c, and y, back in a, is too far from c.
        check.plain(x, "fits(2)", x.fits(2), 6);
        x.strike();
        x.noteHeard(1, 1, 3, true);
        check.plain(x, "fits(2)", x.fits(2), 3);
        check.plain(x, "fit(2, 2, 0)", x.fit(2, 2, 0), 0);
    }

    private static void foundThingsAndDoors() {
        NightInn x = check.told(INN);
        x.noteThing(0, 0, 2);
        check.plain(x, "k in c", x.fits(1), 3);
        x.strike();
        x.noteThing(0, 0, 0);
        check.plain(x, "k in a", x.fits(1), 6);
        x.strike();
        x.noteThing(0, 1, 1);
        check.plain(x, "l in b", x.fits(1), 9);
        x.strike();
        x.noteDoor(0, 1, 1);
        check.plain(x, "b,c fallen shut", x.fits(1), 3);
        x.strike();
        x.noteDoor(0, 1, 0);
        check.plain(x, "b,c open", x.fits(1), 6);
        x.strike();
        x.noteDoor(0, 2, 2);
        check.plain(x, "c,d locked", x.fits(1), 9);
        x.noteDoor(0, 0, 1);
        check.plain(x, "a,b shut", x.fits(1), 0);
    }

    private static void order() {
        NightInn x = check.told("inn minutes 1;room a creak 1;dream x 0 wait then 0;dream y 0 wait then 0;"
            + "dream z 0 wait then 0;dream u 0 wait then 0;"
            + "sleeper p bed a dreams u;sleeper q bed a dreams x;sleeper r bed a dreams x");
        check.plain(x, "fits(0)", x.fits(0), 64);
        for (int i = 0; i < 64; i++) {
            check.due("first of CAST " + i, x.fit(0, i, 0), i / 16);
            check.due("second of CAST " + i, x.fit(0, i, 1), i / 4 % 4);
            check.due("third of CAST " + i, x.fit(0, i, 2), i % 4);
        }
        check.refused(x, "fit(0, 64, 0)", x.fit(0, 64, 0), 1);
    }

    private static void sure() {
        NightInn x = check.told(INN);
        check.plain(x, "sure(0) of all", x.sure(0), -2);
        x.noteThing(0, 0, 2);
        check.plain(x, "sure(0)", x.sure(0), 0);
        check.plain(x, "sure(1)", x.sure(1), -2);
        x.strike();
        x.noteThing(1, 0, 0);
        check.plain(x, "sure(0) of two", x.sure(0), -2);
        x.noteHeard(0, 0, 1, false);
        check.plain(x, "sure(0) by both books", x.sure(0), 2);
        x.noteThing(0, 0, 2);
        check.refused(x, "sure(0) of none", x.sure(0), 6);
        check.refused(x, "sure(2)", x.sure(2), 1);
        check.refused(x, "sure(-1)", x.sure(-1), 1);
    }

    private static void verdicts() {
        NightInn x = check.told(INN);
        check.plain(x, "verdict() without NOTES", x.verdict(), 0);
        x.noteThing(0, 0, 2);
        check.plain(x, "verdict() of one book", x.verdict(), 0);
        x.noteThing(1, 0, 0);
        check.plain(x, "verdict() of books that don't agree", x.verdict(), 3);
        x.noteThing(1, 0, 3);
        check.plain(x, "verdict() of book 1 lying", x.verdict(), 1);
        x.noteThing(0, 0, 3);
        check.plain(x, "verdict() of both lying", x.verdict(), 4);
        NightInn y = check.told(INN);
        y.noteDoor(0, 2, 0);
        y.noteThing(1, 0, 0);
        check.plain(y, "verdict() of book 0 lying", y.verdict(), 2);
    }

    /** CASTS go without a SETTING and without what dreams() set, whatever this NIGHT is. */
    private static void castsAreApart() {
        NightInn x = check.told(INN);
        x.noteThing(0, 0, 2);
        x.dreams(0, 2);
        x.nightfall(2);
        x.minutes(2);
        check.plain(x, "fits(1)", x.fits(1), 3);
        check.due("the NIGHT stays", x.size(7), 2);
        check.due("its SETTING stays", x.size(10), 2);
        check.due("its door stays", x.doorway(0, 0), 2);
        x.called(2, 0, 6);
        x.parts(2);
        check.plain(x, "fits(1) behind another SETTING", x.fits(1), 3);
    }

    private static void noInn() {
        NightInn x = new NightInn();
        check.refused(x, "noteHeard", x.noteHeard(0, 0, 1, true), 1);
        check.refused(x, "noteThing", x.noteThing(0, 0, 0), 1);
        check.refused(x, "noteDoor", x.noteDoor(0, 0, 0), 1);
        check.denied(x, "strike()", x.strike(), 6);
        check.refused(x, "fits(0)", x.fits(0), 1);
        check.refused(x, "fits(4)", x.fits(4), 1);
        check.refused(x, "fit(0, 0, 0)", x.fit(0, 0, 0), 1);
        check.refused(x, "sure(0)", x.sure(0), 1);
        check.refused(x, "verdict()", x.verdict(), 1);
    }
}

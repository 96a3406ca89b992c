import java.util.ArrayList;
import java.util.List;
import java.util.function.Consumer;

/**
 * What a refused call, and a call that only asks, leaves as it was: all of it. Each is looked at by two
 * objects that are used alike, but that one of them has that call between.
 */
final class Stays {
    /** Small, so that all of it can be looked at within the calls for which an object is good. */
    private static final String INN = "inn minutes 5;room a creak 2;room b creak 1;room c creak 1 cold;door a,b falls;door b,c;"
        + "thing k in a full;dream x 0 take k then 1;dream x 1 go b then 2 met 2;dream x 2 tip k then 3;dream x 3 go c then 3;"
        + "dream y 0 go a then 1;dream y 1 shut b then 2;sleeper p bed a dreams x;sleeper q bed b dreams y;listens a;listens c";

    private record Call(int promise, String name, Consumer<NightInn> call) { }

    private final Check check;
    private final List<Call> calls = new ArrayList<>();

    Stays(Check check) {
        this.check = check;
    }

    void all() {
        refusedCalls();
        askingCalls();
        for (Call call : calls) {
            check.promise(call.promise, "what a call that is refused or only asks leaves as it was");
            check.due("all behind " + call.name, seenBehind(call.call), seenBehind(x -> { }));
        }
        fullOfNotesAndMarks();
        overNight();
        faultOfAnInn();
        lastCalls();
    }

    private void add(int promise, String name, Consumer<NightInn> call) {
        calls.add(new Call(promise, name, call));
    }

    /** Part of a night with a setting, a mark of another, dreams that were set, notes in both books, a tape. */
    private NightInn used() {
        NightInn x = check.told(INN);
        x.nightfall(3);
        x.minutes(2);
        x.mark();
        x.dreams(1, 0);
        x.nightfall(1);
        x.minutes(3);
        x.dreams(0, 1);
        x.noteHeard(0, 0, 1, true);
        x.noteThing(1, 0, 2);
        Check.feed(x, "inn minutes 7;room z creak 1;");
        return x;
    }

    private String seenBehind(Consumer<NightInn> call) {
        NightInn x = used();
        call.accept(x);
        StringBuilder seen = new StringBuilder();
        seen.append("fault ").append(x.fault());
        see(x, seen);
        seen.append("; minutes ").append(x.minutes(1));
        see(x, seen);
        seen.append("; marks ").append(x.back(0)).append(x.back(1));
        see(x, seen);
        seen.append("; casts");
        for (int books = 0; books < 4; books++) {
            seen.append(' ').append(x.fits(books));
        }
        seen.append(' ').append(x.sure(0)).append(' ').append(x.verdict()).append(' ').append(x.best()).append(' ').append(x.never());
        seen.append("; set");
        for (int s = 0; s < 2; s++) {
            for (int minute = 1; minute <= 5; minute += 2) {
                seen.append(' ').append(x.called(0, s, minute)).append(x.called(4, s, minute));
            }
        }
        seen.append("; notes ").append(x.strike()).append(x.fits(3)).append(x.strike()).append(x.fits(3)).append(x.strike());
        seen.append("; night ").append(x.nightfall(2));
        see(x, seen);
        Check.feed(x, "dream x 0 wait then 0;sleeper s bed z dreams x");
        seen.append("; tape ").append(x.size(11)).append(' ').append(x.inn(86)).append(x.size(6)).append(x.far(0, 0));
        return seen.toString();
    }

    private static void see(NightInn x, StringBuilder seen) {
        for (int what = 0; what <= 11; what++) {
            seen.append(what == 0 ? "; sizes " : " ").append(x.size(what));
        }
        for (int s = 0; s < 2; s++) {
            for (int what = 0; what < 5; what++) {
                seen.append(what == 0 ? "; sleeper " : " ").append(x.sleeper(s, what));
            }
            for (int what = 0; what < 2; what++) {
                seen.append(what == 0 ? "; door " : " ").append(x.doorway(s, what));
            }
            seen.append("; heard ").append(x.creaks(s));
            for (int minute = 1; minute <= 5; minute++) {
                seen.append(' ').append(x.heard(s, minute));
            }
        }
        for (int what = 0; what < 3; what++) {
            seen.append(what == 0 ? "; thing " : " ").append(x.thing(0, what));
        }
        seen.append("; led ").append(Check.led(x, 0)).append(Check.led(x, 1));
    }

    private void refusedCalls() {
        for (int bad : new int[] {-1, 900, Integer.MIN_VALUE, Integer.MAX_VALUE}) {
            add(3, "inn(" + bad + ")", x -> x.inn(bad));
            add(6, "far(" + bad + ", 0)", x -> x.far(bad, 0));
            add(7, "room(" + bad + ", 0)", x -> x.room(bad, 0));
            add(8, "door(0, " + bad + ")", x -> x.door(0, bad));
            add(9, "dream(" + bad + ", 0, 0)", x -> x.dream(bad, 0, 0));
            add(10, "nightfall(" + bad + ")", x -> x.nightfall(bad));
            add(11, "dreams(" + bad + ", 0)", x -> x.dreams(bad, 0));
            add(11, "dreams(0, " + bad + ")", x -> x.dreams(0, bad));
            add(12, "minutes(" + bad + ")", x -> x.minutes(bad));
            add(14, "sleeper(" + bad + ", 0)", x -> x.sleeper(bad, 0));
            add(15, "thing(0, " + bad + ")", x -> x.thing(0, bad));
            add(16, "doorway(" + bad + ", 0)", x -> x.doorway(bad, 0));
            add(17, "heard(0, " + bad + ")", x -> x.heard(0, bad));
            add(18, "creaks(" + bad + ")", x -> x.creaks(bad));
            add(19, "called(" + bad + ", 0, 1)", x -> x.called(bad, 0, 1));
            add(19, "called(0, 0, " + bad + ")", x -> x.called(0, 0, bad));
            add(21, "back(" + bad + ")", x -> x.back(bad));
            add(22, "noteHeard(" + bad + ", 0, 1, true)", x -> x.noteHeard(bad, 0, 1, true));
            add(22, "noteHeard(0, 0, " + bad + ", true)", x -> x.noteHeard(0, 0, bad, true));
            add(23, "noteThing(0, 0, " + bad + ")", x -> x.noteThing(0, 0, bad));
            add(24, "noteDoor(0, " + bad + ", 0)", x -> x.noteDoor(0, bad, 0));
            add(24, "noteDoor(0, 0, " + bad + ")", x -> x.noteDoor(0, 0, bad));
            add(26, "fits(" + bad + ")", x -> x.fits(bad));
            add(27, "fit(0, " + bad + ", 0)", x -> x.fit(0, bad, 0));
            add(28, "sure(" + bad + ")", x -> x.sure(bad));
            add(30, "parts(" + bad + ")", x -> x.parts(bad));
            add(32, "told(0, " + bad + ")", x -> x.told(0, bad));
            add(33, "alike(0, " + bad + ")", x -> x.alike(0, bad));
            add(35, "safe(" + bad + ")", x -> x.safe(bad));
            add(36, "safely(" + bad + ")", x -> x.safely(bad));
            add(37, "walks(" + bad + ")", x -> x.walks(bad));
            add(38, "led(" + bad + ")", x -> Check.led(x, bad));
            add(39, "size(" + bad + ")", x -> x.size(bad));
        }
    }

    private void askingCalls() {
        add(4, "fault()", NightInn::fault);
        add(5, "where()", NightInn::where);
        add(6, "far(0, 2)", x -> x.far(0, 2));
        add(7, "room(2, 1)", x -> x.room(2, 1));
        add(8, "door(0, 2)", x -> x.door(0, 2));
        add(9, "dream(0, 1, 3)", x -> x.dream(0, 1, 3));
        for (int setting = 0; setting <= 4; setting++) {
            int with = setting;
            add(19, "called(" + setting + ", 0, 5)", x -> x.called(with, 0, 5));
            add(19, "called(" + setting + ", 1, 0)", x -> x.called(with, 1, 0));
            add(30, "parts(" + setting + ")", x -> x.parts(with));
            add(32, "told(" + setting + ", 4)", x -> x.told(with, 4));
        }
        for (int books = 0; books < 4; books++) {
            int by = books;
            add(26, "fits(" + books + ")", x -> x.fits(by));
            add(27, "fit(" + books + ", 0, 1)", x -> x.fit(by, 0, 1));
        }
        add(28, "sure(1)", x -> x.sure(1));
        add(29, "verdict()", NightInn::verdict);
        add(31, "best()", NightInn::best);
        add(33, "alike(0, 1)", x -> x.alike(0, 1));
        add(34, "never()", NightInn::never);
        for (int room = 0; room < 3; room++) {
            int asked = room;
            add(35, "safe(" + room + ")", x -> x.safe(asked));
            add(36, "safely(" + room + ")", x -> x.safely(asked));
            add(37, "walks(" + room + ")", x -> x.walks(asked));
        }
        add(40, "trouble()", NightInn::trouble);
    }

    private void fullOfNotesAndMarks() {
        check.promise(20, "what is refused by 3 leaves the MARKS as they were");
        NightInn x = check.told(INN);
        for (int mark = 0; mark < 3; mark++) {
            x.mark();
            x.minutes(1);
        }
        check.refuses(x, 3, "mark()", NightInn::mark);
        for (int mark = 2; mark >= 0; mark--) {
            int asked = mark;
            check.agrees(x, "back(" + mark + ")", y -> y.back(asked));
            check.due("MINUTES by MARK " + mark, x.size(7), mark);
        }
    }

    private void overNight() {
        check.promise(12, "what is refused by 6 leaves the NIGHT as it was");
        NightInn x = check.told(INN);
        x.morning();
        StringBuilder before = new StringBuilder();
        see(x, before);
        check.refuses(x, 6, "minutes(40)", y -> y.minutes(40));
        check.answers(x, 0, "morning()", NightInn::morning);
        StringBuilder behind = new StringBuilder();
        see(x, behind);
        check.due("the NIGHT", behind.toString(), before.toString());
    }

    private void faultOfAnInn() {
        check.promise(3, "4 (the INN stays): and with it the NIGHT, DREAMS as set, NOTES and MARKS");
        String[] faulty = {"room", "inn minutes 3;room z creak 9 cold;dream x 0 wait then 0;sleeper q bed z dreams x;.",
            INN + ";listens b;listens b", "inn minutes 1;room a creak 1"};
        String due = tapeless(used());
        for (String text : faulty) {
            NightInn x = used();
            // The tape of used() is not told: it goes with a fault of its own.
            x.inn(0);
            check.due("inn of '" + text + "'", Check.tell(x, text), -1);
            check.due("trouble()", x.trouble(), 4);
            check.due("all but THE TAPE behind '" + text + "'", tapeless(x), due);
        }
    }

    private static String tapeless(NightInn x) {
        x.inn(0);
        StringBuilder seen = new StringBuilder();
        see(x, seen);
        seen.append(x.fits(0)).append(x.fits(1)).append(x.fits(2)).append(x.fits(3)).append(x.best()).append(x.far(0, 2));
        seen.append(x.called(0, 0, 5)).append(x.called(0, 1, 5)).append(x.back(0));
        see(x, seen);
        return seen.append(x.nightfall(0)).append(x.sleeper(0, 4)).append(x.sleeper(1, 4)).toString();
    }

    private void lastCalls() {
        check.promise(1, "An object is used for at most 512 calls after it has been made");
        NightInn x = new NightInn();
        int calls = 0;
        for (int i = 0; i < INN.length(); i += 20) {
            calls++;
        }
        Check.tell(x, INN);
        calls++;
        while (calls < 509) {
            check.due("call " + calls, x.nightfall(calls % 5), true);
            check.due("call " + (calls + 1), x.morning(), 5);
            calls += 2;
        }
        while (calls < 511) {
            check.due("call " + calls, x.nightfall(0), true);
            calls++;
        }
        check.due("the last call", x.called(0, 0, 4), 2);
    }
}

import java.util.ArrayDeque;
import java.util.ArrayList;
import java.util.Arrays;
import java.util.Collections;
import java.util.HashMap;
import java.util.HashSet;
import java.util.LinkedHashMap;
import java.util.List;
import java.util.Map;
import java.util.NoSuchElementException;
import java.util.Set;
import java.util.TreeMap;
import java.util.regex.Matcher;
import java.util.regex.Pattern;

/**
 * NightInn once more, written from the document by itself and as plainly as can be: all goes by
 * names, nothing is kept that can be found again, and nothing is shared with the class under test.
 */
final class Model {
    private static final class Fault extends RuntimeException {
        private static final long serialVersionUID = 1L;
        final int what;
        final int place;

        Fault(int what, int place) {
            this.what = what;
            this.place = place;
        }
    }

    private record Token(String text, int place) {
        boolean isWord() {
            return text.matches("[a-z]{1,8}");
        }

        boolean isWhole() {
            return text.matches("[0-9]{1,3}");
        }
    }

    private record Room(int creak, boolean cold) { }

    private record Door(String one, String other, int how, boolean falls) {
        boolean joins(String a, String b) {
            return one.equals(a) && other.equals(b) || one.equals(b) && other.equals(a);
        }
    }

    private record Thing(String room, boolean full) { }

    private record State(String act, String target, int then, Integer met) { }

    private record Sleeper(String bed, String dream) { }

    private record Note(int book, String sort, int one, int other) { }

    /** An inn as told. */
    private static final class Told {
        int minutes = 0;
        final Map<String, Room> rooms = new LinkedHashMap<>();
        final List<Door> doors = new ArrayList<>();
        final Map<String, Thing> things = new LinkedHashMap<>();
        final Map<String, Map<Integer, State>> dreams = new LinkedHashMap<>();
        final Map<String, Sleeper> sleepers = new LinkedHashMap<>();
        final List<String> listens = new ArrayList<>();

        String sortOf(String name) {
            return rooms.containsKey(name) ? "room" : things.containsKey(name) ? "thing"
                : dreams.containsKey(name) ? "dream" : sleepers.containsKey(name) ? "sleeper" : "none";
        }

        int doorOf(String a, String b) {
            for (int d = 0; d < doors.size(); d++) {
                if (doors.get(d).joins(a, b)) {
                    return d;
                }
            }
            return -2;
        }

        /** The fewest doors on a way, over doors that aren't among the locked. */
        int way(String from, String to, Set<Integer> locked) {
            Map<String, Integer> seen = new HashMap<>();
            ArrayDeque<String> next = new ArrayDeque<>();
            seen.put(from, 0);
            next.add(from);
            while (!next.isEmpty()) {
                String here = next.remove();
                for (String room : rooms.keySet()) {
                    int d = doorOf(here, room);
                    if (d >= 0 && !locked.contains(d) && !seen.containsKey(room)) {
                        seen.put(room, seen.get(here) + 1);
                        next.add(room);
                    }
                }
            }
            return seen.getOrDefault(to, 99);
        }
    }

    /** A parser that stops at the first fault. */
    private static final class Parser {
        private static final Set<String> KEPT = Set.of("inn", "room", "door", "thing", "dream", "sleeper", "listens",
            "cold", "shut", "locked", "falls", "full", "then", "met", "go", "take", "put", "tip", "wait");
        private final List<Token> tokens = new ArrayList<>();
        private int at;
        private final Told told = new Told();

        Parser(String text) {
            Matcher m = Pattern.compile("[a-z]+|[0-9]+|[^ ]", Pattern.DOTALL).matcher(text);
            while (m.find()) {
                tokens.add(new Token(m.group(), m.start()));
            }
            tokens.add(new Token("", text.length()));
        }

        Told parse() {
            line();
            while (peek().text.equals(";")) {
                at++;
                line();
            }
            if (!peek().text.isEmpty()) {
                throw fault(1);
            }
            if (told.minutes == 0 || told.rooms.isEmpty() || told.sleepers.isEmpty()) {
                throw fault(6);
            }
            return told;
        }

        private Token peek() {
            return tokens.get(at);
        }

        private Fault fault(int what) {
            return new Fault(what, peek().place);
        }

        private void line() {
            switch (peek().text) {
                case "inn" -> {
                    limit(told.minutes > 0, 3);
                    word("minutes");
                    told.minutes = whole(1, 40);
                }
                case "room" -> {
                    limit(told.rooms.size() == 8, 5);
                    String name = fresh();
                    word("creak");
                    int creak = whole(0, 9);
                    told.rooms.put(name, new Room(creak, maybe("cold")));
                }
                case "door" -> door();
                case "thing" -> {
                    limit(told.things.size() == 4, 5);
                    String name = fresh();
                    word("in");
                    String room = known("room", true, name);
                    told.things.put(name, new Thing(room, maybe("full")));
                }
                case "dream" -> dream();
                case "sleeper" -> {
                    limit(told.sleepers.size() == 3, 5);
                    String name = fresh();
                    word("bed");
                    String bed = known("room", true, name);
                    word("dreams");
                    String dream = known("dream", true, name);
                    told.sleepers.put(name, new Sleeper(bed, dream));
                }
                case "listens" -> {
                    limit(told.listens.size() == 3, 5);
                    String room = known("room", false, "");
                    if (told.listens.contains(room)) {
                        throw fault(3);
                    }
                    at++;
                    told.listens.add(room);
                }
                default -> throw fault(1);
            }
        }

        private void door() {
            limit(told.doors.size() == 10, 5);
            String one = known("room", true, "");
            if (!peek().text.equals(",")) {
                throw fault(1);
            }
            at++;
            String other = known("room", false, "");
            if (other.equals(one) || told.doorOf(one, other) >= 0) {
                throw fault(3);
            }
            at++;
            int how = maybe("shut") ? 1 : maybe("locked") ? 2 : 0;
            told.doors.add(new Door(one, other, how, maybe("falls")));
        }

        private void dream() {
            at++;
            String name = name();
            if (!Set.of("none", "dream").contains(told.sortOf(name))) {
                throw fault(3);
            }
            if (!told.dreams.containsKey(name) && told.dreams.size() == 4) {
                throw fault(5);
            }
            told.dreams.computeIfAbsent(name, n -> new TreeMap<>());
            at++;
            int state = whole(0, 3);
            if (told.dreams.get(name).containsKey(state)) {
                at--;
                throw fault(3);
            }
            String act = peek().text;
            String target = null;
            switch (act) {
                case "go", "shut" -> {
                    at++;
                    target = known("room", true, "");
                }
                case "take", "tip" -> {
                    at++;
                    target = known("thing", true, "");
                }
                case "put", "wait" -> at++;
                default -> throw fault(1);
            }
            word("then");
            int then = whole(0, 3);
            Integer met = maybe("met") ? (Integer) whole(0, 3) : null;
            told.dreams.get(name).put(state, new State(act, target, then, met));
        }

        /** Goes behind a line's first word. */
        private void limit(boolean tooMany, int what) {
            if (tooMany) {
                throw fault(what);
            }
            at++;
        }

        private void word(String due) {
            if (!peek().text.equals(due)) {
                throw fault(1);
            }
            at++;
        }

        private boolean maybe(String word) {
            if (peek().text.equals(word)) {
                at++;
                return true;
            }
            return false;
        }

        private int whole(int least, int most) {
            if (!peek().isWhole()) {
                throw fault(1);
            }
            int value = Integer.parseInt(peek().text);
            if (value < least || value > most) {
                throw fault(4);
            }
            at++;
            return value;
        }

        private String name() {
            if (!peek().isWord() || KEPT.contains(peek().text)) {
                throw fault(1);
            }
            return peek().text;
        }

        private String fresh() {
            String name = name();
            if (!told.sortOf(name).equals("none")) {
                throw fault(3);
            }
            at++;
            return name;
        }

        private String known(String sort, boolean goOn, String underWay) {
            String name = name();
            if (!told.sortOf(name).equals(sort) || name.equals(underWay)) {
                throw fault(2);
            }
            if (goOn) {
                at++;
            }
            return name;
        }
    }

    /** One night. */
    private static final class Night {
        final Told told;
        final int setting;
        final List<String> dreams;
        int been = 0;
        final List<Integer> how = new ArrayList<>();
        final List<Integer> through = new ArrayList<>();
        final Map<String, String> roomOf = new LinkedHashMap<>();
        final Map<String, Integer> stateOf = new LinkedHashMap<>();
        final Map<String, String> hands = new HashMap<>();
        final Set<String> awake = new HashSet<>();
        final Map<String, String> lying = new HashMap<>();
        final Set<String> full = new HashSet<>();
        final List<Set<Integer>> heard = new ArrayList<>();

        Night(Told told, int setting, List<String> dreams) {
            this.told = told;
            this.setting = setting;
            this.dreams = List.copyOf(dreams);
            for (int d = 0; d < told.doors.size(); d++) {
                how.add(setting == 1 + 2 * d ? (Integer) 1 : setting == 2 + 2 * d ? (Integer) 2 : (Integer) told.doors.get(d).how);
                through.add(0);
            }
            told.sleepers.forEach((name, s) -> {
                roomOf.put(name, s.bed);
                stateOf.put(name, 0);
            });
            told.things.forEach((name, t) -> {
                lying.put(name, t.room);
                if (t.full) {
                    full.add(name);
                }
            });
            told.listens.forEach(l -> heard.add(new HashSet<>()));
        }

        Night copy() {
            Night n = new Night(told, setting, dreams);
            n.been = been;
            Collections.copy(n.how, how);
            Collections.copy(n.through, through);
            n.roomOf.putAll(roomOf);
            n.stateOf.putAll(stateOf);
            n.hands.putAll(hands);
            n.awake.addAll(awake);
            n.lying.clear();
            n.lying.putAll(lying);
            n.full.retainAll(full);
            for (int i = 0; i < heard.size(); i++) {
                n.heard.get(i).addAll(heard.get(i));
            }
            return n;
        }

        /** Where a thing lies, or who has it is. */
        String whereIs(String thing) {
            String holder = holder(thing);
            return holder == null ? lying.get(thing) : roomOf.get(holder);
        }

        String holder(String thing) {
            for (Map.Entry<String, String> e : hands.entrySet()) {
                if (e.getValue().equals(thing)) {
                    return e.getKey();
                }
            }
            return null;
        }

        String dreamOf(String sleeper) {
            return dreams.get(new ArrayList<>(told.sleepers.keySet()).indexOf(sleeper));
        }

        State stateLine(String sleeper) {
            return told.dreams.get(dreamOf(sleeper)).get(stateOf.get(sleeper));
        }

        void minute() {
            been++;
            for (String s : told.sleepers.keySet()) {
                State line = stateLine(s);
                if (!awake.contains(s) && line != null && succeeds(s, line)) {
                    stateOf.put(s, line.then);
                }
            }
        }

        private boolean succeeds(String s, State line) {
            String here = roomOf.get(s);
            String target = line.target;
            switch (line.act) {
                case "go":
                    if (here.equals(target)) {
                        return true;
                    }
                    go(s, here, target);
                    return false;
                case "take":
                    if (here.equals(lying.get(target)) && holder(target) == null && !hands.containsKey(s)) {
                        lying.remove(target);
                        hands.put(s, target);
                        return true;
                    }
                    return false;
                case "put":
                    if (hands.containsKey(s)) {
                        lying.put(hands.remove(s), here);
                        return true;
                    }
                    return false;
                case "tip":
                    return here.equals(whereIs(target)) && full.remove(target);
                case "wait":
                    return true;
                default:
                    int d = told.doorOf(here, target);
                    if (d >= 0 && how.get(d) == 0) {
                        how.set(d, 1);
                        return true;
                    }
                    return false;
            }
        }

        private void go(String s, String here, String target) {
            Set<Integer> locked = new HashSet<>();
            for (int d = 0; d < how.size(); d++) {
                if (how.get(d) == 2) {
                    locked.add(d);
                }
            }
            String best = null;
            int least = 99;
            for (String room : told.rooms.keySet()) {
                int d = told.doorOf(here, room);
                if (d >= 0 && !locked.contains(d) && told.way(room, target, locked) < least) {
                    least = told.way(room, target, locked);
                    best = room;
                }
            }
            if (best == null) {
                return;
            }
            int d = told.doorOf(here, best);
            how.set(d, told.doors.get(d).falls ? 1 : 0);
            through.set(d, through.get(d) + 1);
            roomOf.put(s, best);
            for (int i = 0; i < told.listens.size(); i++) {
                if (told.rooms.get(best).creak > told.way(best, told.listens.get(i), Set.of())) {
                    heard.get(i).add(been);
                }
            }
            if (told.rooms.get(best).cold) {
                awake.add(s);
                return;
            }
            List<String> others = new ArrayList<>();
            for (String o : told.sleepers.keySet()) {
                if (!o.equals(s) && roomOf.get(o).equals(best) && !awake.contains(o)) {
                    others.add(o);
                }
            }
            if (!others.isEmpty()) {
                others.add(s);
                for (String o : others) {
                    State line = stateLine(o);
                    if (line != null && line.met != null) {
                        stateOf.put(o, line.met);
                    }
                }
            }
        }

        int pass(int n) {
            int count = 0;
            while (count < n && been < told.minutes) {
                minute();
                count++;
            }
            return count;
        }

        String morning() {
            StringBuilder text = new StringBuilder();
            for (Set<Integer> h : heard) {
                text.append(new java.util.TreeSet<>(h));
            }
            for (String t : told.things.keySet()) {
                text.append(whereIs(t)).append(full.contains(t)).append('/');
            }
            text.append(how);
            for (String s : told.sleepers.keySet()) {
                text.append(roomOf.get(s)).append(awake.contains(s)).append('/');
            }
            return text.toString();
        }
    }

    private final StringBuilder tape = new StringBuilder();
    private Told inn;
    private Night night;
    private List<String> chosen;
    private List<Night> marks = new ArrayList<>();
    private List<Note> notes = new ArrayList<>();
    private int trouble;
    private int fault;
    private int place;

    private int no(int why) {
        trouble = why;
        return -1;
    }

    private int yes(int answer) {
        trouble = 0;
        return answer;
    }

    int feed(int a, int b, int c, int d, int e) {
        if (tape.length() > 880) {
            return -1;
        }
        for (int number : new int[] {a, b, c, d, e}) {
            for (int i = 3; i >= 0; i--) {
                tape.append((char) (number >> 8 * i & 255));
            }
        }
        return tape.length();
    }

    int inn(int n) {
        if (n < 0 || n > tape.length()) {
            return no(2);
        }
        String text = tape.substring(0, n);
        tape.setLength(0);
        try {
            inn = new Parser(text).parse();
        } catch (Fault f) {
            fault = f.what;
            place = f.place;
            return no(4);
        }
        fault = 0;
        chosen = new ArrayList<>();
        inn.sleepers.values().forEach(s -> chosen.add(s.dream));
        night = new Night(inn, 0, chosen);
        marks = new ArrayList<>();
        notes = new ArrayList<>();
        return yes(inn.sleepers.size());
    }

    int fault() {
        return fault;
    }

    int where() {
        return trouble == 4 ? place : -1;
    }

    private static <T> T at(java.util.Collection<T> all, int i) {
        return new ArrayList<>(all).get(i);
    }

    private static <T> int indexOf(java.util.Collection<T> all, T one) {
        return new ArrayList<>(all).indexOf(one);
    }

    private boolean out(int number, int what) {
        return number < 0 || number >= size(what);
    }

    private boolean outOfSettings(int setting) {
        return inn == null || setting < 0 || setting > 2 * inn.doors.size();
    }

    private String room(int r) {
        return at(inn.rooms.keySet(), r);
    }

    int far(int room, int other) {
        return out(room, 0) || out(other, 0) ? no(1) : yes(inn.way(room(room), room(other), Set.of()));
    }

    int room(int r, int what) {
        if (out(r, 0) || what < 0 || what > 1) {
            return no(1);
        }
        Room room = inn.rooms.get(room(r));
        return yes(what == 0 ? room.creak : room.cold ? 1 : 0);
    }

    int door(int room, int other) {
        return out(room, 0) || out(other, 0) || room == other ? no(1) : yes(inn.doorOf(room(room), room(other)));
    }

    int dream(int d, int state, int what) {
        if (out(d, 3) || state < 0 || state > 3 || what < 0 || what > 3) {
            return no(1);
        }
        State line = at(inn.dreams.values(), d).get(state);
        if (line == null) {
            return no(6);
        }
        return yes(switch (what) {
            case 0 -> List.of("go", "take", "put", "tip", "wait", "shut").indexOf(line.act);
            case 1 -> line.target == null ? -2
                : Math.max(indexOf(inn.rooms.keySet(), line.target), indexOf(inn.things.keySet(), line.target));
            case 2 -> line.then;
            default -> line.met == null ? -2 : line.met;
        });
    }

    boolean nightfall(int setting) {
        if (outOfSettings(setting)) {
            return no(1) == 0;
        }
        night = new Night(inn, setting, chosen);
        return yes(0) == 0;
    }

    boolean dreams(int sleeper, int dream) {
        if (out(sleeper, 4) || out(dream, 3)) {
            return no(1) == 0;
        }
        chosen.set(sleeper, at(inn.dreams.keySet(), dream));
        return yes(0) == 0;
    }

    int minutes(int n) {
        if (inn == null) {
            return no(1);
        }
        if (n < 1 || n > 40) {
            return no(2);
        }
        return night.been == inn.minutes ? no(6) : yes(night.pass(n));
    }

    int morning() {
        return inn == null ? no(1) : yes(night.pass(40));
    }

    int sleeper(int s, int what) {
        if (out(s, 4) || what < 0 || what > 4) {
            return no(1);
        }
        String name = at(inn.sleepers.keySet(), s);
        return yes(switch (what) {
            case 0 -> indexOf(inn.rooms.keySet(), night.roomOf.get(name));
            case 1 -> night.stateOf.get(name);
            case 2 -> night.hands.containsKey(name) ? indexOf(inn.things.keySet(), night.hands.get(name)) : -2;
            case 3 -> night.awake.contains(name) ? 1 : 0;
            default -> indexOf(inn.dreams.keySet(), night.dreams.get(s));
        });
    }

    int thing(int t, int what) {
        if (out(t, 2) || what < 0 || what > 2) {
            return no(1);
        }
        String name = at(inn.things.keySet(), t);
        return yes(switch (what) {
            case 0 -> indexOf(inn.rooms.keySet(), night.whereIs(name));
            case 1 -> night.full.contains(name) ? 1 : 0;
            default -> night.holder(name) == null ? -2 : indexOf(inn.sleepers.keySet(), night.holder(name));
        });
    }

    int doorway(int d, int what) {
        return out(d, 1) || what < 0 || what > 1 ? no(1) : yes(what == 0 ? night.how.get(d) : night.through.get(d));
    }

    int heard(int who, int minute) {
        return out(who, 5) || minute < 1 || minute > night.been ? no(1)
            : yes(night.heard.get(who).contains(minute) ? 1 : 0);
    }

    int creaks(int who) {
        return out(who, 5) ? no(1) : yes(night.heard.get(who).size());
    }

    int called(int setting, int sleeper, int minute) {
        if (outOfSettings(setting) || out(sleeper, 4)) {
            return no(1);
        }
        if (minute < 0 || minute > inn.minutes) {
            return no(2);
        }
        Night n = new Night(inn, setting, chosen);
        n.pass(minute);
        return yes(indexOf(inn.rooms.keySet(), at(n.roomOf.values(), sleeper)));
    }

    int mark() {
        if (inn == null) {
            return no(1);
        }
        if (marks.size() == 3) {
            return no(3);
        }
        marks.add(night.copy());
        return yes(marks.size() - 1);
    }

    boolean back(int mark) {
        if (out(mark, 9)) {
            return no(1) == 0;
        }
        night = marks.get(mark).copy();
        return yes(0) == 0;
    }

    private int note(Note note) {
        if (notes.size() == 20) {
            return no(3);
        }
        notes.add(note);
        return yes(notes.size());
    }

    int noteHeard(int book, int who, int minute, boolean is) {
        if (book < 0 || book > 1 || out(who, 5)) {
            return no(1);
        }
        return minute < 1 || minute > inn.minutes ? no(2) : note(new Note(book, is ? "heard" : "quiet", who, minute));
    }

    int noteThing(int book, int thing, int room) {
        return book < 0 || book > 1 || out(thing, 2) || out(room, 0) ? no(1) : note(new Note(book, "thing", thing, room));
    }

    int noteDoor(int book, int door, int how) {
        if (book < 0 || book > 1 || out(door, 1)) {
            return no(1);
        }
        return how < 0 || how > 2 ? no(2) : note(new Note(book, "door", door, how));
    }

    boolean strike() {
        if (notes.isEmpty()) {
            return no(6) == 0;
        }
        notes.remove(notes.size() - 1);
        return yes(0) == 0;
    }

    private void casts(List<String> before, List<List<String>> all) {
        if (before.size() == inn.sleepers.size()) {
            all.add(before);
            return;
        }
        for (String dream : inn.dreams.keySet()) {
            List<String> more = new ArrayList<>(before);
            more.add(dream);
            casts(more, all);
        }
    }

    private Night wholeNight(List<String> cast, int setting) {
        Night n = new Night(inn, setting, cast);
        n.pass(40);
        return n;
    }

    private boolean isSo(Note note, Night n) {
        return switch (note.sort) {
            case "heard" -> n.heard.get(note.one).contains(note.other);
            case "quiet" -> !n.heard.get(note.one).contains(note.other);
            case "thing" -> n.whereIs(at(inn.things.keySet(), note.one)).equals(room(note.other));
            default -> n.how.get(note.one) == note.other;
        };
    }

    private List<List<String>> fitting(int books) {
        List<List<String>> all = new ArrayList<>();
        casts(List.of(), all);
        List<List<String>> fit = new ArrayList<>();
        for (List<String> cast : all) {
            Night n = wholeNight(cast, 0);
            if (notes.stream().allMatch(note -> (books >> note.book & 1) == 0 || isSo(note, n))) {
                fit.add(cast);
            }
        }
        return fit;
    }

    int fits(int books) {
        if (inn == null) {
            return no(1);
        }
        return books < 0 || books > 3 ? no(2) : yes(fitting(books).size());
    }

    int fit(int books, int i, int sleeper) {
        if (out(sleeper, 4)) {
            return no(1);
        }
        if (books < 0 || books > 3) {
            return no(2);
        }
        List<List<String>> fit = fitting(books);
        return i < 0 || i >= fit.size() ? no(1) : yes(indexOf(inn.dreams.keySet(), fit.get(i).get(sleeper)));
    }

    int sure(int sleeper) {
        if (out(sleeper, 4)) {
            return no(1);
        }
        Set<String> dreams = new HashSet<>();
        fitting(3).forEach(cast -> dreams.add(cast.get(sleeper)));
        if (dreams.isEmpty()) {
            return no(6);
        }
        return yes(dreams.size() > 1 ? -2 : indexOf(inn.dreams.keySet(), dreams.iterator().next()));
    }

    int verdict() {
        if (inn == null) {
            return no(1);
        }
        boolean both = !fitting(3).isEmpty();
        boolean first = !fitting(1).isEmpty();
        boolean second = !fitting(2).isEmpty();
        return yes(both ? 0 : first && second ? 3 : first ? 1 : second ? 2 : 4);
    }

    private int most(List<List<String>> fit, int... settings) {
        Map<String, Integer> counts = new HashMap<>();
        for (List<String> cast : fit) {
            StringBuilder mornings = new StringBuilder();
            for (int setting : settings) {
                mornings.append(wholeNight(cast, setting).morning()).append('|');
            }
            counts.merge(mornings.toString(), 1, Integer::sum);
        }
        return counts.isEmpty() ? 0 : Collections.max(counts.values());
    }

    int parts(int setting) {
        if (outOfSettings(setting)) {
            return no(1);
        }
        int most = most(fitting(3), setting);
        return most == 0 ? no(6) : yes(most);
    }

    int best() {
        if (inn == null) {
            return no(1);
        }
        List<List<String>> fit = fitting(3);
        if (fit.isEmpty()) {
            return no(6);
        }
        List<Integer> parts = new ArrayList<>();
        for (int setting = 0; setting <= 2 * inn.doors.size(); setting++) {
            parts.add(most(fit, setting));
        }
        return yes(parts.indexOf(Collections.min(parts)));
    }

    int told(int setting, int other) {
        if (outOfSettings(setting) || outOfSettings(other)) {
            return no(1);
        }
        int most = most(fitting(3), setting, other);
        return most == 0 ? no(6) : yes(most);
    }

    private String allMornings(List<String> cast) {
        StringBuilder mornings = new StringBuilder();
        for (int setting = 0; setting <= 2 * inn.doors.size(); setting++) {
            mornings.append(wholeNight(cast, setting).morning()).append('|');
        }
        return mornings.toString();
    }

    int alike(int one, int other) {
        if (inn == null) {
            return no(1);
        }
        List<List<String>> fit = fitting(3);
        if (one < 0 || one >= fit.size() || other < 0 || other >= fit.size() || one == other) {
            return no(1);
        }
        return yes(allMornings(fit.get(one)).equals(allMornings(fit.get(other))) ? 1 : 0);
    }

    int never() {
        if (inn == null) {
            return no(1);
        }
        Map<String, Integer> counts = new HashMap<>();
        fitting(3).forEach(cast -> counts.merge(allMornings(cast), 1, Integer::sum));
        return yes(counts.values().stream().mapToInt(n -> n * (n - 1) / 2).sum());
    }

    private boolean isBedIn(String room) {
        return inn.sleepers.values().stream().anyMatch(s -> s.bed.equals(room));
    }

    private boolean keeps(String room, int bits) {
        Set<Integer> locked = new HashSet<>();
        for (int d = 0; d < inn.doors.size(); d++) {
            if ((bits >> d & 1) == 1 || inn.doors.get(d).how == 2) {
                locked.add(d);
            }
        }
        return inn.sleepers.values().stream().allMatch(s -> inn.way(s.bed, room, locked) == 99);
    }

    /** All sets of doors of a size, the least bits first. */
    int safely(int room) {
        if (out(room, 0)) {
            return no(1);
        }
        if (isBedIn(room(room))) {
            return yes(-2);
        }
        for (int size = 0; size <= inn.doors.size(); size++) {
            for (int bits = 0; bits < 1 << inn.doors.size(); bits++) {
                if (Integer.bitCount(bits) == size && keeps(room(room), bits)) {
                    return yes(bits);
                }
            }
        }
        throw new IllegalStateException("all doors locked keep every room");
    }

    int safe(int room) {
        int bits = safely(room);
        return bits < 0 ? bits : Integer.bitCount(bits);
    }

    /** A flow: each door is used in one direction, or in both, which is the same as not at all. */
    int walks(int room) {
        if (out(room, 0)) {
            return no(1);
        }
        String goal = room(room);
        if (isBedIn(goal)) {
            return yes(-2);
        }
        int[] flow = new int[inn.doors.size()];
        int walks = 0;
        while (augment(goal, flow)) {
            walks++;
        }
        return yes(walks);
    }

    private boolean augment(String goal, int[] flow) {
        Map<String, Integer> doorTo = new HashMap<>();
        Map<String, String> from = new HashMap<>();
        ArrayDeque<String> next = new ArrayDeque<>();
        for (Sleeper s : inn.sleepers.values()) {
            if (from.putIfAbsent(s.bed, "") == null) {
                next.add(s.bed);
            }
        }
        while (!next.isEmpty()) {
            String here = next.remove();
            for (int d = 0; d < flow.length; d++) {
                Door door = inn.doors.get(d);
                boolean ahead = door.one.equals(here);
                String there = ahead ? door.other : door.one;
                if (door.how == 2 || !ahead && !door.other.equals(here) || flow[d] == (ahead ? 1 : -1)
                    || from.containsKey(there)) {
                    continue;
                }
                from.put(there, here);
                doorTo.put(there, d);
                next.add(there);
            }
        }
        if (!from.containsKey(goal)) {
            return false;
        }
        for (String there = goal; doorTo.containsKey(there); there = from.get(there)) {
            int d = doorTo.get(there);
            flow[d] += inn.doors.get(d).other.equals(there) ? 1 : -1;
        }
        return true;
    }

    int led(int i) {
        List<Integer> away = new ArrayList<>();
        for (int s = 0; s < size(4); s++) {
            String name = at(inn.sleepers.keySet(), s);
            if (!night.roomOf.get(name).equals(inn.sleepers.get(name).bed)) {
                away.add(s);
            }
        }
        if (i < 0 || i >= away.size()) {
            throw new NoSuchElementException();
        }
        return away.get(i);
    }

    int size(int what) {
        if (what == 11) {
            return tape.length();
        }
        if (what < 0 || what > 11) {
            return -1;
        }
        if (inn == null) {
            return 0;
        }
        return Arrays.asList(inn.rooms.size(), inn.doors.size(), inn.things.size(), inn.dreams.size(), inn.sleepers.size(),
            inn.listens.size(), inn.minutes, night.been, notes.size(), marks.size(), night.setting).get(what);
    }

    int trouble() {
        return trouble;
    }
}

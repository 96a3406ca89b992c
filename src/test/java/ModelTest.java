import java.nio.charset.StandardCharsets;
import java.util.ArrayList;
import java.util.Collections;
import java.util.List;
import java.util.NoSuchElementException;
import java.util.Random;

/**
 * Runs of calls chosen by a seed, asked of NightInn and of the Model at once. An argument gives
 * another number of runs: java ModelTest 5000.
 */
public final class ModelTest {
    private static final int RUNS = 300;
    private static final int CALLS = 160;

    private final Random random;
    private final int seed;
    private final NightInn x = new NightInn();
    private final Model model = new Model();
    private final List<String> history = new ArrayList<>();
    private int wrong;

    private ModelTest(int seed) {
        this.seed = seed;
        this.random = new Random(seed);
    }

    public static void main(String[] args) {
        int runs = args.length > 0 ? Integer.parseInt(args[0]) : RUNS;
        int wrong = 0;
        int inns = 0;
        int[] faults = new int[7];
        for (int seed = 1; seed <= runs && wrong < 10; seed++) {
            ModelTest test = new ModelTest(seed);
            test.run(faults);
            wrong += test.wrong;
            inns += test.x.size(0) > 0 ? 1 : 0;
        }
        System.out.println(runs + " runs, " + inns + " of them with an inn, faults 0 to 6: "
            + java.util.Arrays.toString(faults) + "; " + wrong + " of them not as due");
        if (wrong != 0) {
            System.exit(1);
        }
    }

    private void run(int[] faults) {
        if (random.nextInt(10) > 0) {
            tell(faults);
        }
        for (int i = 0; i < CALLS && wrong == 0; i++) {
            call(faults);
        }
        look();
    }

    private void due(String call, int got, int want) {
        history.add(call + " = " + want);
        if (wrong == 0) {
            same(call, got, want);
            same("trouble() behind " + call, x.trouble(), model.trouble());
            same("where() behind " + call, x.where(), model.where());
        }
    }

    private void same(String call, int got, int want) {
        if (got != want && wrong == 0) {
            wrong++;
            System.out.println("seed " + seed + ": " + call + " answered " + got + ", due is " + want);
            history.forEach(line -> System.out.println("    " + line));
        }
    }

    private void due(String call, boolean got, boolean want) {
        due(call, got ? 1 : 0, want ? 1 : 0);
    }

    private void tell(int[] faults) {
        String text = text();
        if (random.nextInt(3) == 0) {
            text = spoilt(text);
        }
        if (text.length() > 900) {
            text = text.substring(0, 900);
        }
        byte[] bytes = (text + " ".repeat(20)).getBytes(StandardCharsets.ISO_8859_1);
        for (int i = 0; i < text.length(); i += 20) {
            int[] five = new int[5];
            for (int j = 0; j < 20; j++) {
                five[j / 4] = five[j / 4] << 8 | bytes[i + j] & 255;
            }
            same("feed", x.feed(five[0], five[1], five[2], five[3], five[4]),
                model.feed(five[0], five[1], five[2], five[3], five[4]));
        }
        int n = Math.min(text.length(), model.size(11));
        history.add("tape '" + text + "'");
        due("inn(" + n + ")", x.inn(n), model.inn(n));
        same("fault()", x.fault(), model.fault());
        faults[model.fault()]++;
    }

    // ---- texts

    private static <T> T one(Random random, List<T> list) {
        return list.get(random.nextInt(list.size()));
    }

    private static List<String> names(Random random, int count) {
        List<String> all = new ArrayList<>();
        for (int i = 0; i < count; i++) {
            String name;
            do {
                name = random.nextInt(6) == 0 ? one(random, List.of("creak", "minutes", "in", "bed", "dreams", "abcdefgh"))
                    : "" + (char) ('a' + random.nextInt(26)) + (random.nextInt(4) == 0 ? "q" : "");
            } while (all.contains(name));
            all.add(name);
        }
        return all;
    }

    private String text() {
        List<String> names = names(random, 19);
        List<String> rooms = names.subList(0, 1 + random.nextInt(8));
        List<String> things = names.subList(8, 8 + random.nextInt(5));
        List<String> dreams = names.subList(12, 13 + random.nextInt(4));
        List<String> sleepers = names.subList(16, 17 + random.nextInt(3));
        List<String> lines = new ArrayList<>();
        lines.add("inn minutes " + (1 + random.nextInt(random.nextInt(3) == 0 ? 40 : 10)));
        for (String room : rooms) {
            lines.add("room " + room + " creak " + random.nextInt(random.nextBoolean() ? 4 : 10)
                + (random.nextInt(7) == 0 ? " cold" : ""));
        }
        List<String> pairs = new ArrayList<>();
        for (int i = 0; i < rooms.size(); i++) {
            for (int j = 0; j < i; j++) {
                pairs.add(random.nextBoolean() ? rooms.get(i) + "," + rooms.get(j) : rooms.get(j) + " , " + rooms.get(i));
            }
        }
        Collections.shuffle(pairs, random);
        for (String pair : pairs.subList(0, Math.min(pairs.size(), random.nextInt(11)))) {
            lines.add("door " + pair + one(random, List.of("", "", "", " shut", " locked"))
                + (random.nextInt(4) == 0 ? " falls" : ""));
        }
        for (String thing : things) {
            lines.add("thing " + thing + " in " + one(random, rooms) + (random.nextBoolean() ? " full" : ""));
        }
        for (String dream : dreams) {
            lines.addAll(stateLines(dream, rooms, things));
        }
        for (String sleeper : sleepers) {
            lines.add("sleeper " + sleeper + " bed " + one(random, rooms) + " dreams " + one(random, dreams));
        }
        List<String> listens = new ArrayList<>(rooms);
        Collections.shuffle(listens, random);
        for (String room : listens.subList(0, Math.min(rooms.size(), random.nextInt(4)))) {
            lines.add("listens " + room);
        }
        return String.join(random.nextInt(5) == 0 ? " ; " : ";", lines);
    }

    private List<String> stateLines(String dream, List<String> rooms, List<String> things) {
        List<String> lines = new ArrayList<>();
        List<Integer> states = new ArrayList<>(List.of(0, 1, 2, 3));
        Collections.shuffle(states, random);
        for (int state : states.subList(0, 1 + random.nextInt(4))) {
            List<String> acts = new ArrayList<>(List.of("go " + one(random, rooms), "go " + one(random, rooms), "put", "wait",
                "shut " + one(random, rooms)));
            if (!things.isEmpty()) {
                acts.add("take " + one(random, things));
                acts.add("take " + one(random, things));
                acts.add("tip " + one(random, things));
            }
            lines.add("dream " + dream + " " + state + " " + one(random, acts) + " then " + random.nextInt(4)
                + (random.nextInt(3) == 0 ? " met " + random.nextInt(4) : ""));
        }
        return lines;
    }

    private String spoilt(String text) {
        StringBuilder spoilt = new StringBuilder(text);
        int at = random.nextInt(text.length());
        List<String> words = List.of(text.split("[ ;,]+"));
        List<String> lines = List.of(text.split(";"));
        switch (random.nextInt(11)) {
            case 0 -> spoilt.setLength(at);
            case 1 -> spoilt.setCharAt(at, one(random, List.of('!', 'a', '5', ';', ',', ' ', '\u00ff', 'Z')));
            case 2 -> spoilt.insert(at, one(random, words));
            case 3 -> spoilt.insert(at, " " + one(random, words) + " ");
            case 4 -> spoilt.deleteCharAt(at);
            case 5 -> spoilt.append(";").append(one(random, lines));
            case 6 -> spoilt.append(";").append(one(random, List.of("room z", "door ", "listens ", "thing zz in ", "dream t ",
                "sleeper z", "inn"))).append(" ").append(one(random, words));
            case 7 -> {
                List<String> fewer = new ArrayList<>(lines);
                fewer.remove(random.nextInt(lines.size()));
                spoilt.setLength(0);
                spoilt.append(String.join(";", fewer));
            }
            case 8 -> {
                int digit = at;
                while (digit < text.length() - 1 && !Character.isDigit(text.charAt(digit))) {
                    digit++;
                }
                spoilt.insert(digit, one(random, List.of("1", "4", "0", "00", "000")));
            }
            case 9 -> {
                int word = random.nextInt(words.size());
                spoilt.setLength(0);
                spoilt.append(text.replaceFirst("\\b" + words.get(word) + "\\b", one(random, words)));
            }
            default -> {
                List<String> moved = new ArrayList<>(lines);
                Collections.shuffle(moved, random);
                spoilt.setLength(0);
                spoilt.append(String.join(";", moved));
            }
        }
        return spoilt.length() == 0 ? " " : spoilt.toString();
    }

    // ---- calls

    /** A number below what there is of a sort, or just about. */
    private int near(int what) {
        int count = model.size(what);
        return random.nextInt(12) == 0 ? random.nextInt(count + 4) - 2 : count == 0 ? 0 : random.nextInt(count);
    }

    private int upTo(int most) {
        return random.nextInt(12) == 0 ? one(random, List.of(-1, most + 1, Integer.MIN_VALUE, Integer.MAX_VALUE))
            : random.nextInt(most + 1);
    }

    private int setting() {
        return upTo(2 * model.size(1));
    }

    private static int led(NightInn x, Model model, int i) {
        try {
            return model == null ? x.led(i) : model.led(i);
        } catch (NoSuchElementException none) {
            return -1;
        }
    }

    private void call(int[] faults) {
        int kind = random.nextInt(100);
        if (kind < 1) {
            tell(faults);
        } else if (kind < 30) {
            nightCall();
        } else if (kind < 50) {
            noteCall();
        } else if (kind < 60) {
            houseCall();
        } else if (kind < 80) {
            castCall();
        } else if (kind < 90) {
            safeCall();
        } else {
            look();
        }
    }

    private void houseCall() {
        int a = near(0);
        int b = near(0);
        int d = near(3);
        int state = upTo(3);
        int what = upTo(3);
        due("far(" + a + ", " + b + ")", x.far(a, b), model.far(a, b));
        due("door(" + a + ", " + b + ")", x.door(a, b), model.door(a, b));
        due("room(" + a + ", " + what + ")", x.room(a, what), model.room(a, what));
        due("dream(" + d + ", " + state + ", " + what + ")", x.dream(d, state, what), model.dream(d, state, what));
    }

    private void nightCall() {
        int setting = setting();
        int s = near(4);
        int n = upTo(40);
        switch (random.nextInt(8)) {
            case 0 -> due("nightfall(" + setting + ")", x.nightfall(setting), model.nightfall(setting));
            case 1 -> {
                int d = near(3);
                due("dreams(" + s + ", " + d + ")", x.dreams(s, d), model.dreams(s, d));
            }
            case 2 -> due("minutes(" + n + ")", x.minutes(n), model.minutes(n));
            case 3, 4 -> due("minutes(1)", x.minutes(1), model.minutes(1));
            case 5 -> {
                if (random.nextBoolean()) {
                    due("morning()", x.morning(), model.morning());
                } else {
                    due("mark()", x.mark(), model.mark());
                }
            }
            case 6 -> {
                int mark = near(9);
                due("back(" + mark + ")", x.back(mark), model.back(mark));
            }
            default -> {
                int minute = upTo(model.size(6));
                due("called(" + setting + ", " + s + ", " + minute + ")", x.called(setting, s, minute),
                    model.called(setting, s, minute));
            }
        }
    }

    private void noteCall() {
        int book = upTo(1);
        int who = near(5);
        int minute = 1 + upTo(Math.max(0, model.size(6) - 1)) ;
        boolean is = random.nextInt(4) == 0;
        int thing = near(2);
        int room = near(0);
        int door = near(1);
        int how = upTo(2);
        // Most notes are such that some night can be so: as this one is.
        boolean so = random.nextInt(4) > 0;
        switch (random.nextInt(5)) {
            case 0 -> {
                boolean was = so ? model.heard(who, minute) == x.heard(who, minute) && model.heard(who, minute) == 1 : is;
                due("noteHeard(" + book + ", " + who + ", " + minute + ", " + was + ")",
                    x.noteHeard(book, who, minute, was), model.noteHeard(book, who, minute, was));
            }
            case 1 -> {
                int in = so ? Math.min(model.thing(thing, 0), x.thing(thing, 0)) : room;
                due("noteThing(" + book + ", " + thing + ", " + in + ")",
                    x.noteThing(book, thing, in), model.noteThing(book, thing, in));
            }
            case 2 -> {
                int was = so ? Math.min(model.doorway(door, 0), x.doorway(door, 0)) : how;
                due("noteDoor(" + book + ", " + door + ", " + was + ")",
                    x.noteDoor(book, door, was), model.noteDoor(book, door, was));
            }
            default -> due("strike()", x.strike(), model.strike());
        }
    }

    private void castCall() {
        int books = upTo(3);
        int s = near(4);
        int i = random.nextInt(10) - 1;
        int j = random.nextInt(10) - 1;
        int one = setting();
        int other = setting();
        switch (random.nextInt(20)) {
            case 0, 1, 2, 3 -> due("fits(" + books + ")", x.fits(books), model.fits(books));
            case 4, 5, 6, 7 -> due("fit(" + books + ", " + i + ", " + s + ")", x.fit(books, i, s), model.fit(books, i, s));
            case 8, 9, 10 -> due("sure(" + s + ")", x.sure(s), model.sure(s));
            case 11, 12, 13 -> due("verdict()", x.verdict(), model.verdict());
            case 14, 15 -> due("parts(" + one + ")", x.parts(one), model.parts(one));
            case 16 -> due("told(" + one + ", " + other + ")", x.told(one, other), model.told(one, other));
            case 17 -> due("best()", x.best(), model.best());
            case 18 -> due("alike(" + i + ", " + j + ")", x.alike(i, j), model.alike(i, j));
            default -> due("never()", x.never(), model.never());
        }
    }

    private void safeCall() {
        int room = near(0);
        due("safely(" + room + ")", x.safely(room), model.safely(room));
        due("safe(" + room + ")", x.safe(room), model.safe(room));
        due("walks(" + room + ")", x.walks(room), model.walks(room));
        int i = random.nextInt(5) - 1;
        due("led(" + i + ")", led(x, null, i), led(null, model, i));
    }

    /** All that can be seen of this night. */
    private void look() {
        for (int what = -1; what <= 12; what++) {
            due("size(" + what + ")", x.size(what), model.size(what));
        }
        for (int what = -1; what <= 5; what++) {
            for (int i = -1; i <= 10; i++) {
                String numbers = "(" + i + ", " + what + ")";
                due("sleeper" + numbers, x.sleeper(i, what), model.sleeper(i, what));
                due("thing" + numbers, x.thing(i, what), model.thing(i, what));
                due("doorway" + numbers, x.doorway(i, what), model.doorway(i, what));
            }
        }
        for (int who = -1; who <= 3; who++) {
            due("creaks(" + who + ")", x.creaks(who), model.creaks(who));
            for (int minute = -1; minute <= 41; minute++) {
                due("heard(" + who + ", " + minute + ")", x.heard(who, minute), model.heard(who, minute));
            }
        }
    }
}

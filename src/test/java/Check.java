import java.nio.charset.StandardCharsets;
import java.util.Arrays;
import java.util.NoSuchElementException;
import java.util.Set;
import java.util.TreeSet;
import java.util.function.Predicate;
import java.util.function.Supplier;
import java.util.function.ToIntFunction;
import java.util.stream.IntStream;

/** What the tests share: telling an inn, and saying which answers are not as due. */
final class Check {
    private static final int SIZES = 12;

    private int wrong;
    private int asked;
    private String heading = "";
    private final Set<Integer> named = new TreeSet<>();

    /** The promise, and the words of the document, that the answers from here on are due by. */
    void promise(int number, String words) {
        named.add(number);
        heading = "promise " + number + " (" + words + "): ";
    }

    /** All promises of the document have been named. */
    void allNamed(int promises) {
        heading = "";
        for (int n = 1; n <= promises; n++) {
            due("promise " + n + " is named", named.contains(n), true);
        }
    }

    /** Numbers outside least .. most: next to it, far off, and such as shifts or products wrap into it. */
    static int[] outside(int least, int most) {
        return IntStream.of(-1, -2, 0, least - 1, least - 2, -most, -most - 1, most + 1, most + 2, 31, 32, 33, 63, 64, 65, 255,
            256, 257, 65536, 65537, 1 << 28, 1 << 29, 1 << 30, (1 << 30) + 1, Integer.MIN_VALUE, Integer.MIN_VALUE + 1,
            Integer.MAX_VALUE).filter(n -> n < least || n > most).distinct().toArray();
    }

    /** Feeds a text, filled up with blanks to whole feeds of twenty bytes. */
    static void feed(NightInn x, String text) {
        byte[] bytes = text.getBytes(StandardCharsets.ISO_8859_1);
        byte[] whole = Arrays.copyOf(bytes, (bytes.length + 19) / 20 * 20);
        Arrays.fill(whole, bytes.length, whole.length, (byte) ' ');
        for (int i = 0; i < whole.length; i += 20) {
            x.feed(four(whole, i), four(whole, i + 4), four(whole, i + 8), four(whole, i + 12), four(whole, i + 16));
        }
    }

    private static int four(byte[] bytes, int from) {
        int number = 0;
        for (int i = 0; i < 4; i++) {
            number = number << 8 | bytes[from + i] & 255;
        }
        return number;
    }

    static int tell(NightInn x, String text) {
        feed(x, text);
        return x.inn(text.length());
    }

    /** A new object with an inn, which must be one. */
    NightInn told(String text) {
        NightInn x = new NightInn();
        if (tell(x, text) < 0) {
            due("fault of: " + text, x.fault(), 0);
            due("place of the fault of: " + text, x.where(), NightInn.NONE);
        }
        return x;
    }

    void due(String call, long got, long want) {
        asked++;
        if (got != want) {
            wrong++;
            System.out.println(heading + call + " answered " + got + ", due is " + want);
        }
    }

    void due(String call, boolean got, boolean want) {
        due(call, got ? 1 : 0, want ? 1 : 0);
    }

    void due(String what, String got, String want) {
        asked++;
        if (!got.equals(want)) {
            wrong++;
            System.out.println(heading + what + " is\n    " + got + ", due is\n    " + want);
        }
    }

    /** An answer, behind which there is no trouble. */
    void plain(NightInn x, String call, int got, int want) {
        due(call, got, want);
        due("trouble() behind " + call, x.trouble(), 0);
    }

    void agreed(NightInn x, String call, boolean got) {
        due(call, got, true);
        due("trouble() behind " + call, x.trouble(), 0);
    }

    void refused(NightInn x, String call, int got, int why) {
        due(call, got, NightInn.NONE);
        due("trouble() behind " + call, x.trouble(), why);
    }

    void denied(NightInn x, String call, boolean got, int why) {
        due(call, got, false);
        due("trouble() behind " + call, x.trouble(), why);
    }

    /** A call that must be refused: the trouble ahead of it is another, and all sizes stay. */
    void refuses(NightInn x, int why, String call, ToIntFunction<NightInn> ask) {
        otherTrouble(x, why);
        int[] before = sizes(x);
        due(call, ask.applyAsInt(x), NightInn.NONE);
        due("trouble() behind " + call, x.trouble(), why);
        due("where() behind " + call, x.where(), NightInn.NONE);
        int[] behind = sizes(x);
        for (int what = 0; what < SIZES; what++) {
            due("size(" + what + ") behind " + call, behind[what], before[what]);
        }
    }

    void denies(NightInn x, int why, String call, Predicate<NightInn> ask) {
        refuses(x, why, call, y -> asInt(ask.test(y)));
    }

    /** A call that must not be refused, behind one that was. */
    void answers(NightInn x, int want, String call, ToIntFunction<NightInn> ask) {
        otherTrouble(x, 0);
        due(call, ask.applyAsInt(x), want);
        due("trouble() behind " + call, x.trouble(), 0);
        due("where() behind " + call, x.where(), NightInn.NONE);
    }

    void agrees(NightInn x, String call, Predicate<NightInn> ask) {
        answers(x, 1, call, y -> ask.test(y) ? 1 : 0);
    }

    /** Makes a trouble that isn't this one, and changes nothing else. */
    private static void otherTrouble(NightInn x, int why) {
        if (why == 2) {
            x.far(-1, -1);
        } else {
            x.inn(-1);
        }
    }

    static int[] sizes(NightInn x) {
        return IntStream.range(0, SIZES).map(x::size).toArray();
    }

    interface Asked {
        int of(NightInn x, int number);
    }

    /** A number that must be least .. most, and is refused else; each is asked of an object of its own. */
    void bounds(Supplier<NightInn> fresh, String call, int least, int most, int why, Asked ask) {
        for (int n = least; n <= most; n++) {
            NightInn x = fresh.get();
            x.inn(-1);
            due(call.replace("?", "" + n) + " is refused", ask.of(x, n) == NightInn.NONE, false);
            due("trouble() behind " + call.replace("?", "" + n), x.trouble(), 0);
        }
        for (int n : outside(least, most)) {
            refuses(fresh.get(), why, call.replace("?", "" + n), x -> ask.of(x, n));
        }
    }

    static int asInt(boolean agreed) {
        return agreed ? 1 : NightInn.NONE;
    }

    void faulty(String text, int fault, int place) {
        NightInn x = new NightInn();
        refused(x, "inn of '" + text + "'", tell(x, text), 4);
        due("fault() of '" + text + "'", x.fault(), fault);
        due("where() of '" + text + "'", x.where(), place);
    }

    /** The fault is at the place of a sign, here !, that the text then goes without. */
    void faultyAt(String marked, int fault) {
        int place = marked.indexOf('!');
        faulty(marked.substring(0, place) + marked.substring(place + 1), fault, place);
    }

    /** What led answers; NONE if it throws. */
    static int led(NightInn x, int i) {
        try {
            return x.led(i);
        } catch (NoSuchElementException none) {
            return NightInn.NONE;
        }
    }

    void end() {
        System.out.println(asked + " answers, " + wrong + " of them not as due");
        if (wrong != 0) {
            System.exit(1);
        }
    }
}

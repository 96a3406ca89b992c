import java.nio.charset.StandardCharsets;
import java.util.Arrays;
import java.util.NoSuchElementException;

/** What the tests share: telling an inn, and saying which answers are not as due. */
final class Check {
    private int wrong;
    private int asked;

    /** Feeds a text, filled up with blanks to whole feeds of twenty bytes. */
    static void feed(NightInn x, String text) {
        byte[] bytes = text.getBytes(StandardCharsets.ISO_8859_1);
        byte[] whole = Arrays.copyOf(bytes, (bytes.length + 19) / 20 * 20);
        Arrays.fill(whole, bytes.length, whole.length, (byte) ' ');
        for (int i = 0; i < whole.length; i += 20) {
            x.feed(four(whole, i), four(whole, i + 4), four(whole, i + 8), four(whole, i + 12), four(whole, i + 16));
        }
    }

    private static int four(byte[] bytes, int from) {
        int number = 0;
        for (int i = 0; i < 4; i++) {
            number = number << 8 | bytes[from + i] & 255;
        }
        return number;
    }

    static int tell(NightInn x, String text) {
        feed(x, text);
        return x.inn(text.length());
    }

    /** A new object with an inn, which must be one. */
    NightInn told(String text) {
        NightInn x = new NightInn();
        if (tell(x, text) < 0) {
            due("fault of: " + text, x.fault(), 0);
            due("place of the fault of: " + text, x.where(), NightInn.NONE);
        }
        return x;
    }

    void due(String call, long got, long want) {
        asked++;
        if (got != want) {
            wrong++;
            System.out.println(call + " answered " + got + ", due is " + want);
        }
    }

    void due(String call, boolean got, boolean want) {
        due(call, got ? 1 : 0, want ? 1 : 0);
    }

    /** An answer, behind which there is no trouble. */
    void plain(NightInn x, String call, int got, int want) {
        due(call, got, want);
        due("trouble() behind " + call, x.trouble(), 0);
    }

    void agreed(NightInn x, String call, boolean got) {
        due(call, got, true);
        due("trouble() behind " + call, x.trouble(), 0);
    }

    void refused(NightInn x, String call, int got, int why) {
        due(call, got, NightInn.NONE);
        due("trouble() behind " + call, x.trouble(), why);
    }

    void denied(NightInn x, String call, boolean got, int why) {
        due(call, got, false);
        due("trouble() behind " + call, x.trouble(), why);
    }

    void faulty(String text, int fault, int place) {
        NightInn x = new NightInn();
        refused(x, "inn of '" + text + "'", tell(x, text), 4);
        due("fault() of '" + text + "'", x.fault(), fault);
        due("where() of '" + text + "'", x.where(), place);
    }

    /** The fault is at the place of a sign, here !, that the text then goes without. */
    void faultyAt(String marked, int fault) {
        int place = marked.indexOf('!');
        faulty(marked.substring(0, place) + marked.substring(place + 1), fault, place);
    }

    /** What led answers; NONE if it throws. */
    static int led(NightInn x, int i) {
        try {
            return x.led(i);
        } catch (NoSuchElementException none) {
            return NightInn.NONE;
        }
    }

    void end() {
        System.out.println(asked + " answers, " + wrong + " of them not as due");
        if (wrong != 0) {
            System.exit(1);
        }
    }
}

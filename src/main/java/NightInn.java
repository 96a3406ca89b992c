import java.util.Arrays;
import java.util.NoSuchElementException;

/**
 * An inn at night, told as a text, and what can be asked of its nights.
 *
 * An inn that has not been told is an Inn with nothing in it: every number of a
 * room, door, thing, dream, sleeper or listener is then out of bounds by itself.
 */
public final class NightInn {
    public static final int NONE = -1;

    private static final int NOTHING = -2;
    private static final int NO_WAY = 99;

    private static final int TAPE_BYTES = 900;
    private static final int FEED_BYTES = 20;
    private static final int MAX_MINUTES = 40;
    private static final int MAX_CREAK = 9;
    private static final int MAX_ROOMS = 8;
    private static final int MAX_DOORS = 10;
    private static final int MAX_THINGS = 4;
    private static final int MAX_DREAMS = 4;
    private static final int STATES = 4;
    private static final int MAX_SLEEPERS = 3;
    private static final int MAX_LISTENERS = 3;
    private static final int MAX_NOTES = 20;
    private static final int MAX_MARKS = 3;
    private static final int MAX_CASTS = 64;
    private static final int MAX_SETTINGS = 1 + 2 * MAX_DOORS;

    // What is told of a state of a dream, and the acts, by the numbers of dream().
    private static final int ACT = 0;
    private static final int TARGET = 1;
    private static final int THEN = 2;
    private static final int MET = 3;
    private static final int STATE_PARTS = 4;
    private static final int UNTOLD_ACT = -1;
    private static final int GO = 0;
    private static final int TAKE = 1;
    private static final int PUT = 2;
    private static final int TIP = 3;
    private static final int WAIT = 4;
    private static final int SHUT_DOOR = 5;

    private static final int OPEN = 0;
    private static final int SHUT = 1;
    private static final int LOCKED = 2;

    private static final int BOTH_BOOKS = 3;

    // Troubles.
    private static final int NO_SUCH = 1;
    private static final int BAD_NUMBER = 2;
    private static final int NO_SPACE = 3;
    private static final int FAULTY = 4;
    private static final int EMPTY = 6;

    private final Reader reader = new Reader();
    private Inn inn = new Inn();
    private final int[] chosen = new int[MAX_SLEEPERS];
    private final Night night = new Night(inn);
    private final Night[] marks = new Night[MAX_MARKS];
    private int marked;
    private final Notes notes = new Notes();
    private final Casts casts = new Casts(inn);
    private int refusal;
    private int latestFault;
    private int faultPlace;

    public NightInn() {
        for (int i = 0; i < MAX_MARKS; i++) {
            marks[i] = new Night(inn);
        }
    }

    // ---- the inn

    public int feed(int a, int b, int c, int d, int e) {
        Tape tape = reader.tape;
        if (tape.length + FEED_BYTES > TAPE_BYTES) {
            return NONE;
        }
        tape.append(a);
        tape.append(b);
        tape.append(c);
        tape.append(d);
        tape.append(e);
        return tape.length;
    }

    public int inn(int n) {
        if (n < 0 || n > reader.tape.length) {
            return refuse(BAD_NUMBER);
        }
        latestFault = reader.read(n);
        faultPlace = reader.tape.start;
        reader.tape.length = 0;
        if (latestFault != 0) {
            return refuse(FAULTY);
        }
        Inn told = reader.inn;
        reader.inn = inn;
        inn = told;
        moveIn();
        casts.tryOut(0, 0);
        return answer(inn.sleepers);
    }

    public int fault() {
        return latestFault;
    }

    public int where() {
        return refusal == FAULTY ? faultPlace : NONE;
    }

    // ---- the house

    public int far(int room, int other) {
        if (!isRoom(room) || !isRoom(other)) {
            return refuse(NO_SUCH);
        }
        return answer(inn.house.ways.doorsFrom(room, other));
    }

    public int room(int r, int what) {
        if (!isRoom(r) || !isBelow(what, 2)) {
            return refuse(NO_SUCH);
        }
        return answer(what == 0 ? inn.house.creak[r] : bit(inn.house.cold[r]));
    }

    public int door(int room, int other) {
        if (!isRoom(room) || !isRoom(other) || room == other) {
            return refuse(NO_SUCH);
        }
        return answer(inn.house.doorBetween(room, other));
    }

    public int dream(int d, int state, int what) {
        if (!isBelow(d, inn.dreams) || !isBelow(state, STATES) || !isBelow(what, STATE_PARTS)) {
            return refuse(NO_SUCH);
        }
        if (!inn.isTold(d, state)) {
            return refuse(EMPTY);
        }
        return answer(inn.ofState(d, state, what));
    }

    // ---- nights

    public boolean nightfall(int setting) {
        if (!isSetting(setting)) {
            return deny(NO_SUCH);
        }
        night.prepare(inn, setting);
        night.begin(chosen, 0);
        return agree();
    }

    public boolean dreams(int sleeper, int dream) {
        if (!isSleeper(sleeper) || !isBelow(dream, inn.dreams)) {
            return deny(NO_SUCH);
        }
        chosen[sleeper] = dream;
        return agree();
    }

    public int minutes(int n) {
        if (!isTold()) {
            return refuse(NO_SUCH);
        }
        if (n < 1 || n > MAX_MINUTES) {
            return refuse(BAD_NUMBER);
        }
        int left = inn.minutes - night.been;
        if (left <= 0) {
            return refuse(EMPTY);
        }
        return answer(night.pass(Math.min(n, left)));
    }

    public int morning() {
        if (!isTold()) {
            return refuse(NO_SUCH);
        }
        return answer(night.pass(inn.minutes - night.been));
    }

    public int sleeper(int s, int what) {
        if (!isSleeper(s)) {
            return refuse(NO_SUCH);
        }
        switch (what) {
            case 0: return answer(night.roomOf[s]);
            case 1: return answer(night.stateOf[s]);
            case 2: return answer(night.handOf[s]);
            case 3: return answer(bit(night.awake[s]));
            case 4: return answer(night.dreamOf[s]);
            default: return refuse(NO_SUCH);
        }
    }

    public int thing(int t, int what) {
        if (!isThing(t)) {
            return refuse(NO_SUCH);
        }
        switch (what) {
            case 0: return answer(night.thingIn[t]);
            case 1: return answer(bit(night.full[t]));
            case 2: return answer(night.holderOf(t));
            default: return refuse(NO_SUCH);
        }
    }

    public int doorway(int d, int what) {
        if (!isDoor(d) || !isBelow(what, 2)) {
            return refuse(NO_SUCH);
        }
        return answer(what == 0 ? night.how[d] : night.passed[d]);
    }

    public int heard(int who, int minute) {
        if (!isListener(who) || minute < 1 || minute > night.been) {
            return refuse(NO_SUCH);
        }
        return answer(bit(isBitSet(night.heardBy[who], minute)));
    }

    public int creaks(int who) {
        if (!isListener(who)) {
            return refuse(NO_SUCH);
        }
        return answer(Long.bitCount(night.heardBy[who]));
    }

    public int called(int setting, int sleeper, int minute) {
        if (!isSetting(setting) || !isSleeper(sleeper)) {
            return refuse(NO_SUCH);
        }
        if (minute < 0 || minute > inn.minutes) {
            return refuse(BAD_NUMBER);
        }
        Night trial = casts.trial;
        trial.prepare(inn, setting);
        trial.begin(chosen, 0);
        trial.pass(minute);
        return answer(trial.roomOf[sleeper]);
    }

    public int mark() {
        if (!isTold()) {
            return refuse(NO_SUCH);
        }
        if (marked >= MAX_MARKS) {
            return refuse(NO_SPACE);
        }
        marks[marked].become(night);
        marked++;
        return answer(marked - 1);
    }

    public boolean back(int mark) {
        if (!isBelow(mark, marked)) {
            return deny(NO_SUCH);
        }
        night.become(marks[mark]);
        return agree();
    }

    // ---- notes

    public int noteHeard(int book, int who, int minute, boolean is) {
        if (!isBook(book) || !isListener(who)) {
            return refuse(NO_SUCH);
        }
        if (minute < 1 || minute > inn.minutes) {
            return refuse(BAD_NUMBER);
        }
        return write(book, is ? Notes.HEARD : Notes.UNHEARD, who, minute);
    }

    public int noteThing(int book, int thing, int room) {
        if (!isBook(book) || !isThing(thing) || !isRoom(room)) {
            return refuse(NO_SUCH);
        }
        return write(book, Notes.THING, thing, room);
    }

    public int noteDoor(int book, int door, int how) {
        if (!isBook(book) || !isDoor(door)) {
            return refuse(NO_SUCH);
        }
        if (how < OPEN || how > LOCKED) {
            return refuse(BAD_NUMBER);
        }
        return write(book, Notes.DOOR, door, how);
    }

    public boolean strike() {
        if (notes.count == 0) {
            return deny(EMPTY);
        }
        notes.count--;
        return agree();
    }

    public int fits(int books) {
        if (!isTold()) {
            return refuse(NO_SUCH);
        }
        if (!areBooks(books)) {
            return refuse(BAD_NUMBER);
        }
        return answer(casts.gather(notes, books));
    }

    public int fit(int books, int i, int sleeper) {
        if (!isSleeper(sleeper)) {
            return refuse(NO_SUCH);
        }
        if (!areBooks(books)) {
            return refuse(BAD_NUMBER);
        }
        if (!isBelow(i, casts.gather(notes, books))) {
            return refuse(NO_SUCH);
        }
        return answer(casts.dreamIn(i, sleeper));
    }

    public int sure(int sleeper) {
        if (!isSleeper(sleeper)) {
            return refuse(NO_SUCH);
        }
        if (casts.gather(notes, BOTH_BOOKS) == 0) {
            return refuse(EMPTY);
        }
        return answer(casts.commonDream(sleeper));
    }

    public int verdict() {
        if (!isTold()) {
            return refuse(NO_SUCH);
        }
        if (casts.gather(notes, BOTH_BOOKS) > 0) {
            return answer(0);
        }
        boolean first = casts.gather(notes, 1) > 0;
        boolean second = casts.gather(notes, 2) > 0;
        if (first) {
            return answer(second ? 3 : 1);
        }
        return answer(second ? 2 : 4);
    }

    // ---- settings

    public int parts(int setting) {
        if (!isSetting(setting)) {
            return refuse(NO_SUCH);
        }
        if (casts.gather(notes, BOTH_BOOKS) == 0) {
            return refuse(EMPTY);
        }
        casts.tryOut(setting, setting);
        return answer(casts.mostAlike(setting, setting));
    }

    public int best() {
        if (!isTold()) {
            return refuse(NO_SUCH);
        }
        if (casts.gather(notes, BOTH_BOOKS) == 0) {
            return refuse(EMPTY);
        }
        casts.tryOut(0, inn.settings() - 1);
        return answer(casts.bestSetting());
    }

    public int told(int setting, int other) {
        if (!isSetting(setting) || !isSetting(other)) {
            return refuse(NO_SUCH);
        }
        if (casts.gather(notes, BOTH_BOOKS) == 0) {
            return refuse(EMPTY);
        }
        casts.tryOut(setting, setting);
        casts.tryOut(other, other);
        return answer(casts.mostAlike(setting, other));
    }

    public int alike(int one, int other) {
        int count = casts.gather(notes, BOTH_BOOKS);
        if (!isBelow(one, count) || !isBelow(other, count) || one == other) {
            return refuse(NO_SUCH);
        }
        casts.tryOut(0, inn.settings() - 1);
        return answer(bit(casts.areAlike(one, other)));
    }

    public int never() {
        if (!isTold()) {
            return refuse(NO_SUCH);
        }
        casts.gather(notes, BOTH_BOOKS);
        casts.tryOut(0, inn.settings() - 1);
        return answer(casts.alikePairs());
    }

    // ---- safe

    public int safe(int room) {
        int doors = safely(room);
        return doors < 0 ? doors : Integer.bitCount(doors);
    }

    public int safely(int room) {
        if (!isRoom(room)) {
            return refuse(NO_SUCH);
        }
        return answer(inn.leastLocks(room));
    }

    public int walks(int room) {
        // By Menger's theorem the most walks that share no door are as many as
        // the fewest doors that cut all of them.
        return safe(room);
    }

    public int led(int i) throws NoSuchElementException {
        int before = 0;
        for (int s = 0; s < inn.sleepers; s++) {
            if (night.roomOf[s] != inn.bed[s]) {
                if (before == i) {
                    return s;
                }
                before++;
            }
        }
        throw new NoSuchElementException();
    }

    public int size(int what) {
        switch (what) {
            case 0: return inn.house.rooms;
            case 1: return inn.house.doors;
            case 2: return inn.things;
            case 3: return inn.dreams;
            case 4: return inn.sleepers;
            case 5: return inn.listeners;
            case 6: return inn.minutes;
            case 7: return night.been;
            case 8: return notes.count;
            case 9: return marked;
            case 10: return night.setting;
            case 11: return reader.tape.length;
            default: return NONE;
        }
    }

    public int trouble() {
        return refusal;
    }

    // ---- what the calls share

    private int answer(int value) {
        refusal = 0;
        return value;
    }

    private int refuse(int why) {
        refusal = why;
        return NONE;
    }

    private boolean agree() {
        refusal = 0;
        return true;
    }

    private boolean deny(int why) {
        refusal = why;
        return false;
    }

    private void moveIn() {
        System.arraycopy(inn.dreamOf, 0, chosen, 0, MAX_SLEEPERS);
        night.prepare(inn, 0);
        night.begin(chosen, 0);
        marked = 0;
        notes.count = 0;
        casts.moveTo(inn);
    }

    private int write(int book, int sort, int one, int other) {
        if (notes.count >= MAX_NOTES) {
            return refuse(NO_SPACE);
        }
        notes.add(book, sort, one, other);
        return answer(notes.count);
    }

    private boolean isTold() {
        return inn.minutes > 0;
    }

    private boolean isRoom(int r) {
        return isBelow(r, inn.house.rooms);
    }

    private boolean isDoor(int d) {
        return isBelow(d, inn.house.doors);
    }

    private boolean isThing(int t) {
        return isBelow(t, inn.things);
    }

    private boolean isSleeper(int s) {
        return isBelow(s, inn.sleepers);
    }

    private boolean isListener(int who) {
        return isBelow(who, inn.listeners);
    }

    private boolean isSetting(int setting) {
        return isTold() && isBelow(setting, inn.settings());
    }

    private static boolean isBook(int book) {
        return isBelow(book, 2);
    }

    private static boolean areBooks(int books) {
        return isBelow(books, BOTH_BOOKS + 1);
    }

    private static boolean isBelow(int number, int bound) {
        return number >= 0 && number < bound;
    }

    private static boolean isBitSet(long bits, int place) {
        return (bits >>> place & 1L) != 0;
    }

    private static int bit(boolean is) {
        return is ? 1 : 0;
    }

    /** The words of the text that have a meaning of their own; not all are kept from being names. */
    private enum Word {
        INN("inn", true), ROOM("room", true), DOOR("door", true), THING("thing", true),
        DREAM("dream", true), SLEEPER("sleeper", true), LISTENS("listens", true),
        COLD("cold", true), SHUT("shut", true), LOCKED("locked", true), FALLS("falls", true),
        FULL("full", true), THEN("then", true), MET("met", true), GO("go", true),
        TAKE("take", true), PUT("put", true), TIP("tip", true), WAIT("wait", true),
        MINUTES("minutes", false), CREAK("creak", false), IN("in", false), BED("bed", false),
        DREAMS("dreams", false);

        private static final Word[] ALL = values();

        private final long code;
        private final boolean kept;

        Word(String text, boolean kept) {
            long sum = 0;
            for (int i = 0; i < text.length(); i++) {
                sum = Tape.joined(sum, text.charAt(i));
            }
            this.code = sum;
            this.kept = kept;
        }

        static boolean isKept(long code) {
            for (int i = 0; i < ALL.length; i++) {
                if (ALL[i].code == code) {
                    return ALL[i].kept;
                }
            }
            return false;
        }
    }

    /** The tape, and the token of it that stands next. */
    private static final class Tape {
        private static final int END = 0;
        private static final int WORD = 1;
        private static final int WHOLE = 2;
        private static final int SEMICOLON = 3;
        private static final int COMMA = 4;
        private static final int NO_TOKEN = 5;

        private static final int WORD_LETTERS = 8;
        private static final int WHOLE_DIGITS = 3;

        private final byte[] bytes = new byte[TAPE_BYTES];
        private int length;
        private int end;
        private int at;
        private int start;
        private int kind;
        private long code;
        private boolean mayName;
        private int value;

        /** A word's letters in one number: eight of five bits each fit, and none is 0. */
        static long joined(long code, int letter) {
            return code << 5 | letter - 'a' + 1;
        }

        void append(int number) {
            for (int shift = 24; shift >= 0 && length < TAPE_BYTES; shift -= 8) {
                bytes[length] = (byte) (number >>> shift);
                length++;
            }
        }

        void rewind(int n) {
            end = n;
            at = 0;
            advance();
        }

        void advance() {
            while (at < end && bytes[at] == ' ') {
                at++;
            }
            start = at;
            code = 0;
            while (at < end && isLetter(bytes[at])) {
                code = joined(code, bytes[at]);
                at++;
            }
            int letters = at - start;
            value = 0;
            while (letters == 0 && at < end && isDigit(bytes[at])) {
                value = value * 10 + bytes[at] - '0';
                at++;
            }
            int digits = at - start - letters;
            if (letters > 0) {
                kind = letters <= WORD_LETTERS ? WORD : NO_TOKEN;
            } else if (digits > 0) {
                kind = digits <= WHOLE_DIGITS ? WHOLE : NO_TOKEN;
            } else {
                kind = passSign();
            }
            mayName = kind == WORD && !Word.isKept(code);
        }

        private int passSign() {
            if (at >= end) {
                return END;
            }
            byte sign = bytes[at];
            at++;
            if (sign == ';') {
                return SEMICOLON;
            }
            return sign == ',' ? COMMA : NO_TOKEN;
        }

        boolean isAt(Word word) {
            return kind == WORD && code == word.code;
        }

        private static boolean isLetter(int sign) {
            return sign >= 'a' && sign <= 'z';
        }

        private static boolean isDigit(int sign) {
            return sign >= '0' && sign <= '9';
        }
    }

    /**
     * Reads an inn from the tape. Each step looks at the token that stands next, and
     * either goes behind it or ends the reading with a fault at it: so the first fault
     * from the left is the one that is kept.
     */
    private static final class Reader {
        private static final int FORM = 1;
        private static final int UNTOLD = 2;
        private static final int AGAIN = 3;
        private static final int BOUNDS = 4;
        private static final int MANY = 5;
        private static final int LACKS = 6;

        private static final int LAST_STATE = STATES - 1;

        private static final int A_ROOM = 0;
        private static final int A_THING = 1;
        private static final int A_DREAM = 2;
        private static final int A_SLEEPER = 3;

        private static final int MAX_NAMES = MAX_ROOMS + MAX_THINGS + MAX_DREAMS + MAX_SLEEPERS;

        private final Tape tape = new Tape();
        private final long[] names = new long[MAX_NAMES];
        private final int[] sorts = new int[MAX_NAMES];
        private final int[] numbers = new int[MAX_NAMES];
        private int named;
        /** What is being read; it takes the place of the inn that was only if it has no fault. */
        private Inn inn = new Inn();
        private int fault;
        /** What the latest step read: a whole, or the number of what a name names. */
        private int number;

        /** The fault, whose place is where the tape's token starts; 0 without one. */
        int read(int n) {
            inn.clear();
            named = 0;
            fault = 0;
            tape.rewind(n);
            boolean fine = readLine();
            for (int i = 0; i < n && fine && tape.kind == Tape.SEMICOLON; i++) {
                tape.advance();
                fine = readLine();
            }
            if (fine && tape.kind != Tape.END) {
                fine = fail(FORM);
            }
            if (fine && (inn.minutes == 0 || inn.house.rooms == 0 || inn.sleepers == 0)) {
                fine = fail(LACKS);
            }
            if (fine) {
                inn.house.ways.measure(inn.house, 0);
            }
            return fault;
        }

        private boolean fail(int what) {
            fault = what;
            return false;
        }

        private boolean readLine() {
            if (tape.isAt(Word.INN)) {
                return readInn();
            }
            if (tape.isAt(Word.ROOM)) {
                return readRoom();
            }
            if (tape.isAt(Word.DOOR)) {
                return readDoor();
            }
            if (tape.isAt(Word.THING)) {
                return readThing();
            }
            if (tape.isAt(Word.DREAM)) {
                return readDream();
            }
            if (tape.isAt(Word.SLEEPER)) {
                return readSleeper();
            }
            if (tape.isAt(Word.LISTENS)) {
                return readListener();
            }
            return fail(FORM);
        }

        private boolean readInn() {
            if (inn.minutes > 0) {
                return fail(AGAIN);
            }
            tape.advance();
            if (!pass(Word.MINUTES) || !passWhole(1, MAX_MINUTES)) {
                return false;
            }
            inn.minutes = number;
            return true;
        }

        private boolean readRoom() {
            if (inn.house.rooms >= MAX_ROOMS) {
                return fail(MANY);
            }
            tape.advance();
            if (!passNew(A_ROOM, inn.house.rooms) || !pass(Word.CREAK) || !passWhole(0, MAX_CREAK)) {
                return false;
            }
            inn.house.addRoom(number, passIf(Word.COLD));
            return true;
        }

        private boolean readDoor() {
            if (inn.house.doors >= MAX_DOORS) {
                return fail(MANY);
            }
            tape.advance();
            if (!passName(A_ROOM)) {
                return false;
            }
            int one = number;
            if (!passComma() || !passOtherRoom(one)) {
                return false;
            }
            int other = number;
            int how = passIf(Word.SHUT) ? SHUT : passIf(Word.LOCKED) ? LOCKED : OPEN;
            inn.house.addDoor(one, other, how, passIf(Word.FALLS));
            return true;
        }

        private boolean readThing() {
            if (inn.things >= MAX_THINGS) {
                return fail(MANY);
            }
            tape.advance();
            if (!passNew(A_THING, inn.things) || !pass(Word.IN) || !passName(A_ROOM)) {
                return false;
            }
            inn.addThing(number, passIf(Word.FULL));
            return true;
        }

        private boolean readDream() {
            tape.advance();
            if (!passDream()) {
                return false;
            }
            int dream = number;
            if (!passNewState(dream)) {
                return false;
            }
            int state = number;
            int act = nextAct();
            if (act == UNTOLD_ACT) {
                return fail(FORM);
            }
            tape.advance();
            int sort = targetOf(act);
            if (sort != NOTHING && !passName(sort)) {
                return false;
            }
            int target = sort == NOTHING ? NOTHING : number;
            if (!pass(Word.THEN) || !passWhole(0, LAST_STATE)) {
                return false;
            }
            int then = number;
            boolean meets = passIf(Word.MET);
            if (meets && !passWhole(0, LAST_STATE)) {
                return false;
            }
            inn.tellState(dream, state, act, target, then, meets ? number : NOTHING);
            return true;
        }

        private boolean readSleeper() {
            if (inn.sleepers >= MAX_SLEEPERS) {
                return fail(MANY);
            }
            tape.advance();
            if (!passNew(A_SLEEPER, inn.sleepers) || !pass(Word.BED) || !passName(A_ROOM)) {
                return false;
            }
            int bed = number;
            if (!pass(Word.DREAMS) || !passName(A_DREAM)) {
                return false;
            }
            inn.addSleeper(bed, number);
            return true;
        }

        private boolean readListener() {
            if (inn.listeners >= MAX_LISTENERS) {
                return fail(MANY);
            }
            tape.advance();
            if (!lookUp(A_ROOM)) {
                return false;
            }
            if (inn.isListening(number)) {
                return fail(AGAIN);
            }
            tape.advance();
            inn.addListener(number);
            return true;
        }

        private int nextAct() {
            if (tape.isAt(Word.GO)) {
                return GO;
            }
            if (tape.isAt(Word.TAKE)) {
                return TAKE;
            }
            if (tape.isAt(Word.PUT)) {
                return PUT;
            }
            if (tape.isAt(Word.TIP)) {
                return TIP;
            }
            if (tape.isAt(Word.WAIT)) {
                return WAIT;
            }
            return tape.isAt(Word.SHUT) ? SHUT_DOOR : UNTOLD_ACT;
        }

        private static int targetOf(int act) {
            if (act == GO || act == SHUT_DOOR) {
                return A_ROOM;
            }
            return act == TAKE || act == TIP ? A_THING : NOTHING;
        }

        private boolean pass(Word word) {
            if (!tape.isAt(word)) {
                return fail(FORM);
            }
            tape.advance();
            return true;
        }

        private boolean passIf(Word word) {
            boolean is = tape.isAt(word);
            if (is) {
                tape.advance();
            }
            return is;
        }

        private boolean passComma() {
            if (tape.kind != Tape.COMMA) {
                return fail(FORM);
            }
            tape.advance();
            return true;
        }

        private boolean passWhole(int least, int most) {
            if (!lookAtWhole(least, most)) {
                return false;
            }
            tape.advance();
            return true;
        }

        private boolean passNewState(int dream) {
            if (!lookAtWhole(0, LAST_STATE)) {
                return false;
            }
            if (inn.isTold(dream, number)) {
                return fail(AGAIN);
            }
            tape.advance();
            return true;
        }

        private boolean passNew(int sort, int count) {
            if (!tape.mayName) {
                return fail(FORM);
            }
            if (placeOfName() != NONE) {
                return fail(AGAIN);
            }
            tellName(sort, count);
            tape.advance();
            return true;
        }

        private boolean passName(int sort) {
            if (!lookUp(sort)) {
                return false;
            }
            tape.advance();
            return true;
        }

        private boolean passOtherRoom(int first) {
            if (!lookUp(A_ROOM)) {
                return false;
            }
            if (number == first || inn.house.doorBetween(first, number) != NOTHING) {
                return fail(AGAIN);
            }
            tape.advance();
            return true;
        }

        private boolean passDream() {
            if (!tape.mayName) {
                return fail(FORM);
            }
            int place = placeOfName();
            if (place != NONE) {
                if (sorts[place] != A_DREAM) {
                    return fail(AGAIN);
                }
                number = numbers[place];
            } else {
                if (inn.dreams >= MAX_DREAMS) {
                    return fail(MANY);
                }
                number = inn.dreams;
                tellName(A_DREAM, number);
                inn.dreams++;
            }
            tape.advance();
            return true;
        }

        private boolean lookAtWhole(int least, int most) {
            if (tape.kind != Tape.WHOLE) {
                return fail(FORM);
            }
            number = tape.value;
            return number >= least && number <= most || fail(BOUNDS);
        }

        private boolean lookUp(int sort) {
            if (!tape.mayName) {
                return fail(FORM);
            }
            int place = placeOfName();
            if (place == NONE || sorts[place] != sort) {
                return fail(UNTOLD);
            }
            number = numbers[place];
            return true;
        }

        private int placeOfName() {
            for (int i = 0; i < named; i++) {
                if (names[i] == tape.code) {
                    return i;
                }
            }
            return NONE;
        }

        private void tellName(int sort, int count) {
            if (named < MAX_NAMES) {
                names[named] = tape.code;
                sorts[named] = sort;
                numbers[named] = count;
                named++;
            }
        }
    }

    /** How many doors it is from room to room, at the fewest, when some doors can't be used. */
    private static final class Ways {
        private final int[] steps = new int[MAX_ROOMS * MAX_ROOMS];
        private int rooms;

        void measure(House house, int lockedDoors) {
            rooms = house.rooms;
            Arrays.fill(steps, NO_WAY);
            for (int room = 0; room < rooms; room++) {
                steps[room * MAX_ROOMS + room] = 0;
            }
            for (int d = 0; d < house.doors; d++) {
                if (!isBitSet(lockedDoors, d)) {
                    steps[house.one[d] * MAX_ROOMS + house.other[d]] = 1;
                    steps[house.other[d] * MAX_ROOMS + house.one[d]] = 1;
                }
            }
            for (int via = 0; via < rooms; via++) {
                for (int from = 0; from < rooms; from++) {
                    shorten(from, via);
                }
            }
        }

        private void shorten(int from, int via) {
            int first = doorsFrom(from, via);
            for (int to = 0; to < rooms; to++) {
                int whole = first + doorsFrom(via, to);
                if (whole < doorsFrom(from, to)) {
                    steps[from * MAX_ROOMS + to] = whole;
                }
            }
        }

        int doorsFrom(int room, int other) {
            return steps[room * MAX_ROOMS + other];
        }

        /** The first room next to this one that is nearer to the other; NONE without a way. */
        int roomToward(int room, int other) {
            int nearer = doorsFrom(room, other) - 1;
            for (int next = 0; next < rooms; next++) {
                if (doorsFrom(room, next) == 1 && doorsFrom(next, other) == nearer) {
                    return next;
                }
            }
            return NONE;
        }

        void become(Ways ways) {
            rooms = ways.rooms;
            System.arraycopy(ways.steps, 0, steps, 0, steps.length);
        }
    }

    /** The rooms and the doors between them, as told. */
    private static final class House {
        private int rooms;
        private final int[] creak = new int[MAX_ROOMS];
        private final boolean[] cold = new boolean[MAX_ROOMS];
        private int doors;
        private final int[] one = new int[MAX_DOORS];
        private final int[] other = new int[MAX_DOORS];
        private final int[] how = new int[MAX_DOORS];
        private final boolean[] falls = new boolean[MAX_DOORS];
        /** Over all doors, whatever they are. */
        private final Ways ways = new Ways();

        void addRoom(int creaks, boolean isCold) {
            creak[rooms] = creaks;
            cold[rooms] = isCold;
            rooms++;
        }

        void addDoor(int room, int next, int toldHow, boolean doesFall) {
            one[doors] = room;
            other[doors] = next;
            how[doors] = toldHow;
            falls[doors] = doesFall;
            doors++;
        }

        int doorBetween(int room, int next) {
            for (int d = 0; d < doors; d++) {
                if (one[d] == room && other[d] == next || one[d] == next && other[d] == room) {
                    return d;
                }
            }
            return NOTHING;
        }

        /** The rooms, as bits, that have a way from some of these over doors that aren't locked. */
        int reachedFrom(int someRooms, int lockedDoors) {
            int reached = someRooms;
            for (int round = 0; round < rooms; round++) {
                for (int d = 0; d < doors; d++) {
                    int ends = 1 << one[d] | 1 << other[d];
                    if (!isBitSet(lockedDoors, d) && (reached & ends) != 0) {
                        reached |= ends;
                    }
                }
            }
            return reached;
        }
    }

    /** An inn as it is told. */
    private static final class Inn {
        private final House house = new House();
        private int minutes;
        private int things;
        private final int[] thingIn = new int[MAX_THINGS];
        private final boolean[] full = new boolean[MAX_THINGS];
        private int dreams;
        private final int[] states = new int[MAX_DREAMS * STATES * STATE_PARTS];
        private int sleepers;
        private final int[] bed = new int[MAX_SLEEPERS];
        private final int[] dreamOf = new int[MAX_SLEEPERS];
        private int listeners;
        private final int[] listensIn = new int[MAX_LISTENERS];

        void clear() {
            house.rooms = 0;
            house.doors = 0;
            minutes = 0;
            things = 0;
            dreams = 0;
            Arrays.fill(states, UNTOLD_ACT);
            sleepers = 0;
            listeners = 0;
        }

        void addThing(int room, boolean isFull) {
            thingIn[things] = room;
            full[things] = isFull;
            things++;
        }

        void addSleeper(int room, int dream) {
            bed[sleepers] = room;
            dreamOf[sleepers] = dream;
            sleepers++;
        }

        void addListener(int room) {
            listensIn[listeners] = room;
            listeners++;
        }

        boolean isListening(int room) {
            for (int i = 0; i < listeners; i++) {
                if (listensIn[i] == room) {
                    return true;
                }
            }
            return false;
        }

        void tellState(int dream, int state, int act, int target, int then, int met) {
            int place = (dream * STATES + state) * STATE_PARTS;
            states[place + ACT] = act;
            states[place + TARGET] = target;
            states[place + THEN] = then;
            states[place + MET] = met;
        }

        int ofState(int dream, int state, int part) {
            return states[(dream * STATES + state) * STATE_PARTS + part];
        }

        boolean isTold(int dream, int state) {
            return ofState(dream, state, ACT) != UNTOLD_ACT;
        }

        int settings() {
            return 1 + 2 * house.doors;
        }

        /** How a door is at nightfall: a setting stands in place of what is told of it. */
        int howAtNightfall(int door, int setting) {
            if (setting == 1 + 2 * door) {
                return SHUT;
            }
            return setting == 2 + 2 * door ? LOCKED : house.how[door];
        }

        int lockedAtNightfall(int setting) {
            int locked = 0;
            for (int d = 0; d < house.doors; d++) {
                if (howAtNightfall(d, setting) == LOCKED) {
                    locked |= 1 << d;
                }
            }
            return locked;
        }

        /** The fewest doors, as bits, whose locks keep all beds from a room; NOTHING if a bed is there. */
        int leastLocks(int room) {
            int beds = 0;
            for (int s = 0; s < sleepers; s++) {
                beds |= 1 << bed[s];
            }
            if (isBitSet(beds, room)) {
                return NOTHING;
            }
            int told = lockedAtNightfall(0);
            int least = (1 << house.doors) - 1;
            for (int doors = 0; doors < 1 << house.doors; doors++) {
                if (Integer.bitCount(doors) < Integer.bitCount(least)
                        && !isBitSet(house.reachedFrom(beds, told | doors), room)) {
                    least = doors;
                }
            }
            return least;
        }
    }

    /** A night, up to the minute that it has come to. */
    private static final class Night {
        private Inn inn;
        private int setting;
        private int been;
        /** Nothing locks or unlocks a door at night, so the ways stay as they are at nightfall. */
        private final Ways ways = new Ways();
        private final int[] how = new int[MAX_DOORS];
        private final int[] passed = new int[MAX_DOORS];
        private final int[] dreamOf = new int[MAX_SLEEPERS];
        private final int[] stateOf = new int[MAX_SLEEPERS];
        private final int[] roomOf = new int[MAX_SLEEPERS];
        private final int[] handOf = new int[MAX_SLEEPERS];
        private final boolean[] awake = new boolean[MAX_SLEEPERS];
        private final int[] thingIn = new int[MAX_THINGS];
        private final boolean[] full = new boolean[MAX_THINGS];
        /** Of each who listens a bit for each minute, the minute's number being its place. */
        private final long[] heardBy = new long[MAX_LISTENERS];

        Night(Inn inn) {
            this.inn = inn;
        }

        /** Sets the house for nights with a setting; begin() then begins each of them. */
        void prepare(Inn inInn, int withSetting) {
            inn = inInn;
            setting = withSetting;
            ways.measure(inn.house, inn.lockedAtNightfall(setting));
        }

        /** Nightfall; the sleepers' dreams stand in a row from a place on. */
        void begin(int[] dreams, int from) {
            been = 0;
            for (int d = 0; d < inn.house.doors; d++) {
                how[d] = inn.howAtNightfall(d, setting);
                passed[d] = 0;
            }
            for (int s = 0; s < inn.sleepers; s++) {
                dreamOf[s] = dreams[from + s];
                stateOf[s] = 0;
                roomOf[s] = inn.bed[s];
                handOf[s] = NOTHING;
                awake[s] = false;
            }
            System.arraycopy(inn.thingIn, 0, thingIn, 0, MAX_THINGS);
            System.arraycopy(inn.full, 0, full, 0, MAX_THINGS);
            Arrays.fill(heardBy, 0L);
        }

        void become(Night other) {
            inn = other.inn;
            setting = other.setting;
            been = other.been;
            ways.become(other.ways);
            System.arraycopy(other.how, 0, how, 0, MAX_DOORS);
            System.arraycopy(other.passed, 0, passed, 0, MAX_DOORS);
            System.arraycopy(other.dreamOf, 0, dreamOf, 0, MAX_SLEEPERS);
            System.arraycopy(other.stateOf, 0, stateOf, 0, MAX_SLEEPERS);
            System.arraycopy(other.roomOf, 0, roomOf, 0, MAX_SLEEPERS);
            System.arraycopy(other.handOf, 0, handOf, 0, MAX_SLEEPERS);
            System.arraycopy(other.awake, 0, awake, 0, MAX_SLEEPERS);
            System.arraycopy(other.thingIn, 0, thingIn, 0, MAX_THINGS);
            System.arraycopy(other.full, 0, full, 0, MAX_THINGS);
            System.arraycopy(other.heardBy, 0, heardBy, 0, MAX_LISTENERS);
        }

        int holderOf(int thing) {
            for (int s = 0; s < inn.sleepers; s++) {
                if (handOf[s] == thing) {
                    return s;
                }
            }
            return NOTHING;
        }

        int pass(int minutes) {
            for (int m = 0; m < minutes; m++) {
                been++;
                for (int s = 0; s < inn.sleepers; s++) {
                    if (!awake[s] && inn.isTold(dreamOf[s], stateOf[s])) {
                        follow(s);
                    }
                }
            }
            return minutes;
        }

        private void follow(int s) {
            int dream = dreamOf[s];
            int state = stateOf[s];
            int target = inn.ofState(dream, state, TARGET);
            boolean done = false;
            switch (inn.ofState(dream, state, ACT)) {
                case GO:
                    done = roomOf[s] == target;
                    if (!done) {
                        goToward(s, target);
                    }
                    break;
                case TAKE:
                    done = takes(s, target);
                    break;
                case PUT:
                    done = puts(s);
                    break;
                case TIP:
                    done = tips(s, target);
                    break;
                case WAIT:
                    done = true;
                    break;
                case SHUT_DOOR:
                    done = shuts(s, target);
                    break;
                default:
                    break;
            }
            if (done) {
                stateOf[s] = inn.ofState(dream, state, THEN);
            }
        }

        private void goToward(int s, int target) {
            int room = ways.roomToward(roomOf[s], target);
            if (room == NONE) {
                return;
            }
            int door = inn.house.doorBetween(roomOf[s], room);
            if (door >= 0) {
                how[door] = inn.house.falls[door] ? SHUT : OPEN;
                passed[door]++;
            }
            roomOf[s] = room;
            if (handOf[s] >= 0) {
                thingIn[handOf[s]] = room;
            }
            creakIn(room);
            if (inn.house.cold[room]) {
                awake[s] = true;
            } else {
                meetIn(room);
            }
        }

        private void creakIn(int room) {
            for (int who = 0; who < inn.listeners; who++) {
                if (inn.house.creak[room] > inn.house.ways.doorsFrom(room, inn.listensIn[who])) {
                    heardBy[who] |= 1L << been;
                }
            }
        }

        /** Somebody has come to a room that isn't cold: all who are there asleep meet. */
        private void meetIn(int room) {
            int there = 0;
            for (int s = 0; s < inn.sleepers; s++) {
                there += bit(isAsleepIn(s, room));
            }
            for (int s = 0; s < inn.sleepers && there > 1; s++) {
                // Of a state that isn't told, this is UNTOLD_ACT: below 0, as NOTHING is.
                int met = inn.ofState(dreamOf[s], stateOf[s], MET);
                if (isAsleepIn(s, room) && met >= 0) {
                    stateOf[s] = met;
                }
            }
        }

        private boolean isAsleepIn(int s, int room) {
            return roomOf[s] == room && !awake[s];
        }

        private boolean takes(int s, int thing) {
            if (thingIn[thing] != roomOf[s] || handOf[s] != NOTHING || holderOf(thing) != NOTHING) {
                return false;
            }
            handOf[s] = thing;
            return true;
        }

        private boolean puts(int s) {
            // What is in hands is in their room already.
            boolean has = handOf[s] != NOTHING;
            handOf[s] = NOTHING;
            return has;
        }

        private boolean tips(int s, int thing) {
            if (thingIn[thing] != roomOf[s] || !full[thing]) {
                return false;
            }
            full[thing] = false;
            return true;
        }

        private boolean shuts(int s, int room) {
            int door = inn.house.doorBetween(roomOf[s], room);
            if (door < 0 || how[door] != OPEN) {
                return false;
            }
            how[door] = SHUT;
            return true;
        }
    }

    /** Mornings, one for each cast: a row of four numbers has all that one tells. */
    private static final class Mornings {
        private static final int ROW = MAX_LISTENERS + 1;
        private static final int DOORS_FROM = 4 * MAX_THINGS;
        private static final int SLEEPERS_FROM = DOORS_FROM + 2 * MAX_DOORS;

        private final long[] rows = new long[MAX_CASTS * ROW];

        void keep(int cast, Night night) {
            int row = cast * ROW;
            System.arraycopy(night.heardBy, 0, rows, row, MAX_LISTENERS);
            long found = 0;
            for (int t = 0; t < night.inn.things; t++) {
                found |= (long) (2 * night.thingIn[t] + bit(night.full[t])) << 4 * t;
            }
            for (int d = 0; d < night.inn.house.doors; d++) {
                found |= (long) night.how[d] << DOORS_FROM + 2 * d;
            }
            for (int s = 0; s < night.inn.sleepers; s++) {
                found |= (long) (2 * night.roomOf[s] + bit(night.awake[s])) << SLEEPERS_FROM + 4 * s;
            }
            rows[row + MAX_LISTENERS] = found;
        }

        /** The first cast, this one at the latest, that has the same morning. */
        int firstLike(int cast) {
            int first = 0;
            while (first < cast && !areSame(first, cast)) {
                first++;
            }
            return first;
        }

        private boolean areSame(int cast, int other) {
            for (int i = 0; i < ROW; i++) {
                if (rows[cast * ROW + i] != rows[other * ROW + i]) {
                    return false;
                }
            }
            return true;
        }

        boolean wasHeard(int cast, int who, int minute) {
            return isBitSet(rows[cast * ROW + who], minute);
        }

        int roomOfThing(int cast, int thing) {
            return (int) (rows[cast * ROW + MAX_LISTENERS] >>> 4 * thing + 1) & 7;
        }

        int howIsDoor(int cast, int door) {
            return (int) (rows[cast * ROW + MAX_LISTENERS] >>> DOORS_FROM + 2 * door) & 3;
        }
    }

    /** The notes of both books, in the order in which they were written. */
    private static final class Notes {
        private static final int HEARD = 0;
        private static final int UNHEARD = 1;
        private static final int THING = 2;
        private static final int DOOR = 3;

        private final int[] book = new int[MAX_NOTES];
        private final int[] sort = new int[MAX_NOTES];
        private final int[] one = new int[MAX_NOTES];
        private final int[] other = new int[MAX_NOTES];
        private int count;

        void add(int inBook, int ofSort, int first, int second) {
            book[count] = inBook;
            sort[count] = ofSort;
            one[count] = first;
            other[count] = second;
            count++;
        }

        boolean areSo(int books, Mornings mornings, int cast) {
            for (int i = 0; i < count; i++) {
                if (isBitSet(books, book[i]) && !isSo(i, mornings, cast)) {
                    return false;
                }
            }
            return true;
        }

        private boolean isSo(int i, Mornings mornings, int cast) {
            switch (sort[i]) {
                case HEARD: return mornings.wasHeard(cast, one[i], other[i]);
                case UNHEARD: return !mornings.wasHeard(cast, one[i], other[i]);
                case THING: return mornings.roomOfThing(cast, one[i]) == other[i];
                default: return mornings.howIsDoor(cast, one[i]) == other[i];
            }
        }
    }

    /**
     * All casts of an inn, and those of them that fit. What a cast comes to by morning
     * hangs on the inn and the setting alone, so it is tried once: without a setting
     * when the inn is told, since every note asks for that, else when it is asked for first.
     */
    private static final class Casts {
        private final Night trial;
        private Inn inn;
        private int count;
        /** A row for each cast; the first is of dream 0 alone, whatever the inn. */
        private final int[] dreams = new int[MAX_CASTS * MAX_SLEEPERS];
        private final Mornings plain = new Mornings();
        private final Mornings set = new Mornings();
        private final boolean[] tried = new boolean[MAX_SETTINGS];
        /** Of each setting and cast the first cast that has the same morning. */
        private final int[] kin = new int[MAX_SETTINGS * MAX_CASTS];
        private int fitting;
        private final int[] fitters = new int[MAX_CASTS];

        Casts(Inn inn) {
            this.inn = inn;
            trial = new Night(inn);
        }

        void moveTo(Inn other) {
            inn = other;
            for (int setting = 0; setting < MAX_SETTINGS; setting++) {
                tried[setting] = false;
            }
            count = 1;
            for (int s = 0; s < inn.sleepers; s++) {
                count *= inn.dreams;
            }
            for (int cast = 1; cast < count; cast++) {
                fillFromBefore(cast);
            }
        }

        private void fillFromBefore(int cast) {
            int row = cast * MAX_SLEEPERS;
            System.arraycopy(dreams, row - MAX_SLEEPERS, dreams, row, MAX_SLEEPERS);
            for (int s = inn.sleepers - 1; s >= 0; s--) {
                dreams[row + s]++;
                if (dreams[row + s] < inn.dreams) {
                    return;
                }
                dreams[row + s] = 0;
            }
        }

        /** Finds by trial what mornings the casts come to with the settings that aren't tried yet. */
        void tryOut(int firstSetting, int lastSetting) {
            for (int setting = firstSetting; setting <= lastSetting; setting++) {
                if (tried[setting]) {
                    continue;
                }
                tried[setting] = true;
                Mornings mornings = setting == 0 ? plain : set;
                trial.prepare(inn, setting);
                for (int cast = 0; cast < count; cast++) {
                    trial.begin(dreams, cast * MAX_SLEEPERS);
                    trial.pass(inn.minutes);
                    mornings.keep(cast, trial);
                    kin[setting * MAX_CASTS + cast] = mornings.firstLike(cast);
                }
            }
        }

        /** Finds the casts that fit, for the calls that follow: how many. */
        int gather(Notes notes, int books) {
            fitting = 0;
            for (int cast = 0; cast < count; cast++) {
                if (notes.areSo(books, plain, cast)) {
                    fitters[fitting] = cast;
                    fitting++;
                }
            }
            return fitting;
        }

        int dreamIn(int i, int sleeper) {
            return dreams[fitters[i] * MAX_SLEEPERS + sleeper];
        }

        int commonDream(int sleeper) {
            for (int i = 1; i < fitting; i++) {
                if (dreamIn(i, sleeper) != dreamIn(0, sleeper)) {
                    return NOTHING;
                }
            }
            return dreamIn(0, sleeper);
        }

        private boolean areSame(int i, int j, int setting) {
            int row = setting * MAX_CASTS;
            return kin[row + fitters[i]] == kin[row + fitters[j]];
        }

        int mostAlike(int setting, int other) {
            int most = 0;
            for (int i = 0; i < fitting; i++) {
                int same = 0;
                for (int j = 0; j < fitting; j++) {
                    if (areSame(i, j, setting) && areSame(i, j, other)) {
                        same++;
                    }
                }
                most = Math.max(most, same);
            }
            return most;
        }

        int bestSetting() {
            int best = 0;
            int least = mostAlike(0, 0);
            for (int setting = 1; setting < inn.settings(); setting++) {
                int most = mostAlike(setting, setting);
                if (most < least) {
                    least = most;
                    best = setting;
                }
            }
            return best;
        }

        boolean areAlike(int i, int j) {
            for (int setting = 0; setting < inn.settings(); setting++) {
                if (!areSame(i, j, setting)) {
                    return false;
                }
            }
            return true;
        }

        int alikePairs() {
            int pairs = 0;
            for (int i = 0; i < fitting; i++) {
                for (int j = i + 1; j < fitting; j++) {
                    if (areAlike(i, j)) {
                        pairs++;
                    }
                }
            }
            return pairs;
        }
    }
}

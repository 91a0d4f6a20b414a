import java.util.Arrays;
import java.util.NoSuchElementException;

/** One dream for the whole street. The document's promises are named by number at the face. */
public final class StreetDreams {
    public static final int NONE = -1;

    private static final int LAST = 300;
    private static final int MINUTES = 301;
    private static final int TAPE_MOST = 600;
    private static final int SMALL_TEXT_MOST = 150;
    private static final int CLAUSES_MOST = 60;
    private static final int SLEEPERS_MOST = 8;
    private static final int DOORS_MOST = 10;
    private static final int SORTS = 6;
    private static final int NOISES_MOST = 12;
    private static final int TWINS_MOST = 3;
    private static final int DREAMERS_MOST = 4;
    private static final int LINES_MOST = 12;
    private static final int BLOCKS_MOST = 6;
    private static final int NOTS_MOST = 6;
    private static final int CHANGES_MOST = 20;
    private static final int IMAGES_MOST = 3;
    private static final int ROUND_MOST = 6;
    private static final int ORDERS_MOST = 720;
    private static final int ORDER_DIGITS = 1000000;

    private static final int FAULT_WRONG = 1;
    private static final int FAULT_NUMBER = 2;
    private static final int FAULT_MANY = 3;

    private static final int REFUSED_INDEX = 0;
    private static final int REFUSED_ELEMENT = 1;
    private static final int REFUSED_ARGUMENT = 2;
    private static final int REFUSED_STATE = 3;
    private static final int REASONS = 4;

    private final Tape tape;
    private final int[] refused;
    private final Will[] wills;
    private final Plan[] images;
    private final Hours hours;
    private final Ways ways;
    private final Night toldNight;
    private final Night trialNight;
    private final Puzzle puzzle;
    private final Walks walks;
    private Street now;
    private Street spareStreet;
    private Will spareWill;
    private Book lines;
    private Book spareBook;
    private int imageCount;
    private int faultPlace;
    private boolean hoursStale;
    private boolean nightStale;

    /** Promise 1. */
    public StreetDreams() {
        tape = new Tape();
        refused = new int[REASONS];
        wills = new Will[DREAMERS_MOST];
        for (int i = 0; i < DREAMERS_MOST; i++) {
            wills[i] = new Will();
        }
        images = new Plan[IMAGES_MOST];
        for (int i = 0; i < IMAGES_MOST; i++) {
            images[i] = new Plan();
        }
        hours = new Hours();
        ways = new Ways();
        toldNight = new Night();
        trialNight = new Night();
        puzzle = new Puzzle();
        walks = new Walks();
        now = new Street();
        spareStreet = new Street();
        spareWill = new Will();
        lines = new Book();
        spareBook = new Book();
        faultPlace = NONE;
        hoursStale = true;
        nightStale = true;
    }

    // ---- refusals

    private void needRoom(int room) {
        if (room < 0 || room >= now.sleepers) {
            refused[REFUSED_INDEX]++;
            throw new IndexOutOfBoundsException("no such room");
        }
    }

    private void needRooms(int a, int b) {
        needRoom(a);
        needRoom(b);
    }

    private void needOne(int number, int many) {
        if (number < 0 || number >= many) {
            refused[REFUSED_ELEMENT]++;
            throw new NoSuchElementException("no such sleeper, door or dreamer");
        }
    }

    private void needThat(boolean fits) {
        if (!fits) {
            refused[REFUSED_ARGUMENT]++;
            throw new IllegalArgumentException("an argument that is none such");
        }
    }

    private void needWhat(int what, int most) {
        needThat(what >= 0 && what <= most);
    }

    private void needMinute(int minute) {
        needThat(isMinute(minute));
    }

    private static boolean isMinute(int minute) {
        return minute >= 0 && minute <= LAST;
    }

    private static boolean within(int bits, int many) {
        return bits >> many == 0;
    }

    // ---- what is worked out again only when something has changed

    private void changed() {
        hoursStale = true;
        nightStale = true;
    }

    private Hours freshHours() {
        if (hoursStale) {
            hours.fill(now);
            hoursStale = false;
        }
        return hours;
    }

    private Night freshNight() {
        if (nightStale) {
            Hours h = freshHours();
            toldNight.begin(now);
            toldNight.play(now, wills, h, h.there, 0, 0, LAST);
            nightStale = false;
        }
        return toldNight;
    }

    private int trialLost(int[] row, int extra) {
        trialNight.begin(now);
        trialNight.play(now, wills, freshHours(), row, extra, 0, LAST);
        return trialNight.lostBits(now);
    }

    // ---- texts

    /** Promise 2. */
    public int feed(int a, int b, int c, int d, int e) {
        if (!tape.takes(20)) {
            return NONE;
        }
        tape.put(a);
        tape.put(b);
        tape.put(c);
        tape.put(d);
        tape.put(e);
        return tape.filled;
    }

    /** Promise 3. */
    public int street(int n) throws IllegalArgumentException {
        needThat(n >= 0 && n <= tape.filled);
        tape.begin(n);
        spareStreet.read(tape);
        if (endText()) {
            return tape.kind - 10;
        }
        Street old = now;
        now = spareStreet;
        spareStreet = old;
        for (int i = 0; i < DREAMERS_MOST; i++) {
            wills[i].clear();
        }
        lines.clear();
        imageCount = 0;
        changed();
        return now.sleepers;
    }

    /** Promise 4. */
    public int will(int dreamer, int n) throws NoSuchElementException, IllegalArgumentException {
        needOne(dreamer, now.dreamers);
        needThat(n >= 0 && n <= tape.filled && n <= SMALL_TEXT_MOST);
        tape.begin(n);
        spareWill.read(tape, now.sleepers, now.doors);
        if (endText()) {
            return tape.kind - 10;
        }
        Will old = wills[dreamer];
        wills[dreamer] = spareWill;
        spareWill = old;
        changed();
        return wills[dreamer].steps;
    }

    /** Promise 5. */
    public int book(int n) throws IllegalArgumentException {
        needThat(n >= 0 && n <= tape.filled && n <= SMALL_TEXT_MOST);
        tape.begin(n);
        spareBook.read(tape);
        if (endText()) {
            return tape.kind - 10;
        }
        Book old = lines;
        lines = spareBook;
        spareBook = old;
        return lines.size;
    }

    /** Empties the tape and notes the fault: whether there was one. */
    private boolean endText() {
        tape.filled = 0;
        faultPlace = tape.place;
        return tape.failed();
    }

    /** Promise 6. */
    public int fault() {
        return faultPlace;
    }

    // ---- what was told

    /** Promise 7. */
    public int told(int what) throws IllegalArgumentException {
        needWhat(what, 7);
        switch (what) {
            case 0:
                return now.sleepers;
            case 1:
                return now.doors;
            case 2:
                return now.plan.noises;
            case 3:
                return now.twins;
            case 4:
                return now.dreamers;
            case 5:
                return now.milk;
            case 6:
                return now.plan.kept;
            default:
                return lines.size;
        }
    }

    /** Promise 8. */
    public int sleeper(int sleeper, int what) throws NoSuchElementException, IllegalArgumentException {
        needOne(sleeper, now.sleepers);
        needWhat(what, 3);
        switch (what) {
            case 0:
                return now.plan.from[sleeper];
            case 1:
                return now.plan.until[sleeper];
            case 2:
                return now.odds[sleeper];
            default:
                return now.twinOf[sleeper];
        }
    }

    /** Promise 9. */
    public int door(int door, int what) throws NoSuchElementException, IllegalArgumentException {
        needOne(door, now.doors);
        needWhat(what, 3);
        switch (what) {
            case 0:
                return now.doorA[door];
            case 1:
                return now.doorB[door];
            case 2:
                return now.firstOpen >> door & 1;
            default:
                return now.sortsOf(door);
        }
    }

    /** Promise 10. */
    public int noise(int i, int what) throws IllegalArgumentException {
        needWhat(what, 1);
        if (i < 0 || i >= now.plan.noises) {
            return NONE;
        }
        return what == 0 ? now.plan.noiseMinute[i] : now.plan.noiseSort[i];
    }

    // ---- the night

    /** Promise 11. */
    public boolean sleeps(int sleeper, int minute) throws NoSuchElementException, IllegalArgumentException {
        needOne(sleeper, now.sleepers);
        needMinute(minute);
        return (freshHours().asleep[minute] >> sleeper & 1) != 0;
    }

    /** Promise 12. */
    public boolean there(int room, int minute) throws IndexOutOfBoundsException, IllegalArgumentException {
        needRoom(room);
        needMinute(minute);
        return (freshHours().there[minute] >> room & 1) != 0;
    }

    /** Promise 13. */
    public boolean open(int door, int minute) throws NoSuchElementException, IllegalArgumentException {
        needOne(door, now.doors);
        needMinute(minute);
        return (freshNight().doorRow[minute] >> door & 1) != 0;
    }

    /** Promise 14. */
    public int where(int dreamer, int minute) throws NoSuchElementException, IllegalArgumentException {
        needOne(dreamer, now.dreamers);
        needMinute(minute);
        return freshNight().placeOf(dreamer, minute);
    }

    /** Promise 15. */
    public int night(int dreamer, int what) throws NoSuchElementException, IllegalArgumentException {
        needOne(dreamer, now.dreamers);
        needWhat(what, 5);
        Walker w = freshNight().walkers[dreamer];
        switch (what) {
            case 0:
                return w.lostIn;
            case 1:
                return w.went;
            case 2:
                return w.failed;
            case 3:
                return w.called;
            case 4:
                return w.company;
            default:
                return w.stuck ? 1 : 0;
        }
    }

    /** Promise 16. */
    public int lost() {
        return freshNight().lostBits(now);
    }

    // ---- ways

    /** Promise 17. */
    public int cut(int room, int minute) throws IndexOutOfBoundsException, IllegalArgumentException {
        needRoom(room);
        needMinute(minute);
        return ways.cutFrom(now, freshHours(), room, minute);
    }

    /** Promise 18. */
    public int soonest(int a, int minute, int b) throws IndexOutOfBoundsException, IllegalArgumentException {
        needRooms(a, b);
        needMinute(minute);
        return ways.first(now, freshHours(), 0, a, minute, b);
    }

    /** Promise 19. */
    public int way(int a, int minute, int b, int t) throws IndexOutOfBoundsException, IllegalArgumentException {
        needRooms(a, b);
        needThat(isMinute(minute) && isMinute(t));
        return ways.roomIn(now, freshHours(), a, minute, b, t);
    }

    /** Promise 20. */
    public int latest(int a, int b, int minute) throws IndexOutOfBoundsException, IllegalArgumentException {
        needRooms(a, b);
        needMinute(minute);
        return ways.lastStart(now, freshHours(), a, b, minute);
    }

    /** Promise 21. */
    public int keep(int sleepers) throws IllegalArgumentException {
        needThat(within(sleepers, now.sleepers));
        int old = now.plan.kept;
        now.plan.kept = sleepers;
        changed();
        return old;
    }

    /** Promise 22. */
    public int fewest(int a, int minute, int b) throws IndexOutOfBoundsException, IllegalArgumentException {
        needRooms(a, b);
        needMinute(minute);
        return ways.leastSet(now, freshHours(), a, b, minute, false);
    }

    /** Promise 23. */
    public int meet(int a, int b, int minute) throws IndexOutOfBoundsException, IllegalArgumentException {
        needRooms(a, b);
        needMinute(minute);
        return ways.leastSet(now, freshHours(), a, b, minute, true);
    }

    /** Promise 24. */
    public int met(int a, int b, int minute) throws IndexOutOfBoundsException, IllegalArgumentException {
        needRooms(a, b);
        needMinute(minute);
        return ways.together(now, freshHours(), 0, a, b, minute);
    }

    // ---- noises, lines, odds

    /** Promise 25. */
    public int order(int open, int shut, int what) throws IllegalArgumentException {
        needThat(within(open, now.doors) && within(shut, now.doors) && (open & shut) == 0);
        needWhat(what, 1);
        int set = puzzle.leastSorts(now, open, shut);
        if (set == NONE) {
            return NONE;
        }
        return what == 0 ? Integer.bitCount(set) : Puzzle.digits(set);
    }

    /** Promise 26. */
    public int whose() {
        Hours h = freshHours();
        int bits = 0;
        for (int k = 0; k < now.sleepers; k++) {
            if (lines.isRightOf(k, h.there)) {
                bits |= 1 << k;
            }
        }
        return bits;
    }

    /** Promise 27. */
    public int want(int n, int what) throws IllegalArgumentException {
        needThat(n >= 0 && n <= 8);
        needWhat(what, 1);
        puzzle.playOut(now, n);
        return what == 0 ? puzzle.openAtBest : puzzle.firstCall;
    }

    /** Promise 28. */
    public long surest(int a, int b, int what) throws IndexOutOfBoundsException, IllegalArgumentException {
        needRooms(a, b);
        needWhat(what, 3);
        walks.seek(now, a, b);
        if (walks.bestLength == 0) {
            return NONE;
        }
        switch (what) {
            case 0:
                return walks.above();
            case 1:
                return walks.below();
            case 2:
                return walks.bestLength;
            default:
                return walks.bestDigits;
        }
    }

    /** Promise 29. */
    public int drawn(int seed, int what) throws IllegalArgumentException {
        needWhat(what, 2);
        Hours h = freshHours();
        int woken = h.draw(now, seed);
        switch (what) {
            case 0:
                return trialLost(h.trial, 0);
            case 1:
                return lastOf(h.trial) + 1;
            default:
                return now.sleepers - Integer.bitCount(woken);
        }
    }

    /** Promise 30. */
    public int span(int seed, int many, int what) throws IllegalArgumentException {
        needThat(many >= 1 && many <= 20);
        needWhat(what, 2);
        Hours h = freshHours();
        int least = DREAMERS_MOST;
        int most = 0;
        int nobody = 0;
        for (int i = 0; i < many; i++) {
            h.draw(now, seed + i);
            int gone = Integer.bitCount(trialLost(h.trial, 0));
            least = Math.min(least, gone);
            most = Math.max(most, gone);
            nobody += gone == 0 ? 1 : 0;
        }
        return what == 0 ? least : what == 1 ? most : nobody;
    }

    /** Promise 31. */
    public int round(int what) throws IllegalArgumentException, IllegalStateException {
        needWhat(what, 1);
        if (now.sleepers > ROUND_MOST) {
            refused[REFUSED_STATE]++;
            throw new IllegalStateException("more than six sleepers");
        }
        int best = bestRound();
        return what == 0 ? best / ORDER_DIGITS : best % ORDER_DIGITS;
    }

    /** How many are lost, and behind it the six digits of the order: the least such number is the best round. */
    private int bestRound() {
        Hours h = freshHours();
        h.firstOrder();
        if (now.milk < 0) {
            return Integer.bitCount(freshNight().lostBits(now)) * ORDER_DIGITS + h.orderDigits(now.sleepers);
        }
        // No order changes anything ahead of the milkman's first minute, so that part is played once.
        trialNight.begin(now);
        trialNight.play(now, wills, h, h.there, 0, 0, now.milk - 1);
        trialNight.save();
        int best = (DREAMERS_MOST + 1) * ORDER_DIGITS;
        boolean more = true;
        for (int i = 0; i < ORDERS_MOST && more; i++) {
            best = Math.min(best, roundLost(h) * ORDER_DIGITS + h.orderDigits(now.sleepers));
            more = h.nextOrder(now.sleepers);
        }
        return best;
    }

    /** How many are lost if the milkman goes in the order that the hours hold. */
    private int roundLost(Hours h) {
        // Behind the last waking the rooms stay as they are: who is in one of them by then is safe.
        int calm = Math.min(LAST, now.milk + now.sleepers - 1);
        h.wakeInOrder(now);
        trialNight.load();
        trialNight.play(now, wills, h, h.trial, 0, now.milk, calm);
        int bits = trialNight.lostBits(now);
        int rooms = now.roomsOf(now.plan.kept);
        for (int d = 0; d < now.dreamers; d++) {
            if (now.comesIn[d] > calm && (rooms >> now.comesTo[d] & 1) == 0) {
                bits |= 1 << d;
            }
        }
        return Integer.bitCount(bits);
    }

    // ---- counts over the night

    /** Promise 32. */
    public int asleep(int minute) throws IllegalArgumentException {
        needMinute(minute);
        return freshHours().asleep[minute];
    }

    /** Promise 33. */
    public int rooms(int minute) throws IllegalArgumentException {
        needMinute(minute);
        return freshHours().there[minute];
    }

    /** Promise 34. */
    public int lasting(int room, int what) throws IndexOutOfBoundsException, IllegalArgumentException {
        needRoom(room);
        needWhat(what, 1);
        int[] row = freshHours().there;
        int longest = 0;
        int first = NONE;
        int length = 0;
        for (int m = 0; m < MINUTES; m++) {
            length = (row[m] >> room & 1) != 0 ? length + 1 : 0;
            if (length > longest) {
                longest = length;
                first = m - length + 1;
            }
        }
        return what == 0 ? longest : first;
    }

    /** Promise 35. */
    public int reach(int room, int minute, int to) throws IndexOutOfBoundsException, IllegalArgumentException {
        needRoom(room);
        needThat(isMinute(minute) && isMinute(to) && minute <= to);
        return ways.reached(now, freshHours(), room, minute, to);
    }

    /** Promise 36. */
    public int far(int a, int b) throws IndexOutOfBoundsException {
        needRooms(a, b);
        return walks.doorsBetween(now, a, b);
    }

    /** Promise 37. */
    public int quiet() {
        return MINUTES - now.plan.noisyMinutes();
    }

    /** Promise 38. */
    public int lonely(int room) throws IndexOutOfBoundsException {
        needRoom(room);
        int[] row = freshHours().there;
        Night n = freshNight();
        int minutes = 0;
        for (int m = 0; m < MINUTES; m++) {
            if ((row[m] >> room & 1) != 0 && n.placedIn(now, room, m) == 0) {
                minutes++;
            }
        }
        return minutes;
    }

    /** Promise 39. */
    public int ends() {
        return lastOf(freshHours().there);
    }

    private static int lastOf(int[] row) {
        int last = NONE;
        for (int m = 0; m < row.length; m++) {
            if (row[m] != 0) {
                last = m;
            }
        }
        return last;
    }

    /** Promise 40. */
    public int crowd(int what) throws IllegalArgumentException {
        needWhat(what, 1);
        Night n = freshNight();
        int most = 0;
        int first = NONE;
        for (int m = 0; m < MINUTES; m++) {
            for (int room = 0; room < now.sleepers; room++) {
                int many = n.placedIn(now, room, m);
                if (many > most) {
                    most = many;
                    first = m;
                }
            }
        }
        return what == 0 ? most : first;
    }

    /** Promise 41. */
    public int often(int door) throws NoSuchElementException {
        needOne(door, now.doors);
        int[] row = freshHours().doors;
        int minutes = 0;
        for (int m = 0; m < MINUTES; m++) {
            minutes += row[m] >> door & 1;
        }
        return minutes;
    }

    /** Promise 42. */
    public int help() {
        Hours h = freshHours();
        int best = NONE;
        int least = DREAMERS_MOST + 1;
        for (int k = 0; k < now.sleepers; k++) {
            if ((now.plan.kept >> k & 1) == 0) {
                int many = Integer.bitCount(trialLost(h.there, now.roomsOf(1 << k)));
                if (many < least) {
                    least = many;
                    best = k;
                }
            }
        }
        return best;
    }

    /** Promise 43. */
    public int stranded(int minute) throws IllegalArgumentException {
        needMinute(minute);
        return ways.strandedIn(now, freshHours(), minute);
    }

    // ---- changes and images

    /** Promise 44. */
    public int make(int minute, int sort) throws IllegalArgumentException {
        needThat(isMinute(minute) && sort >= 0 && sort < SORTS);
        if (!now.plan.addNoise(minute, sort)) {
            return -1;
        }
        changed();
        return now.plan.noises;
    }

    /** Promise 45. */
    public int hush(int i) {
        if (!now.plan.dropNoise(i)) {
            return -1;
        }
        changed();
        return now.plan.noises;
    }

    /** Promise 46. */
    public int sleep(int sleeper, int from, int to) throws NoSuchElementException, IllegalArgumentException {
        needOne(sleeper, now.sleepers);
        needThat(isMinute(from) && isMinute(to) && from <= to);
        if (!now.plan.moveSleep(sleeper, from, to)) {
            return 0;
        }
        changed();
        return 1;
    }

    /** Promise 47. */
    public int undo() {
        if (!now.plan.takeBack()) {
            return -1;
        }
        changed();
        return now.plan.changes;
    }

    /** Promise 48. */
    public int image() {
        if (imageCount >= IMAGES_MOST) {
            return -1;
        }
        images[imageCount].copyFrom(now.plan);
        imageCount++;
        return imageCount;
    }

    /** Promise 49. */
    public int restore() {
        if (imageCount <= 0) {
            return -1;
        }
        imageCount--;
        now.plan.copyFrom(images[imageCount]);
        changed();
        return imageCount;
    }

    /** Promise 50. */
    public int status(int what) {
        return what >= 0 && what < REASONS ? refused[what] : NONE;
    }

    /** Promise 51. */
    public int count(int what) {
        switch (what) {
            case 0:
                return imageCount;
            case 1:
                return tape.filled;
            case 2:
                return now.plan.changes;
            default:
                return NONE;
        }
    }

    /** The bytes fed, and the reading of a text from them; behind the first fault nothing more is read. */
    private static final class Tape {
        // Any number above this is out of every range, however many digits follow.
        private static final int LARGE = 100000;

        private final byte[] bytes = new byte[TAPE_MOST];
        private int filled;
        private int length;
        private int at;
        private int wordFrom;
        private int wordTo;
        private int numberFrom;
        private int kind;
        private int place;

        boolean takes(int many) {
            return filled + many <= TAPE_MOST;
        }

        void put(int number) {
            if (takes(4)) {
                bytes[filled] = (byte) (number >> 24);
                bytes[filled + 1] = (byte) (number >> 16);
                bytes[filled + 2] = (byte) (number >> 8);
                bytes[filled + 3] = (byte) number;
                filled += 4;
            }
        }

        void begin(int n) {
            length = Math.max(0, Math.min(n, TAPE_MOST));
            at = 0;
            kind = 0;
            place = NONE;
        }

        boolean failed() {
            return kind != 0;
        }

        void refuse(int newKind, int newPlace) {
            if (kind == 0) {
                kind = newKind;
                place = newPlace;
            }
        }

        private void skipBlanks() {
            while (at < length && bytes[at] == ' ') {
                at++;
            }
        }

        boolean finished() {
            skipBlanks();
            return at >= length;
        }

        boolean nextIs(char sign) {
            skipBlanks();
            return at < length && bytes[at] == sign;
        }

        void sign(char sign) {
            if (failed()) {
                return;
            }
            if (nextIs(sign)) {
                at++;
            } else {
                refuse(FAULT_WRONG, at);
            }
        }

        void word() {
            if (failed()) {
                return;
            }
            skipBlanks();
            wordFrom = at;
            while (at < length && bytes[at] >= 'a' && bytes[at] <= 'z') {
                at++;
            }
            wordTo = at;
            if (wordTo == wordFrom) {
                refuse(FAULT_WRONG, at);
            }
        }

        boolean wordIs(String word) {
            if (failed() || wordTo - wordFrom != word.length()) {
                return false;
            }
            for (int i = 0; i < word.length(); i++) {
                if (bytes[wordFrom + i] != word.charAt(i)) {
                    return false;
                }
            }
            return true;
        }

        /** Goes on behind this word if it stands next; else stays where it was. */
        boolean takesWord(String word) {
            if (failed()) {
                return false;
            }
            skipBlanks();
            if (at >= length || bytes[at] < 'a' || bytes[at] > 'z') {
                return false;
            }
            int back = at;
            word();
            if (wordIs(word)) {
                return true;
            }
            at = back;
            return false;
        }

        void refuseWord(int newKind) {
            refuse(newKind, wordFrom);
        }

        void refuseNumber() {
            refuse(FAULT_NUMBER, numberFrom);
        }

        /** Whether there is room for what the word begins; else it is one too many. */
        boolean fits(boolean room) {
            if (!room) {
                refuseWord(FAULT_MANY);
            }
            return !failed();
        }

        int number(int least, int most) {
            if (failed()) {
                return 0;
            }
            skipBlanks();
            numberFrom = at;
            int value = 0;
            while (at < length && bytes[at] >= '0' && bytes[at] <= '9') {
                value = value >= LARGE ? value : value * 10 + bytes[at] - '0';
                at++;
            }
            if (at == numberFrom) {
                refuse(FAULT_WRONG, at);
            } else if (value < least || value > most) {
                refuseNumber();
            }
            return failed() ? 0 : value;
        }
    }

    /** What an image holds: noises, the sleepers' minutes, who is kept, and the changes that can be undone. */
    private static final class Plan {
        private static final int MADE = 0;
        private static final int HUSHED = 1;
        private static final int MOVED = 2;

        private final int[] noiseMinute = new int[NOISES_MOST];
        private final int[] noiseSort = new int[NOISES_MOST];
        private final int[] from = new int[SLEEPERS_MOST];
        private final int[] until = new int[SLEEPERS_MOST];
        private final int[] changeKind = new int[CHANGES_MOST];
        private final int[] changeOf = new int[CHANGES_MOST];
        private final int[] oldFirst = new int[CHANGES_MOST];
        private final int[] oldSecond = new int[CHANGES_MOST];
        private int noises;
        private int kept;
        private int changes;

        void clear() {
            noises = 0;
            kept = 0;
            changes = 0;
        }

        void copyFrom(Plan other) {
            System.arraycopy(other.noiseMinute, 0, noiseMinute, 0, NOISES_MOST);
            System.arraycopy(other.noiseSort, 0, noiseSort, 0, NOISES_MOST);
            System.arraycopy(other.from, 0, from, 0, SLEEPERS_MOST);
            System.arraycopy(other.until, 0, until, 0, SLEEPERS_MOST);
            System.arraycopy(other.changeKind, 0, changeKind, 0, CHANGES_MOST);
            System.arraycopy(other.changeOf, 0, changeOf, 0, CHANGES_MOST);
            System.arraycopy(other.oldFirst, 0, oldFirst, 0, CHANGES_MOST);
            System.arraycopy(other.oldSecond, 0, oldSecond, 0, CHANGES_MOST);
            noises = other.noises;
            kept = other.kept;
            changes = other.changes;
        }

        private void note(int kind, int of, int first, int second) {
            if (changes < CHANGES_MOST) {
                changeKind[changes] = kind;
                changeOf[changes] = of;
                oldFirst[changes] = first;
                oldSecond[changes] = second;
                changes++;
            }
        }

        void putNoise(int i, int minute, int sort) {
            if (i < 0 || i > noises || noises >= NOISES_MOST) {
                return;
            }
            for (int k = noises; k > i; k--) {
                noiseMinute[k] = noiseMinute[k - 1];
                noiseSort[k] = noiseSort[k - 1];
            }
            noiseMinute[i] = minute;
            noiseSort[i] = sort;
            noises++;
        }

        private void cutNoise(int i) {
            if (i < 0 || i >= noises) {
                return;
            }
            noises--;
            for (int k = i; k < noises; k++) {
                noiseMinute[k] = noiseMinute[k + 1];
                noiseSort[k] = noiseSort[k + 1];
            }
        }

        boolean addNoise(int minute, int sort) {
            if (noises >= NOISES_MOST || changes >= CHANGES_MOST) {
                return false;
            }
            note(MADE, noises, minute, sort);
            putNoise(noises, minute, sort);
            return true;
        }

        boolean dropNoise(int i) {
            if (i < 0 || i >= noises || changes >= CHANGES_MOST) {
                return false;
            }
            note(HUSHED, i, noiseMinute[i], noiseSort[i]);
            cutNoise(i);
            return true;
        }

        boolean moveSleep(int sleeper, int newFrom, int newUntil) {
            if (sleeper < 0 || sleeper >= SLEEPERS_MOST || changes >= CHANGES_MOST) {
                return false;
            }
            note(MOVED, sleeper, from[sleeper], until[sleeper]);
            from[sleeper] = newFrom;
            until[sleeper] = newUntil;
            return true;
        }

        boolean takeBack() {
            if (changes <= 0) {
                return false;
            }
            changes--;
            int of = changeOf[changes];
            if (changeKind[changes] == MADE) {
                cutNoise(of);
            } else if (changeKind[changes] == HUSHED) {
                putNoise(of, oldFirst[changes], oldSecond[changes]);
            } else if (of >= 0 && of < SLEEPERS_MOST) {
                from[of] = oldFirst[changes];
                until[of] = oldSecond[changes];
            }
            return true;
        }

        int noisyMinutes() {
            int minutes = 0;
            for (int i = 0; i < noises; i++) {
                boolean again = false;
                for (int k = 0; k < i; k++) {
                    again = again || noiseMinute[k] == noiseMinute[i];
                }
                minutes += again ? 0 : 1;
            }
            return minutes;
        }
    }

    /** A street as told; only its plan changes later. */
    private static final class Street {
        private final Plan plan = new Plan();
        private final int[] odds = new int[SLEEPERS_MOST];
        private final int[] twinOf = new int[SLEEPERS_MOST];
        private final int[] twinPair = new int[TWINS_MOST];
        private final int[] doorA = new int[DOORS_MOST];
        private final int[] doorB = new int[DOORS_MOST];
        private final int[] turns = new int[SORTS];
        private final int[] comesTo = new int[DREAMERS_MOST];
        private final int[] comesIn = new int[DREAMERS_MOST];
        private int sleepers;
        private int doors;
        private int twins;
        private int dreamers;
        private int firstOpen;
        private int milk = NONE;

        private void clear() {
            plan.clear();
            Arrays.fill(turns, 0);
            Arrays.fill(twinOf, NONE);
            sleepers = 0;
            doors = 0;
            twins = 0;
            dreamers = 0;
            firstOpen = 0;
            milk = NONE;
        }

        void read(Tape t) {
            clear();
            for (int i = 0; i <= CLAUSES_MOST && !t.failed() && !t.finished(); i++) {
                readClause(t, i < CLAUSES_MOST);
            }
        }

        private void readClause(Tape t, boolean room) {
            t.word();
            if (t.wordIs("sleeper")) {
                readSleeper(t, room && sleepers < SLEEPERS_MOST);
            } else if (t.wordIs("door")) {
                readDoor(t, room && doors < DOORS_MOST);
            } else if (t.wordIs("turns")) {
                readTurns(t, room);
            } else if (t.wordIs("noise")) {
                readNoise(t, room && plan.noises < NOISES_MOST);
            } else if (t.wordIs("twin")) {
                readTwin(t, room && twins < TWINS_MOST);
            } else if (t.wordIs("dreamer")) {
                readDreamer(t, room && dreamers < DREAMERS_MOST);
            } else if (t.wordIs("milk")) {
                readMilk(t, room);
            } else {
                t.refuseWord(FAULT_WRONG);
            }
        }

        private void readSleeper(Tape t, boolean room) {
            if (!t.fits(room)) {
                return;
            }
            int from = t.number(0, LAST);
            int until = t.number(from, LAST);
            int wakes = t.number(0, 15);
            t.sign(';');
            if (!t.failed()) {
                plan.from[sleepers] = from;
                plan.until[sleepers] = until;
                odds[sleepers] = wakes;
                sleepers++;
            }
        }

        private void readDoor(Tape t, boolean room) {
            if (!t.fits(room)) {
                return;
            }
            int a = t.number(0, sleepers - 1);
            int b = t.number(0, sleepers - 1);
            if (a == b) {
                t.refuseNumber();
            }
            int first = t.number(0, 1);
            t.sign(';');
            if (!t.failed()) {
                doorA[doors] = a;
                doorB[doors] = b;
                firstOpen |= first << doors;
                doors++;
            }
        }

        private void readTurns(Tape t, boolean room) {
            if (!t.fits(room)) {
                return;
            }
            int sort = t.number(0, SORTS - 1);
            int door = t.number(0, doors - 1);
            t.sign(';');
            if (!t.failed()) {
                turns[sort] |= 1 << door;
            }
        }

        private void readNoise(Tape t, boolean room) {
            if (!t.fits(room)) {
                return;
            }
            int minute = t.number(0, LAST);
            int sort = t.number(0, SORTS - 1);
            t.sign(';');
            if (!t.failed()) {
                plan.putNoise(plan.noises, minute, sort);
            }
        }

        private void readTwin(Tape t, boolean room) {
            if (!t.fits(room)) {
                return;
            }
            int a = readSingle(t);
            int b = readSingle(t);
            if (a == b) {
                t.refuseNumber();
            }
            t.sign(';');
            if (!t.failed()) {
                twinOf[a] = b;
                twinOf[b] = a;
                twinPair[twins] = 1 << a | 1 << b;
                twins++;
            }
        }

        private int readSingle(Tape t) {
            int room = t.number(0, sleepers - 1);
            if (!t.failed() && twinOf[room] != NONE) {
                t.refuseNumber();
            }
            return room;
        }

        private void readDreamer(Tape t, boolean room) {
            if (!t.fits(room)) {
                return;
            }
            int to = t.number(0, sleepers - 1);
            int minute = t.number(0, LAST);
            t.sign(';');
            if (!t.failed()) {
                comesTo[dreamers] = to;
                comesIn[dreamers] = minute;
                dreamers++;
            }
        }

        private void readMilk(Tape t, boolean room) {
            if (!t.fits(room)) {
                return;
            }
            int minute = t.number(0, LAST);
            t.sign(';');
            if (!t.failed()) {
                milk = minute;
            }
        }

        int sortsOf(int door) {
            int bits = 0;
            for (int k = 0; k < SORTS; k++) {
                bits |= (turns[k] >> door & 1) << k;
            }
            return bits;
        }

        /** The rooms that are there while these sleep. */
        int roomsOf(int sleeping) {
            int bits = sleeping;
            for (int i = 0; i < twins; i++) {
                if ((sleeping & twinPair[i]) != 0) {
                    bits |= twinPair[i];
                }
            }
            return bits;
        }

        /** The rooms behind those of these doors that are at one of these rooms. */
        int behind(int rooms, int openDoors) {
            int bits = 0;
            for (int d = 0; d < doors; d++) {
                if ((openDoors >> d & 1) != 0) {
                    bits |= (rooms >> doorA[d] & 1) << doorB[d];
                    bits |= (rooms >> doorB[d] & 1) << doorA[d];
                }
            }
            return bits;
        }
    }

    /** A will as rows of deeds; the end of a block is a deed of its own. */
    private static final class Will {
        // The first three take the minute; a jump takes neither time nor a turn.
        private static final int TO = 0;
        private static final int WAIT = 1;
        private static final int CALL = 2;
        private static final int AGAIN = 3;
        private static final int AGAIN_ENDS = 4;
        private static final int UNTIL = 5;
        private static final int IF = 6;
        private static final int JUMP = 7;

        private static final int ASK_IN = 0;
        private static final int ASK_OPEN = 1;
        private static final int ASK_THERE = 2;
        private static final int ASK_MET = 3;
        private static final int ASK_AFTER = 4;

        // No deed comes from fewer than four of the 150 bytes.
        private static final int DEEDS_MOST = 40;

        private final int[] deed = new int[DEEDS_MOST];
        private final int[] number = new int[DEEDS_MOST];
        private final int[] target = new int[DEEDS_MOST];
        // Of a question twice its kind, and 1 if it is turned by not; of an again how many blocks stand round it.
        private final int[] detail = new int[DEEDS_MOST];
        private int size;
        private int steps;
        private int rooms;
        private int doors;

        void clear() {
            size = 0;
            steps = 0;
        }

        void read(Tape t, int roomsTold, int doorsTold) {
            clear();
            rooms = roomsTold;
            doors = doorsTold;
            for (int i = 0; i < SMALL_TEXT_MOST && !t.failed() && !t.finished(); i++) {
                readStep(t, 0);
            }
        }

        private int put(int newDeed, int newNumber, int newDetail) {
            if (size < DEEDS_MOST) {
                deed[size] = newDeed;
                number[size] = newNumber;
                detail[size] = newDetail;
                target[size] = 0;
                size++;
            }
            return size - 1;
        }

        private void readStep(Tape t, int depth) {
            t.word();
            steps++;
            if (t.wordIs("to")) {
                put(TO, t.number(0, rooms - 1), 0);
            } else if (t.wordIs("wait")) {
                put(WAIT, t.number(1, 99), 0);
            } else if (t.wordIs("call")) {
                put(CALL, t.number(0, SORTS - 1), 0);
            } else if (t.wordIs("again")) {
                readAgain(t, depth);
            } else if (t.wordIs("until")) {
                readUntil(t, depth);
            } else if (t.wordIs("if")) {
                readIf(t, depth);
            } else {
                t.refuseWord(FAULT_WRONG);
            }
            t.sign(';');
        }

        private void readBlock(Tape t, int depth) {
            if (!t.failed() && depth >= BLOCKS_MOST && t.nextIs('[')) {
                t.refuse(FAULT_MANY, t.at);
            }
            t.sign('[');
            for (int i = 0; i < SMALL_TEXT_MOST && !t.failed() && !t.nextIs(']'); i++) {
                readStep(t, depth + 1);
            }
            t.sign(']');
        }

        private void readAgain(Tape t, int depth) {
            int start = put(AGAIN, t.number(0, 20), depth);
            readBlock(t, depth);
            target[put(AGAIN_ENDS, 0, depth)] = start + 1;
            target[start] = size;
        }

        private void readUntil(Tape t, int depth) {
            int start = readQuestion(t, UNTIL);
            readBlock(t, depth);
            target[put(JUMP, 0, 0)] = start;
            target[start] = size;
        }

        private void readIf(Tape t, int depth) {
            int start = readQuestion(t, IF);
            readBlock(t, depth);
            if (t.takesWord("else")) {
                int jump = put(JUMP, 0, 0);
                target[start] = size;
                readBlock(t, depth);
                target[jump] = size;
            } else {
                target[start] = size;
            }
        }

        private int readQuestion(Tape t, int asking) {
            int nots = 0;
            t.word();
            for (int i = 0; i <= NOTS_MOST && t.wordIs("not"); i++) {
                nots++;
                if (t.fits(nots <= NOTS_MOST)) {
                    t.word();
                }
            }
            int turned = nots & 1;
            if (t.wordIs("in")) {
                return put(asking, t.number(0, rooms - 1), 2 * ASK_IN + turned);
            } else if (t.wordIs("open")) {
                return put(asking, t.number(0, doors - 1), 2 * ASK_OPEN + turned);
            } else if (t.wordIs("there")) {
                return put(asking, t.number(0, rooms - 1), 2 * ASK_THERE + turned);
            } else if (t.wordIs("after")) {
                return put(asking, t.number(0, LAST), 2 * ASK_AFTER + turned);
            } else if (!t.wordIs("met")) {
                t.refuseWord(FAULT_WRONG);
            }
            return put(asking, 0, 2 * ASK_MET + turned);
        }
    }

    /** A book: in which minutes a room was seen, or gone. */
    private static final class Book {
        private final int[] minute = new int[LINES_MOST];
        private final int[] seen = new int[LINES_MOST];
        private int size;

        void clear() {
            size = 0;
        }

        void read(Tape t) {
            clear();
            for (int i = 0; i <= LINES_MOST && !t.failed() && !t.finished(); i++) {
                readLine(t);
            }
        }

        private void readLine(Tape t) {
            t.word();
            int saw = t.wordIs("seen") ? 1 : 0;
            if (saw == 0 && !t.wordIs("gone")) {
                t.refuseWord(FAULT_WRONG);
            }
            if (!t.fits(size < LINES_MOST)) {
                return;
            }
            int m = t.number(0, LAST);
            t.sign(';');
            if (!t.failed()) {
                minute[size] = m;
                seen[size] = saw;
                size++;
            }
        }

        boolean isRightOf(int room, int[] there) {
            boolean right = true;
            for (int i = 0; i < size; i++) {
                right = right && (there[minute[i]] >> room & 1) == seen[i];
            }
            return right;
        }
    }

    /** Minute by minute: who sleeps, which rooms are there, which doors are open by noises as told. */
    private static final class Hours {
        private final int[] asleep = new int[MINUTES];
        private final int[] there = new int[MINUTES];
        private final int[] doors = new int[MINUTES];
        // The rooms that are there in a night that is only tried.
        private final int[] trial = new int[MINUTES];
        private final int[] end = new int[SLEEPERS_MOST];
        private final int[] order = new int[ROUND_MOST];

        void fill(Street s) {
            Arrays.fill(asleep, s.plan.kept);
            for (int k = 0; k < s.sleepers; k++) {
                end[k] = s.milk < 0 ? s.plan.until[k] : Math.min(s.plan.until[k], s.milk + k);
                for (int m = s.plan.from[k]; m < end[k] && m < MINUTES; m++) {
                    asleep[m] |= 1 << k;
                }
            }
            for (int m = 0; m < MINUTES; m++) {
                there[m] = s.roomsOf(asleep[m]);
            }
            fillDoors(s);
        }

        private void fillDoors(Street s) {
            Arrays.fill(doors, 0);
            for (int i = 0; i < s.plan.noises; i++) {
                doors[s.plan.noiseMinute[i]] ^= s.turns[s.plan.noiseSort[i]];
            }
            int open = s.firstOpen;
            for (int m = 0; m < MINUTES; m++) {
                open ^= doors[m];
                doors[m] = open;
            }
        }

        /** The doors that the noises as told turn in a minute. */
        int turned(Street s, int m) {
            return doors[m] ^ (m == 0 ? s.firstOpen : doors[m - 1]);
        }

        /** Fills the trial row by draws; who was woken by them. */
        int draw(Street s, int seed) {
            int woken = 0;
            int drawn = seed;
            for (int m = 0; m < MINUTES; m++) {
                int sleeping = s.plan.kept;
                for (int k = 0; k < s.sleepers; k++) {
                    int bit = 1 << k;
                    if ((asleep[m] & ~s.plan.kept & ~woken & bit) != 0) {
                        drawn = drawn * 1103515245 + 12345;
                        if ((drawn >>> 16 & 1023) < s.odds[k]) {
                            woken |= bit;
                        } else {
                            sleeping |= bit;
                        }
                    }
                }
                trial[m] = s.roomsOf(sleeping);
            }
            return woken;
        }

        void firstOrder() {
            for (int i = 0; i < ROUND_MOST; i++) {
                order[i] = i;
            }
        }

        /** The next order of the first so many: whether there is one. */
        boolean nextOrder(int many) {
            int i = Math.min(many, ROUND_MOST) - 2;
            while (i >= 0 && order[i] > order[i + 1]) {
                i--;
            }
            if (i < 0) {
                return false;
            }
            int k = Math.min(many, ROUND_MOST) - 1;
            while (k > i && order[k] < order[i]) {
                k--;
            }
            swap(i, k);
            int high = Math.min(many, ROUND_MOST) - 1;
            for (int low = i + 1; low < high; low++) {
                swap(low, high);
                high--;
            }
            return true;
        }

        private void swap(int i, int k) {
            int held = order[i];
            order[i] = order[k];
            order[k] = held;
        }

        int orderDigits(int many) {
            int digits = 0;
            for (int i = 0; i < many && i < ROUND_MOST; i++) {
                digits = digits * 10 + order[i];
            }
            return digits;
        }

        /** Fills the trial row from the milkman's first minute to that of his last waking. */
        void wakeInOrder(Street s) {
            for (int i = 0; i < s.sleepers && i < ROUND_MOST && s.milk + i < MINUTES; i++) {
                int m = s.milk + i;
                int sleeping = s.plan.kept;
                for (int later = i + 1; later < s.sleepers && later < ROUND_MOST; later++) {
                    int k = order[later];
                    if (s.plan.from[k] <= m && m < s.plan.until[k]) {
                        sleeping |= 1 << k;
                    }
                }
                trial[m] = s.roomsOf(sleeping);
            }
        }
    }

    /** Ways of nobody told; "extra" are rooms that are there in all minutes besides. */
    private static final class Ways {
        private final int[] good = new int[MINUTES];

        private static int next(Street s, Hours h, int extra, int rooms, int minute) {
            return (rooms | s.behind(rooms, h.doors[minute])) & (h.there[minute] | extra);
        }

        private static int start(Hours h, int extra, int room, int minute) {
            return 1 << room & (h.there[minute] | extra);
        }

        int cutFrom(Street s, Hours h, int room, int minute) {
            int seen = start(h, 0, room, minute);
            for (int i = 0; i < SLEEPERS_MOST; i++) {
                seen = next(s, h, 0, seen, minute);
            }
            return h.there[minute] & ~seen;
        }

        int first(Street s, Hours h, int extra, int a, int minute, int b) {
            int rooms = start(h, extra, a, minute);
            for (int m = minute; m <= LAST && rooms != 0; m++) {
                if (m > minute) {
                    rooms = next(s, h, extra, rooms, m);
                }
                if ((rooms >> b & 1) != 0) {
                    return m;
                }
            }
            return NONE;
        }

        int reached(Street s, Hours h, int a, int minute, int to) {
            int rooms = start(h, 0, a, minute);
            for (int m = minute + 1; m <= to; m++) {
                rooms = next(s, h, 0, rooms, m);
            }
            return rooms;
        }

        /** Fills, down to a minute, the rooms from which one can be in these in the last minute, or ahead in "also". */
        private void lookBack(Street s, Hours h, int rooms, int also, int last, int minute) {
            good[last] = rooms & h.there[last];
            for (int m = last - 1; m >= minute; m--) {
                good[m] = (good[m + 1] | s.behind(good[m + 1], h.doors[m + 1]) | also) & h.there[m];
            }
        }

        int roomIn(Street s, Hours h, int a, int minute, int b, int t) {
            int end = first(s, h, 0, a, minute, b);
            if (end == NONE || t < minute) {
                return NONE;
            }
            if (t >= end) {
                return b;
            }
            lookBack(s, h, 1 << b, 0, end, minute);
            int at = 1 << a;
            for (int m = minute + 1; m <= t; m++) {
                at = Integer.lowestOneBit(next(s, h, 0, at, m) & good[m]);
            }
            return Integer.numberOfTrailingZeros(at);
        }

        int lastStart(Street s, Hours h, int a, int b, int minute) {
            lookBack(s, h, 1 << b, 1 << b, minute, 0);
            for (int m = minute; m >= 0; m--) {
                if ((good[m] >> a & 1) != 0) {
                    return m;
                }
            }
            return NONE;
        }

        int strandedIn(Street s, Hours h, int minute) {
            lookBack(s, h, h.there[LAST], 0, LAST, minute);
            return h.there[minute] & ~good[minute];
        }

        int together(Street s, Hours h, int extra, int a, int b, int minute) {
            int one = start(h, extra, a, minute);
            int other = start(h, extra, b, minute);
            for (int m = minute; m <= LAST && one != 0 && other != 0; m++) {
                if (m > minute) {
                    one = next(s, h, extra, one, m);
                    other = next(s, h, extra, other, m);
                }
                if ((one & other) != 0) {
                    return m;
                }
            }
            return NONE;
        }

        /** The fewest to be kept so that one gets from a to b, or so that two meet. */
        int leastSet(Street s, Hours h, int a, int b, int minute, boolean meeting) {
            int all = (1 << s.sleepers) - 1;
            // More who are kept never close a way: what all can't do, none can.
            if (!works(s, h, all, a, b, minute, meeting)) {
                return NONE;
            }
            int best = all;
            for (int set = 0; set < all; set++) {
                if ((set & s.plan.kept) == s.plan.kept && Integer.bitCount(set) < Integer.bitCount(best)
                        && works(s, h, set, a, b, minute, meeting)) {
                    best = set;
                }
            }
            return best;
        }

        private boolean works(Street s, Hours h, int set, int a, int b, int minute, boolean meeting) {
            int extra = s.roomsOf(set);
            if (meeting) {
                return together(s, h, extra, a, b, minute) != NONE;
            }
            return first(s, h, extra, a, minute, b) != NONE;
        }
    }

    /** A dreamer in a night. */
    private static final class Walker {
        private final int[] left = new int[BLOCKS_MOST];
        private int room;
        private int lostIn;
        private int went;
        private int failed;
        private int called;
        private int company;
        private int at;
        private int waits;
        private int turns;
        private boolean stuck;

        void clear() {
            Arrays.fill(left, 0);
            room = NONE;
            lostIn = NONE;
            went = 0;
            failed = 0;
            called = 0;
            company = 0;
            at = 0;
            waits = 0;
            turns = 0;
            stuck = false;
        }

        void copyFrom(Walker other) {
            System.arraycopy(other.left, 0, left, 0, BLOCKS_MOST);
            room = other.room;
            lostIn = other.lostIn;
            went = other.went;
            failed = other.failed;
            called = other.called;
            company = other.company;
            at = other.at;
            waits = other.waits;
            turns = other.turns;
            stuck = other.stuck;
        }
    }

    /** A night gone through minute by minute. */
    private static final class Night {
        private static final int TURNS_MOST = 60;
        // Sixty turns and the jumps between them stay far below this.
        private static final int DEEDS_MOST = 10000;

        private final Walker[] walkers = new Walker[DREAMERS_MOST];
        private final Walker[] saved = new Walker[DREAMERS_MOST];
        // Four bits a dreamer: his room and 1; 0 for none.
        private final int[] places = new int[MINUTES];
        private final int[] doorRow = new int[MINUTES];
        private int doors;
        private int savedDoors;
        private int minute;
        private int rooms;

        Night() {
            for (int i = 0; i < DREAMERS_MOST; i++) {
                walkers[i] = new Walker();
                saved[i] = new Walker();
            }
        }

        void begin(Street s) {
            for (int i = 0; i < DREAMERS_MOST; i++) {
                walkers[i].clear();
            }
            doors = s.firstOpen;
        }

        void save() {
            for (int i = 0; i < DREAMERS_MOST; i++) {
                saved[i].copyFrom(walkers[i]);
            }
            savedDoors = doors;
        }

        void load() {
            for (int i = 0; i < DREAMERS_MOST; i++) {
                walkers[i].copyFrom(saved[i]);
            }
            doors = savedDoors;
        }

        void play(Street s, Will[] wills, Hours h, int[] row, int extra, int from, int to) {
            for (int m = Math.max(from, 0); m <= to && m < MINUTES; m++) {
                minute = m;
                rooms = row[m] | extra;
                doors ^= h.turned(s, m);
                for (int d = 0; d < s.dreamers; d++) {
                    loseOrBring(walkers[d], s.comesTo[d], s.comesIn[d]);
                }
                for (int d = 0; d < s.dreamers; d++) {
                    if (walkers[d].room != NONE && s.comesIn[d] != m) {
                        act(s, walkers[d], wills[d]);
                    }
                }
                write(s);
            }
        }

        private void loseOrBring(Walker w, int comesTo, int comesIn) {
            if (comesIn == minute) {
                w.room = comesTo;
            }
            if (w.room != NONE && (rooms >> w.room & 1) == 0) {
                w.room = NONE;
                w.lostIn = minute;
            }
        }

        private void write(Street s) {
            doorRow[minute] = doors;
            int packed = 0;
            for (int d = 0; d < s.dreamers; d++) {
                Walker w = walkers[d];
                packed |= w.room + 1 << 4 * d;
                w.company += hasCompany(s, w) ? 1 : 0;
            }
            places[minute] = packed;
        }

        private boolean hasCompany(Street s, Walker w) {
            int many = 0;
            for (int d = 0; d < s.dreamers; d++) {
                many += walkers[d].room == w.room ? 1 : 0;
            }
            return w.room != NONE && many > 1;
        }

        int placeOf(int dreamer, int m) {
            return (places[m] >> 4 * dreamer & 15) - 1;
        }

        int placedIn(Street s, int room, int m) {
            int many = 0;
            for (int d = 0; d < s.dreamers; d++) {
                many += placeOf(d, m) == room ? 1 : 0;
            }
            return many;
        }

        int lostBits(Street s) {
            int bits = 0;
            for (int d = 0; d < s.dreamers; d++) {
                bits |= walkers[d].lostIn != NONE ? 1 << d : 0;
            }
            return bits;
        }

        private void act(Street s, Walker w, Will will) {
            if (w.stuck) {
                return;
            }
            if (w.waits > 0) {
                w.waits--;
                return;
            }
            w.turns = 0;
            for (int i = 0; i < DEEDS_MOST && w.at >= 0 && w.at < will.size; i++) {
                int deed = will.deed[w.at];
                if (deed <= Will.CALL) {
                    takeMinute(s, w, deed, will.number[w.at]);
                    return;
                }
                if (deed != Will.JUMP && w.turns >= TURNS_MOST) {
                    w.stuck = true;
                    return;
                }
                doTurn(s, w, will);
            }
        }

        private void takeMinute(Street s, Walker w, int deed, int number) {
            if (deed == Will.TO) {
                go(s, w, number);
            } else if (deed == Will.WAIT) {
                w.waits = number - 1;
            } else {
                doors ^= s.turns[number];
                w.called++;
            }
            w.at++;
        }

        private void go(Street s, Walker w, int room) {
            if ((s.behind(1 << w.room, doors) & rooms & 1 << room) != 0) {
                w.room = room;
                w.went++;
            } else {
                w.failed++;
            }
        }

        private void doTurn(Street s, Walker w, Will will) {
            int at = w.at;
            int slot = Math.min(will.detail[at], BLOCKS_MOST - 1);
            w.turns += will.deed[at] == Will.JUMP ? 0 : 1;
            switch (will.deed[at]) {
                case Will.AGAIN:
                    w.left[slot] = will.number[at];
                    w.at = will.number[at] > 0 ? at + 1 : will.target[at];
                    break;
                case Will.AGAIN_ENDS:
                    w.left[slot]--;
                    w.at = w.left[slot] > 0 ? will.target[at] : at + 1;
                    break;
                case Will.UNTIL:
                    w.at = isSo(s, w, will) ? will.target[at] : at + 1;
                    break;
                case Will.IF:
                    w.at = isSo(s, w, will) ? at + 1 : will.target[at];
                    break;
                default:
                    w.at = will.target[at];
                    break;
            }
        }

        private boolean isSo(Street s, Walker w, Will will) {
            int number = will.number[w.at];
            int detail = will.detail[w.at];
            boolean so;
            switch (detail >> 1) {
                case Will.ASK_IN:
                    so = w.room == number;
                    break;
                case Will.ASK_OPEN:
                    so = (doors >> number & 1) != 0;
                    break;
                case Will.ASK_THERE:
                    so = (rooms >> number & 1) != 0;
                    break;
                case Will.ASK_MET:
                    so = hasCompany(s, w);
                    break;
                default:
                    so = minute >= number;
                    break;
            }
            return so != ((detail & 1) != 0);
        }
    }

    /** Doors turned by noises of one's choice, from the doors as they are at first. */
    private static final class Puzzle {
        private static final int SETS = 64;

        // By the set of sorts called an odd number of times: how many doors are open in the end.
        private final int[] value = new int[SETS];
        private final int[] next = new int[SETS];
        private int openAtBest;
        private int firstCall;

        private static int doorsBy(Street s, int set) {
            int doors = s.firstOpen;
            for (int k = 0; k < SORTS; k++) {
                if ((set >> k & 1) != 0) {
                    doors ^= s.turns[k];
                }
            }
            return doors;
        }

        /** The row of these sorts, ascending; no fewest row calls a sort twice. */
        static int digits(int set) {
            int row = 0;
            for (int k = 0; k < SORTS; k++) {
                if ((set >> k & 1) != 0) {
                    row = row * 10 + k;
                }
            }
            return row;
        }

        int leastSorts(Street s, int open, int shut) {
            int best = NONE;
            for (int set = 0; set < SETS; set++) {
                int doors = doorsBy(s, set);
                if ((doors & open) == open && (doors & shut) == 0 && isBefore(set, best)) {
                    best = set;
                }
            }
            return best;
        }

        private static boolean isBefore(int set, int best) {
            if (best == NONE) {
                return true;
            }
            int fewer = Integer.bitCount(best) - Integer.bitCount(set);
            return fewer > 0 || fewer == 0 && digits(set) < digits(best);
        }

        void playOut(Street s, int n) {
            for (int set = 0; set < SETS; set++) {
                value[set] = Integer.bitCount(doorsBy(s, set));
            }
            firstCall = NONE;
            for (int call = n - 1; call >= 0; call--) {
                System.arraycopy(value, 0, next, 0, SETS);
                for (int set = 0; set < SETS; set++) {
                    int sort = bestCall(s, set, call % 2 == 0);
                    value[set] = sort == NONE ? next[set] : next[set ^ 1 << sort];
                    if (set == 0) {
                        firstCall = sort;
                    }
                }
            }
            openAtBest = value[0];
        }

        private int bestCall(Street s, int set, boolean wantsOpen) {
            int best = NONE;
            int bestValue = 0;
            for (int k = 0; k < SORTS; k++) {
                if (s.turns[k] != 0) {
                    int reached = next[set ^ 1 << k];
                    if (best == NONE || (wantsOpen ? reached > bestValue : reached < bestValue)) {
                        best = k;
                        bestValue = reached;
                    }
                }
            }
            return best;
        }
    }

    /** Walks by the doors that are open at first: the surest one, and the shortest. */
    private static final class Walks {
        private long bestScaled;
        private long bestProduct;
        private int bestLength;
        private int bestDigits;

        void seek(Street s, int a, int b) {
            bestScaled = 0;
            bestProduct = 0;
            bestLength = 0;
            bestDigits = 0;
            extend(s, a, b, 0, 0, 1, 0);
        }

        /** Comes into a room behind so many, of which the bits, the product and the digits are told. */
        private void extend(Street s, int room, int goal, int length, int seen, long product, int digits) {
            if (length >= SLEEPERS_MOST || room < 0 || room >= SLEEPERS_MOST) {
                return;
            }
            int newSeen = seen | 1 << room;
            long newProduct = product * (16 - s.odds[room]);
            int newDigits = digits * 10 + room;
            if (room == goal) {
                compare(length + 1, newProduct, newDigits);
                return;
            }
            int on = s.behind(1 << room, s.firstOpen) & ~newSeen;
            for (int r = 0; r < s.sleepers; r++) {
                if ((on >> r & 1) != 0) {
                    extend(s, r, goal, length + 1, newSeen, newProduct, newDigits);
                }
            }
        }

        private void compare(int length, long product, int digits) {
            long scaled = product << 4 * (SLEEPERS_MOST - length);
            // Rooms are tried from the least on, so of ways that are alike the first one stands already.
            if (scaled > bestScaled || scaled == bestScaled && length < bestLength) {
                bestScaled = scaled;
                bestProduct = product;
                bestLength = length;
                bestDigits = digits;
            }
        }

        private int commonHalvings() {
            return Math.min(Long.numberOfTrailingZeros(bestProduct), 4 * bestLength);
        }

        long above() {
            return bestProduct >> commonHalvings();
        }

        long below() {
            return 1L << 4 * bestLength - commonHalvings();
        }

        int doorsBetween(Street s, int a, int b) {
            int seen = 1 << a;
            for (int many = 0; many < SLEEPERS_MOST; many++) {
                if ((seen >> b & 1) != 0) {
                    return many;
                }
                seen |= s.behind(seen, s.firstOpen);
            }
            return NONE;
        }
    }
}

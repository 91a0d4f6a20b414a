import java.util.function.IntPredicate;

/** The edges of orders, books, wants, odds, drawn nights and rounds. Document ==== 3, promises 25 to 31. */
final class ChoiceEdges extends Checks {
    /** Two rooms and six shut doors, each with a sort of its own. */
    private static final String SIX = "sleeper 0 300 0;sleeper 0 300 0;" + times(6, "door 0 1 0;") + "turns 0 0;turns 1 1;"
        + "turns 2 2;turns 3 3;turns 4 4;turns 5 5;";
    private static final String PAIR = "sleeper 0 300 0;sleeper 0 300 0;";

    static void all() {
        order();
        orderFirst();
        orderFromFirstDoors();
        whose();
        wantTurns();
        wantAtBest();
        surestOdds();
        surestAlike();
        surestLeastTerms();
        seedBits();
        seedTurns();
        whoIsAsked();
        drawnAnswers();
        span();
        roundOrders();
        roundMinutes();
        roundByStreets();
    }

    // ---- promise 25

    private static void orderIs(String what, StreetDreams x, int open, int shut, int many, int digits) {
        due("how many: " + what, x.order(open, shut, 0), many);
        due("the row: " + what, x.order(open, shut, 1), digits);
    }

    private static void order() {
        says("ORDER of NOISES: the fewest NOISES by which, from DOORS as they are at first, all told DOORS (bits) are open and others told shut");
        StreetDreams x = on(SIX);
        orderIs("none told", x, 0, 0, 0, 0);
        orderIs("as they are", x, 0, 63, 0, 0);
        orderIs("one", x, 32, 0, 1, 5);
        orderIs("all but one", x, 62, 1, 5, 12345);
        orderIs("the last two", x, 48, 15, 2, 45);
        orderIs("one of them shut", x, 16, 32, 1, 4);
        StreetDreams ten = on(PAIR + times(10, "door 0 1 0;") + "turns 4 0;turns 4 1;turns 4 2;turns 4 3;turns 4 4;turns 4 5;"
            + "turns 4 6;turns 4 7;turns 4 8;turns 4 9;turns 1 9;");
        orderIs("ten doors by one", ten, 1023, 0, 1, 4);
        orderIs("nine, and not the tenth", ten, 511, 512, 2, 14);
        orderIs("the tenth alone told", ten, 512, 0, 1, 1);
        StreetDreams opened = on(PAIR + "door 0 1 1;door 0 1 0;turns 3 0;turns 3 1;turns 5 1;");
        orderIs("both shut: as 1 is shut, 3 and 5", opened, 0, 3, 2, 35);
        orderIs("both open", opened, 3, 0, 1, 5);
        orderIs("changed for one another", opened, 2, 1, 1, 3);
        says("ORDER of NOISES: 0 how many, 1 the row as digits to the base 10 (the first the highest); NONE: by none.");
        orderIs("by none: a door that no sort turns", on(PAIR + "door 0 1 0;"), 1, 0, -1, -1);
        orderIs("by none: two that turn together", on(PAIR + "door 0 1 0;door 0 1 0;turns 2 0;turns 2 1;"), 1, 2, -1, -1);
        orderIs("together", on(PAIR + "door 0 1 0;door 0 1 0;turns 2 0;turns 2 1;"), 1, 0, 1, 2);
        orderIs("a first 0 is not seen in the digits", x, 3, 0, 2, 1);
        orderIs("all six", x, 63, 0, 6, 12345);
        orderIs("0 alone", x, 1, 0, 1, 0);
        orderIs("no doors", new StreetDreams(), 0, 0, 0, 0);
    }

    private static void orderFirst() {
        says("the first such (SORT by SORT; only SORTS that turn any DOOR)");
        StreetDreams two = on(PAIR + times(3, "door 0 1 0;") + "turns 0 0;turns 5 1;turns 5 2;turns 1 0;turns 1 1;turns 2 2;");
        orderIs("0 and 5, not 1 and 2", two, 7, 0, 2, 5);
        StreetDreams one = on(PAIR + times(2, "door 0 1 0;") + "turns 0 0;turns 1 1;turns 5 0;turns 5 1;");
        orderIs("5 alone, not 0 and 1", one, 3, 0, 1, 5);
        StreetDreams same = on(PAIR + "door 0 1 0;turns 4 0;turns 2 0;turns 3 0;");
        orderIs("2 of three that do alike", same, 1, 0, 1, 2);
        StreetDreams three = on(PAIR + times(3, "door 0 1 0;") + "turns 0 0;turns 4 1;turns 5 2;turns 1 0;turns 2 1;turns 3 2;");
        orderIs("0, 2 and 3", three, 7, 0, 3, 23);
        orderIs("sorts without doors are not called", on(PAIR + "door 0 1 0;turns 5 0;"), 1, 0, 1, 5);
        orderIs("no sort turns any door, nor need be", on(PAIR + "door 0 1 1;"), 1, 0, 0, 0);
    }

    private static void orderFromFirstDoors() {
        says("from DOORS as they are at first");
        StreetDreams x = on(SIX + "noise 0 0;dreamer 0 1;", "call 1;");
        due("opened in the night", x.open(0, 300) && x.open(1, 300), true);
        orderIs("yet shut at first", x, 3, 0, 2, 1);
        orderIs("with nothing to do", x, 0, 3, 0, 0);
        due("want, too", x.want(0, 0), 0);
        due("surest, too", x.surest(0, 1, 2), -1);
        due("far, too", x.far(0, 1), -1);
    }

    // ---- promise 26

    private static void whose() {
        says("WHOSE: SLEEPERS by whose ROOM (twins, KEPT, milkman as told) the BOOK is right in all lines.");
        StreetDreams x = on("sleeper 0 100 0;sleeper 0 50 0;sleeper 60 70 0;sleeper 0 90 0;twin 1 2;milk 80;");
        due("no book: all", x.whose(), 15);
        book(x, "seen 49;gone 50;seen 60;seen 69;gone 70;");
        due("twins", x.whose(), 6);
        book(x, "seen 79;gone 80;");
        due("woken in 80", x.whose(), 1);
        book(x, "seen 82;gone 83;");
        due("woken in 83", x.whose(), 8);
        book(x, "seen 300;");
        due("none", x.whose(), 0);
        x.keep(4);
        due("kept, and its twin", x.whose(), 6);
        x.keep(0);
        book(x, "gone 0;");
        due("all but the twins and the others there", x.whose(), 0);
        book(x, "gone 300;gone 300;");
        due("told twice", x.whose(), 15);
        book(x, "seen 5;gone 5;");
        due("both can't be", x.whose(), 0);
        says("`int whose()`: WHOSE, as bits.");
        String eight = times(8, "sleeper 0 9 0;");
        StreetDreams y = on(eight);
        book(y, times(11, "seen 8;") + "gone 9;");
        due("eight by twelve lines", y.whose(), 255);
        book(y, times(11, "seen 8;") + "gone 8;");
        due("the last line is wrong", y.whose(), 0);
        book(y, "gone 8;" + times(11, "seen 8;"));
        due("the first line is wrong", y.whose(), 0);
        book(y, "");
        due("no lines", y.whose(), 255);
        StreetDreams none = new StreetDreams();
        book(none, "seen 5;");
        due("no sleepers", none.whose(), 0);
    }

    // ---- promise 27

    private static void wantTurns() {
        says("WANT: two in turn, the first beginning, call a NOISE each (any SORT that turns any DOOR), n in all");
        StreetDreams x = on(PAIR + "door 0 1 0;turns 3 0;");
        for (int n = 0; n <= 8; n++) {
            due("one door, each call must be made, n " + n, x.want(n, 0), n % 2);
            due("the first call, n " + n, x.want(n, 1), n == 0 ? -1 : 3);
        }
        says("WANT (n 0 to 8): 0 how many open DOORS, 1 the first call (NONE: there is none to make).");
        StreetDreams none = on(PAIR + times(10, "door 0 1 1;"));
        for (int n = 0; n <= 8; n += 4) {
            due("no sort turns any, n " + n, none.want(n, 0), 10);
            due("no call, n " + n, none.want(n, 1), -1);
        }
        StreetDreams all = on(SIX);
        due("six sorts, none is called", all.want(0, 0) * 10 + all.want(0, 1), -1);
        due("no doors", new StreetDreams().want(8, 0), 0);
        due("no doors, no call", new StreetDreams().want(8, 1), -1);
        StreetDreams ten = on(PAIR + times(10, "door 0 1 0;") + "turns 4 0;turns 4 1;turns 4 2;turns 4 3;turns 4 4;turns 4 5;"
            + "turns 4 6;turns 4 7;turns 4 8;turns 4 9;");
        due("ten by one call", ten.want(1, 0), 10);
        due("and back", ten.want(2, 0), 0);
    }

    /** How many doors are open in the end if both do their best, call by call. */
    private static int best(int[] turns, int doors, int left, boolean first) {
        int found = -1;
        for (int sort : turns) {
            if (left > 0 && sort != 0) {
                int many = best(turns, doors ^ sort, left - 1, !first);
                found = found < 0 || (first ? many > found : many < found) ? many : found;
            }
        }
        return found < 0 ? Integer.bitCount(doors) : found;
    }

    private static int firstCall(int[] turns, int doors, int n) {
        int found = -1;
        int open = -1;
        for (int k = 0; k < turns.length; k++) {
            if (n > 0 && turns[k] != 0) {
                int many = best(turns, doors ^ turns[k], n - 1, false);
                if (many > open) {
                    open = many;
                    found = k;
                }
            }
        }
        return found;
    }

    private static void wantAtBest() {
        says("the first wants as many open DOORS as can be, the other as few: how many there are, both at their best; "
            + "the first's first call (of alike ones the least SORT)");
        int[][] streets = {{0, 1, 2, 4, 8, 16, 32}, {5, 3, 0, 12, 9, 0, 6}, {1023, 1, 3, 7, 15, 31, 63},
            {682, 512, 341, 0, 0, 1023, 2}, {0, 3, 3, 12, 12, 48, 48}, {21, 0, 0, 0, 0, 0, 64}, {7, 9, 9, 9, 9, 9, 9}};
        for (int[] s : streets) {
            int[] turns = {s[1], s[2], s[3], s[4], s[5], s[6]};
            StringBuilder b = new StringBuilder(PAIR);
            for (int d = 0; d < 10; d++) {
                b.append("door 0 1 ").append(s[0] >> d & 1).append(';');
            }
            StreetDreams x = on(b + fits(turns, 0, 48));
            due("clauses are enough", x.door(9, 3), bits(turns, 9));
            for (int n = 0; n <= 6; n++) {
                due("open in the end, doors " + s[0] + ", n " + n, x.want(n, 0), best(turns, s[0], n, true));
                due("the first call, doors " + s[0] + ", n " + n, x.want(n, 1), firstCall(turns, s[0], n));
            }
        }
        StreetDreams alike = on(PAIR + "door 0 1 0;turns 5 0;turns 4 0;");
        due("of alike ones the least", alike.want(1, 1), 4);
        StreetDreams greater = on(PAIR + "door 0 1 0;door 0 1 0;turns 2 0;turns 5 0;turns 5 1;");
        due("the better one, though greater", greater.want(1, 1), 5);
    }

    /** What turns which door, as clauses; no more of them than there is place for. */
    private static String fits(int[] turns, int from, int most) {
        StringBuilder b = new StringBuilder();
        int many = 0;
        for (int k = from; k < turns.length; k++) {
            for (int d = 0; d < 10; d++) {
                if ((turns[k] >> d & 1) != 0 && many < most) {
                    b.append("turns ").append(k).append(' ').append(d).append(';');
                    many++;
                }
            }
        }
        return b.toString();
    }

    private static int bits(int[] turns, int door) {
        int bits = 0;
        for (int k = 0; k < turns.length; k++) {
            bits |= (turns[k] >> door & 1) << k;
        }
        return bits;
    }

    // ---- promise 28

    private static void surestIs(String what, StreetDreams x, int a, int b, long[] answers) {
        for (int k = 0; k < 4; k++) {
            due(what + ", " + k, x.surest(a, b, k), answers[k]);
        }
    }

    private static void surestOdds() {
        says("SUREST way from A to B by DOORS open at first: the product over all its ROOMS (A and B, too) of (16 less W), each once, over 16 to their number, is greatest");
        StreetDreams x = on("sleeper 0 9 1;sleeper 0 9 15;sleeper 0 9 0;sleeper 0 9 2;sleeper 0 0 0;"
            + "door 0 1 1;door 1 3 1;door 0 2 1;door 2 3 1;");
        surestIs("W 0, one room", x, 2, 2, new long[] {1, 1, 1, 2});
        surestIs("W 1, one room", x, 0, 0, new long[] {15, 16, 1, 0});
        surestIs("W 15, one room", x, 1, 1, new long[] {1, 16, 1, 1});
        surestIs("W 2, one room", x, 3, 3, new long[] {7, 8, 1, 3});
        surestIs("round the unsure one", x, 0, 3, new long[] {105, 128, 3, 23});
        surestIs("to the unsure one", x, 0, 1, new long[] {15, 256, 2, 1});
        surestIs("a room that is never there", x, 4, 4, new long[] {1, 1, 1, 4});
        StreetDreams more = on("sleeper 0 9 0;sleeper 0 9 8;sleeper 0 9 4;sleeper 0 9 4;sleeper 0 9 0;"
            + "door 0 1 1;door 1 4 1;door 0 2 1;door 2 3 1;door 3 4 1;");
        surestIs("9 of 16 by two are more than 8 of 16 by one", more, 0, 4, new long[] {9, 16, 4, 234});
        says("SUREST: 0 above, 1 below, in least terms, 2 how many ROOMS, 3 the ROOMS as digits to the base 10; "
            + "NONE: there is no way");
        surestIs("no way", x, 0, 4, new long[] {-1, -1, -1, -1});
        surestIs("a shut door", on(PAIR + "door 0 1 0;turns 0 0;noise 0 0;"), 0, 1, new long[] {-1, -1, -1, -1});
        surestIs("a door that is shut later", on(PAIR + "door 0 1 1;turns 0 0;noise 0 0;"), 1, 0, new long[] {1, 1, 2, 10});
        surestIs("twins have no door", on(PAIR + "twin 0 1;"), 0, 1, new long[] {-1, -1, -1, -1});
    }

    private static void surestAlike() {
        says("of alike ones the fewest ROOMS, then the first (ROOM by ROOM)");
        StreetDreams fewest = on(times(5, "sleeper 0 9 0;") + "door 0 1 1;door 1 2 1;door 2 4 1;door 0 3 1;door 3 4 1;");
        surestIs("034, not 0124", fewest, 0, 4, new long[] {1, 1, 3, 34});
        StreetDreams ahead = on(times(5, "sleeper 0 9 0;") + "door 0 2 1;door 2 3 1;door 3 4 1;door 0 1 1;door 1 4 1;");
        surestIs("014, not 0234", ahead, 0, 4, new long[] {1, 1, 3, 14});
        StreetDreams even = on("sleeper 0 9 0;sleeper 0 9 4;sleeper 0 9 7;sleeper 0 9 0;sleeper 0 9 0;"
            + "door 0 1 1;door 1 3 1;door 3 4 1;door 0 3 0;");
        surestIs("the only one", even, 0, 4, new long[] {3, 4, 4, 134});
        StreetDreams same = on("sleeper 0 9 0;sleeper 0 9 4;sleeper 0 9 0;sleeper 0 9 4;sleeper 0 9 0;"
            + "door 0 1 1;door 1 2 1;door 2 4 1;door 0 3 1;door 3 4 1;");
        surestIs("12 of 16 by fewer", same, 0, 4, new long[] {3, 4, 3, 34});
        StreetDreams first = on(times(6, "sleeper 0 9 3;") + "door 0 4 1;door 4 5 1;door 0 2 1;door 2 5 1;door 0 3 1;door 3 5 1;");
        surestIs("025", first, 0, 5, new long[] {2197, 4096, 3, 25});
        surestIs("520", first, 5, 0, new long[] {2197, 4096, 3, 520});
        StreetDreams later = on(times(6, "sleeper 0 9 3;") + "door 0 1 1;door 1 4 1;door 4 5 1;door 0 2 1;door 2 3 1;door 3 5 1;");
        surestIs("0145, not 0235", later, 0, 5, new long[] {28561, 65536, 4, 145});
    }

    private static void surestLeastTerms() {
        says("in least terms");
        String chain = "door 0 1 1;door 1 2 1;door 2 3 1;door 3 4 1;door 4 5 1;door 5 6 1;door 6 7 1;";
        StreetDreams least = on(times(8, "sleeper 0 9 15;") + chain);
        surestIs("the least of all", least, 7, 0, new long[] {1, 4294967296L, 8, 76543210});
        surestIs("the first 0 is not seen", least, 0, 7, new long[] {1, 4294967296L, 8, 1234567});
        StreetDreams odd = on(times(8, "sleeper 0 9 1;") + chain);
        surestIs("beyond ints above, too", odd, 7, 0, new long[] {2562890625L, 4294967296L, 8, 76543210});
        StreetDreams sure = on(times(8, "sleeper 0 9 0;") + chain);
        surestIs("sure", sure, 7, 0, new long[] {1, 1, 8, 76543210});
        int[][] terms = {{8, 1, 2}, {12, 1, 4}, {14, 1, 8}, {4, 3, 4}, {10, 3, 8}, {6, 5, 8}, {5, 11, 16}};
        for (int[] t : terms) {
            StreetDreams x = on("sleeper 0 9 " + t[0] + ";");
            due("above, W " + t[0], x.surest(0, 0, 0), t[1]);
            due("below, W " + t[0], x.surest(0, 0, 1), t[2]);
        }
        StreetDreams two = on("sleeper 0 9 8;sleeper 0 9 6;door 0 1 1;");
        surestIs("8 times 10 of 256", two, 0, 1, new long[] {5, 16, 2, 1});
    }

    // ---- promises 29 and 30: the seed is held as a number of 32 bits without sign here

    private static long after(long seed) {
        return (seed * 1103515245L + 12345L) & 0xffffffffL;
    }

    private static int drawnOf(long seed) {
        return (int) (after(seed) / 65536 % 1024);
    }

    /** The seed that becomes this number next. */
    private static int ahead(long next) {
        long inverse = 1;
        for (int i = 0; i < 32; i++) {
            inverse = inverse * (2 - 1103515245L * inverse) & 0xffffffffL;
        }
        return (int) ((next - 12345L) * inverse & 0xffffffffL);
    }

    /** A seed that holds in all that is asked of it. */
    private static int seedWith(IntPredicate fits) {
        for (int seed = -2000000; seed < 2000000; seed++) {
            if (fits.test(seed)) {
                return seed;
            }
        }
        bad("no seed fits");
        return 0;
    }

    /** Whether who sleeps in minute 0 alone, with these odds, is woken. */
    private static boolean woken(int odds, long next) {
        return on("sleeper 0 1 " + odds + ";").drawn(ahead(next), 2) == 0;
    }

    private static void seedBits() {
        says("its bits 16 to 25 below W: he sleeps no more, from this MINUTE on (a KEPT one is not asked)");
        due("the seed ahead", after(ahead(0x12345678L) & 0xffffffffL), 0x12345678L);
        int[] all = {0, 1, 2, 7, 8, 14, 15};
        for (int odds : all) {
            due("W " + odds + ", one below", odds > 0 && woken(odds, (odds - 1L) << 16), odds > 0);
            due("W " + odds + ", not below", woken(odds, (long) odds << 16), false);
            due("W " + odds + ", drawn 0", woken(odds, 0), odds > 0);
            due("W " + odds + ", drawn 1023", woken(odds, 0xffffffffL), false);
            due("W " + odds + ", drawn 1023, all other bits 0", woken(odds, 0x03ff0000L), false);
            due("W " + odds + ", drawn 0, all other bits 1", woken(odds, 0xfc00ffffL), odds > 0);
        }
        for (int bit = 0; bit < 32; bit++) {
            due("W 1, bit " + bit + " alone is 1", woken(1, 1L << bit), bit < 16 || bit > 25);
            boolean matters = bit >= 16 && bit <= 25 && bit != 19;
            due("W 8, bit " + bit + " beside bit 19", woken(8, 1L << 19 | 1L << bit), false);
            due("W 15, bit " + bit + " beside 8", woken(15, 8L << 16 | 1L << bit), !matters || bit < 19 && bit >= 16);
        }
        StreetDreams x = on("sleeper 0 300 1;sleeper 0 0 0;dreamer 0 0;");
        due("from this minute on", x.drawn(ahead(0), 1), 0);
        due("lost in it", x.drawn(ahead(0), 0), 1);
    }

    private static void seedTurns() {
        says("the SEED (32 bits) becomes itself times 1,103,515,245, and 12,345 (it wraps)");
        int[] seeds = {0, 1, -1, 7, Integer.MAX_VALUE, Integer.MIN_VALUE, 1103515245, -1103515245, 65536, 12345};
        StreetDreams x = on("sleeper 0 300 15;");
        for (int seed : seeds) {
            long s = seed & 0xffffffffL;
            int minute = 0;
            while (minute < 300 && drawnOf(s) >= 15) {
                s = after(s);
                minute++;
            }
            due("seed " + seed + ", the minute in which he is woken", x.drawn(seed, 1), minute);
            due("seed " + seed + ", whether he sleeps to his end", x.drawn(seed, 2), minute == 300 ? 1 : 0);
        }
        int late = seedWith(s -> asks(s, 15, 300) == 299);
        due("in 299", x.drawn(late, 1), 299);
        due("not to his end", x.drawn(late, 2), 0);
        int never = seedWith(s -> asks(s, 15, 301) == 300);
        due("in 300 he is not asked", x.drawn(never, 1), 300);
        due("he sleeps to his end", x.drawn(never, 2), 1);
    }

    /** By which draw, counted from 0, one of such odds is woken; the most, if by none. */
    private static int asks(int seed, int odds, int most) {
        long s = seed & 0xffffffffL;
        for (int i = 0; i < most; i++) {
            if (drawnOf(s) < odds) {
                return i;
            }
            s = after(s);
        }
        return most;
    }

    private static void whoIsAsked() {
        says("DRAWN night by a SEED: in each MINUTE, for each SLEEPER who would sleep, by number");
        int first = seedWith(s -> asks(s, 15, 9) == 0);
        int second = seedWith(s -> asks(s, 15, 9) == 1);
        int third = seedWith(s -> asks(s, 15, 9) == 2);
        due("both in 0: the first", on("sleeper 0 1 15;sleeper 0 1 0;").drawn(first, 2), 1);
        due("both in 0: not the second", on("sleeper 0 1 0;sleeper 0 1 15;").drawn(first, 2), 2);
        due("both in 0: the second draw is the second's", on("sleeper 0 1 0;sleeper 0 1 15;").drawn(second, 2), 1);
        due("not yet asleep", on("sleeper 1 2 0;sleeper 0 1 15;").drawn(first, 2), 1);
        due("not yet asleep, then asked", on("sleeper 1 2 15;sleeper 0 1 0;").drawn(second, 2), 1);
        due("from 300 to 300: never asked", on("sleeper 300 300 15;sleeper 0 1 15;").drawn(first, 2), 1);
        due("up already: the third is the other's", on("sleeper 0 1 0;sleeper 0 2 15;").drawn(third, 2), 1);
        due("minute by minute", on("sleeper 0 3 0;sleeper 0 1 0;sleeper 1 2 0;").drawn(third, 2), 3);
        due("minute by minute: 0, 1, 0", on("sleeper 0 3 15;sleeper 0 1 0;").drawn(third, 1), 1);
        due("the milkman woke him ahead", on("sleeper 0 9 15;sleeper 0 1 15;milk 0;").drawn(first, 2), 1);
        due("who is woken is not asked again: the second is the other's",
            wokenTwice(seedWith(s -> asks(s, 15, 9) == 0 && drawnOf(after(s & 0xffffffffL)) < 15)), 0);
        due("nor is it his", wokenTwice(seedWith(s -> asks(s, 15, 9) == 0 && drawnOf(after(s & 0xffffffffL)) >= 15
            && drawnOf(after(after(s & 0xffffffffL))) < 15)), 1);
        due("twins are asked each", on("sleeper 0 1 0;sleeper 0 1 15;twin 0 1;").drawn(second, 1), 1);
        due("both of a twin woken", on("sleeper 0 1 15;sleeper 1 1 0;twin 0 1;").drawn(first, 1), 0);
        says("(a KEPT one is not asked)");
        StreetDreams kept = on("sleeper 0 300 15;sleeper 0 1 15;");
        kept.keep(1);
        due("the first draw is the other's", kept.drawn(first, 2), 1);
        due("not the second", kept.drawn(second, 2), 2);
        due("the kept one sleeps in all", kept.drawn(first, 1), 301);
        kept.keep(3);
        due("none is asked", kept.drawn(first, 2), 2);
    }

    /** The first is asked in 0 alone if he is woken then; the other in 1. */
    private static int wokenTwice(int seed) {
        return on("sleeper 0 2 15;sleeper 1 2 15;").drawn(seed, 2);
    }

    private static void drawnAnswers() {
        says("DRAWN night: 0 LOST (bits), 1 the first MINUTE from which on no ROOM is THERE any more (301: one is in the last), "
            + "2 how many SLEEPERS slept to their end (not woken by draws).");
        StreetDreams x = on("sleeper 0 3 0;sleeper 10 13 0;sleeper 300 300 15;");
        due("a gap counts nothing", x.drawn(5, 1), 13);
        due("all three", x.drawn(5, 2), 3);
        due("none is ever there", on("sleeper 7 7 0;").drawn(5, 1), 0);
        due("no sleepers", new StreetDreams().drawn(5, 1), 0);
        due("no sleepers slept", new StreetDreams().drawn(5, 2), 0);
        due("in minute 0 alone", on("sleeper 0 1 0;").drawn(5, 1), 1);
        due("to 299", on("sleeper 0 300 0;").drawn(5, 1), 300);
        x.keep(4);
        due("in the last", x.drawn(5, 1), 301);
        StreetDreams woken = on("sleeper 0 300 0;sleeper 0 300 0;milk 8;");
        due("who is woken by the milkman slept to his end", woken.drawn(5, 2), 2);
        due("until the milkman", woken.drawn(5, 1), 9);
        StreetDreams four = on("sleeper 0 300 0;" + times(4, "dreamer 0 5;"));
        due("four are lost in 300", four.drawn(5, 0), 15);
        four.keep(1);
        due("none is lost", four.drawn(5, 0), 0);
        StreetDreams two = on("sleeper 0 1 15;sleeper 1 300 0;sleeper 0 0 0;twin 0 1;door 0 2 1;dreamer 2 0;dreamer 0 0;", "",
            "to 2;");
        two.keep(4);
        int first = seedWith(s -> asks(s, 15, 9) == 0);
        int none = seedWith(s -> asks(s, 15, 9) == 9);
        due("lost as he is woken", two.drawn(first, 0), 2);
        due("not lost, as he is not", two.drawn(none, 0), 0);
        due("the night itself stays", two.lost(), 0);
        StreetDreams eight = on(times(8, "sleeper 0 1 15;"));
        due("eight draws in one minute", eight.drawn(seedWith(s -> asks(s, 15, 9) == 7), 2), 7);
        due("a ninth there is not", eight.drawn(seedWith(s -> asks(s, 15, 9) == 8), 2), 8);
    }

    /** A dreamer is lost if the first draw wakes sleeper 0; else he gets into a kept room. */
    private static StreetDreams fateful() {
        StreetDreams x = on("sleeper 0 1 15;sleeper 1 300 0;sleeper 0 0 0;twin 0 1;door 0 2 1;dreamer 0 0;", "to 2;");
        x.keep(4);
        return x;
    }

    private static void span() {
        says("Of so many SEEDS (1 to 20; seed, seed and 1, ..): 0 the fewest LOST, 1 the most, 2 by how many nobody is.");
        StreetDreams x = fateful();
        int hit = seedWith(s -> hits(s, 1) == 1);
        spanIs(x, hit, 1, 1, 1, 0);
        spanIs(x, hit - 1, 1, 0, 0, 1);
        spanIs(x, hit - 1, 2, 0, 1, 1);
        spanIs(x, hit, 2, 0, 1, 1);
        spanOfSeeds(x, hit - 19, 20);
        spanOfSeeds(x, hit - 20, 20);
        spanOfSeeds(x, hit, 20);
        spanOfSeeds(x, hit + 1, 20);
        due("the first of twenty counts", hits(hit, 20) > hits(hit + 1, 19), true);
        due("the last of twenty counts", hits(hit - 19, 20) > hits(hit - 19, 19), true);
        int wrapped = Integer.MIN_VALUE;
        while (hits(wrapped, 1) == 0) {
            wrapped++;
        }
        for (int many = 1; many <= 20; many++) {
            spanOfSeeds(fateful(), Integer.MAX_VALUE, many);
            spanOfSeeds(fateful(), wrapped - many + 1, many);
            spanOfSeeds(fateful(), -many, many);
        }
        due("one behind the wrap counts", wrapped < Integer.MIN_VALUE + 19, true);
        StreetDreams four = on("sleeper 0 300 0;" + times(4, "dreamer 0 5;"));
        spanIs(four, 0, 20, 4, 4, 0);
        spanIs(on("sleeper 0 300 0;"), -5, 20, 0, 0, 20);
        spanIs(new StreetDreams(), 5, 1, 0, 0, 1);
    }

    private static int hits(int from, int many) {
        int hits = 0;
        for (int i = 0; i < many; i++) {
            hits += drawnOf(from + i & 0xffffffffL) < 15 ? 1 : 0;
        }
        return hits;
    }

    private static void spanIs(StreetDreams x, int seed, int many, int fewest, int most, int nobody) {
        due("span(" + seed + ", " + many + ", 0)", x.span(seed, many, 0), fewest);
        due("span(" + seed + ", " + many + ", 1)", x.span(seed, many, 1), most);
        due("span(" + seed + ", " + many + ", 2)", x.span(seed, many, 2), nobody);
    }

    private static void spanOfSeeds(StreetDreams x, int seed, int many) {
        int hits = hits(seed, many);
        spanIs(x, seed, many, hits == many ? 1 : 0, hits > 0 ? 1 : 0, many - hits);
    }

    // ---- promise 31

    private static void roundIs(String what, StreetDreams x, int lost, int digits) {
        due("lost: " + what, x.round(0), lost);
        due("the order: " + what, x.round(1), digits);
    }

    private static void roundOrders() {
        says("BEST round: 0 how many are LOST, 1 the order as digits to the base 10. "
            + "IllegalStateException: more than 6 SLEEPERS.");
        roundIs("nobody to wake", on("milk 5;"), 0, 0);
        roundIs("one", on("sleeper 0 9 0;milk 5;"), 0, 0);
        roundIs("two", on("sleeper 0 9 0;sleeper 0 9 0;milk 5;"), 0, 1);
        roundIs("six", on(times(6, "sleeper 0 9 0;") + "milk 5;"), 0, 12345);
        roundIs("six, without a milkman", on(times(6, "sleeper 0 9 0;")), 0, 12345);
        for (int many = 7; many <= 8; many++) {
            StreetDreams x = on(times(many, "sleeper 0 9 0;") + "milk 5;");
            refuses("round(0) of " + many, STATE, () -> x.round(0));
            refuses("round(1) of " + many, STATE, () -> x.round(1));
            due("counted", x.status(3), 2);
            due("nothing else", x.status(0) + x.status(1) + x.status(2), 0);
        }
        StreetDreams seven = on(times(7, "sleeper 0 9 0;"));
        refuses("seven, without a milkman", STATE, () -> seven.round(0));
        due("six then", street(seven, times(6, "sleeper 0 9 0;")), 6);
        due("are taken", seven.round(1), 12345);
        roundIs("all four are lost", on("sleeper 0 9 0;milk 5;" + times(4, "dreamer 0 1;")), 4, 0);
    }

    private static void roundMinutes() {
        says("(6 at most; one each MINUTE from M on), so that fewest DREAMERS are LOST, of these the first");
        String two = "sleeper 0 300 0;sleeper 0 300 0;door 0 1 1;";
        StreetDreams last = on(two + "dreamer 0 298;milk 299;", "to 1;");
        last.keep(2);
        due("as told he is lost in 299", last.night(0, 0), 299);
        roundIs("1 in 299, 0 in 300", last, 0, 10);
        StreetDreams zero = on(two + "dreamer 0 0;milk 0;", "to 1;");
        zero.keep(2);
        roundIs("0 in 0 is too soon, in 1, too", zero, 1, 1);
        StreetDreams one = on(two + "dreamer 0 0;milk 1;", "to 1;");
        one.keep(2);
        roundIs("1 in 1, 0 in 2", one, 0, 10);
        StreetDreams behind = on(two + "dreamer 0 299;milk 300;", "to 1;");
        behind.keep(2);
        roundIs("in 300 room 0 is gone for all orders", behind, 1, 1);
        StreetDreams three = on("sleeper 0 300 0;sleeper 0 300 0;sleeper 0 300 0;door 0 1 1;door 1 2 1;dreamer 0 9;milk 10;",
            "to 1;to 2;");
        three.keep(4);
        roundIs("2, then 0 in 11, 1 in 12", three, 0, 201);
        StreetDreams alike = on("sleeper 0 300 0;sleeper 0 300 0;sleeper 0 300 0;door 2 1 1;dreamer 2 9;milk 10;", "to 1;");
        alike.keep(2);
        roundIs("012, the first of the four in which 2 is not woken in 10", alike, 0, 12);
        StreetDreams begin = on("sleeper 0 300 0;sleeper 0 300 0;sleeper 0 300 0;door 0 1 1;dreamer 0 0;milk 0;", "to 1;");
        begin.keep(2);
        roundIs("from minute 0 on: 1 in 0, 2 in 1, 0 in 2", begin, 0, 120);
        StreetDreams row = on(times(6, "sleeper 0 300 0;") + "door 4 3 1;door 3 2 1;door 2 1 1;door 1 0 1;door 0 5 1;"
            + "dreamer 4 9;milk 10;", "to 3;to 2;to 1;to 0;to 5;");
        row.keep(32);
        roundIs("the last order alone", row, 0, 543210);
        StreetDreams early = on(two + "dreamer 0 0;milk 10;", "wait 9;to 1;");
        early.keep(2);
        roundIs("who came in 0 goes in 10", early, 0, 10);
        StreetDreams late = on(two + "dreamer 0 7;dreamer 0 300;dreamer 1 7;dreamer 1 200;milk 5;");
        roundIs("all who come behind the round", late, 4, 1);
        roundIs("one behind it, one ahead of it", on(two + "dreamer 0 7;dreamer 0 2;milk 5;"), 2, 1);
        late.keep(2);
        roundIs("but for those of the kept room", late, 2, 1);
        late.keep(3);
        roundIs("but for those of kept rooms", late, 0, 1);
        StreetDreams up = on("sleeper 0 300 0;sleeper 0 6 0;sleeper 0 300 0;dreamer 1 7;milk 7;");
        roundIs("who is up ahead of the milkman is up in all orders", up, 1, 12);
        StreetDreams gone = on("sleeper 0 300 0;sleeper 0 6 0;sleeper 0 300 0;door 1 2 1;dreamer 1 7;milk 7;", "to 2;");
        gone.keep(4);
        roundIs("nor is he there in 7 for who would go on in 8", gone, 1, 12);
        StreetDreams ahead = on("sleeper 3 9 0;sleeper 0 300 0;door 0 1 1;dreamer 0 2;milk 5;", "to 1;");
        ahead.keep(2);
        roundIs("lost ahead of the milkman", ahead, 1, 1);
        StreetDreams doors = on(times(4, "sleeper 0 300 0;") + "door 0 1 0;turns 0 0;dreamer 0 9;dreamer 3 5;milk 10;",
            "wait 2;to 1;", "wait 4;call 0;");
        doors.keep(10);
        roundIs("0 last; the door is opened in 10 in each order", doors, 0, 1230);
        StreetDreams seldom = on("sleeper 0 300 0;sleeper 8 9 0;sleeper 0 300 0;door 0 1 1;door 1 2 1;dreamer 0 6;milk 7;",
            "wait 1;to 1;to 2;");
        seldom.keep(4);
        roundIs("the room is there in 8 alone", seldom, 1, 12);
        due("without a milkman: of the night", on(two + "dreamer 0 5;dreamer 1 6;").round(0), 2);
    }

    /** How many are lost if the k-th is woken in minute milk and at[k], by a street without a milkman. */
    private static int lostBy(int[][] sleepers, String rest, String[] wills, int kept, int milk, int[] at) {
        StringBuilder b = new StringBuilder();
        for (int k = 0; k < sleepers.length; k++) {
            int end = Math.min(sleepers[k][1], milk + at[k]);
            int begin = Math.min(sleepers[k][0], end);
            b.append("sleeper ").append(begin).append(' ').append(end).append(" 0;");
        }
        StreetDreams x = on(b + rest, wills);
        x.keep(kept);
        return Integer.bitCount(x.lost());
    }

    /** The fewest lost, and behind them the digits of the first such order, gone through one by one. */
    private static int bestOf(int[][] sleepers, String rest, String[] wills, int kept, int milk) {
        int many = sleepers.length;
        int best = Integer.MAX_VALUE;
        int orders = 1;
        for (int i = 0; i < many; i++) {
            orders *= many;
        }
        for (int code = 0; code < orders; code++) {
            int[] at = new int[many];
            int seen = 0;
            int digits = 0;
            int left = code;
            for (int i = many - 1; i >= 0; i--) {
                at[left % many] = i;
                seen |= 1 << left % many;
                left /= many;
            }
            if (seen == (1 << many) - 1) {
                for (int i = 0; i < many; i++) {
                    for (int k = 0; k < many; k++) {
                        digits = at[k] == i ? digits * 10 + k : digits;
                    }
                }
                best = Math.min(best, lostBy(sleepers, rest, wills, kept, milk, at) * 1000000 + digits);
            }
        }
        return best;
    }

    private static void roundIsBest(int[][] sleepers, String rest, String[] wills, int kept, int milk) {
        StringBuilder b = new StringBuilder();
        for (int[] s : sleepers) {
            b.append("sleeper ").append(s[0]).append(' ').append(s[1]).append(" 0;");
        }
        StreetDreams x = on(b + rest + "milk " + milk + ";", wills);
        x.keep(kept);
        int best = bestOf(sleepers, rest, wills, kept, milk);
        roundIs(b + rest + "milk " + milk, x, best / 1000000, best % 1000000);
    }

    private static void roundByStreets() {
        says("BEST round: the order in which the milkman wakes the SLEEPERS");
        int[][] six = {{0, 300}, {0, 300}, {0, 300}, {0, 300}, {0, 300}, {0, 300}};
        String ring = "door 0 1 1;door 1 2 1;door 2 3 1;door 3 4 1;door 4 5 1;door 5 0 1;turns 0 2;noise 12 0;";
        String[] walks = {"to 1;to 2;to 3;to 4;", "to 3;to 4;", "again 9[to 5;to 4;];", "wait 1;to 2;to 3;"};
        roundIsBest(six, ring + "dreamer 0 9;dreamer 2 9;dreamer 4 8;dreamer 1 9;", walks, 16, 10);
        roundIsBest(six, ring + "dreamer 0 9;dreamer 2 9;dreamer 4 8;dreamer 1 9;", walks, 0, 11);
        roundIsBest(six, ring + "dreamer 0 296;dreamer 2 296;dreamer 4 297;dreamer 1 296;", walks, 16, 297);
        int[][] five = {{3, 9}, {0, 7}, {5, 5}, {6, 300}, {2, 8}};
        String row = "door 0 1 1;door 1 4 1;door 4 3 1;twin 2 4;";
        String[] steps = {"to 1;to 4;to 3;", "until there 3[wait 1;];to 4;to 3;", "to 4;"};
        roundIsBest(five, row + "dreamer 0 4;dreamer 1 3;dreamer 1 4;", steps, 8, 5);
        roundIsBest(five, row + "dreamer 0 4;dreamer 1 3;dreamer 1 4;", steps, 8, 4);
        roundIsBest(five, row + "dreamer 4 8;dreamer 2 3;dreamer 2 9;", steps, 4, 6);
        int[][] four = {{0, 300}, {0, 300}, {0, 300}, {0, 300}};
        String pair = "door 0 1 1;door 1 2 0;door 2 3 1;turns 0 1;dreamer 0 5;dreamer 2 6;";
        String[][] wills = {{"wait 6;to 1;", "call 0;to 3;"}, {"again 5[wait 1;];to 1;", "wait 3;to 3;"},
            {"wait 4;call 0;to 1;to 2;to 3;", "to 3;"}, {"again 6[call 0;];to 1;to 2;to 3;", "wait 5;call 0;to 3;"},
            {"wait 4;until not there 0[if there 2[];];to 1;", "wait 4;if there 1[again 9[again 9[];];];to 3;"},
            {"wait 4;if not there 3[until met[];];to 1;", "wait 5;if there 0[until met[];];to 3;"}};
        for (String[] w : wills) {
            for (int milk = 8; milk < 12; milk++) {
                roundIsBest(four, pair, w, 2, milk);
                roundIsBest(four, pair, w, 8, milk);
            }
        }
        int[][] three = {{0, 300}, {0, 300}, {0, 300}};
        String[] quick = {"to 1;to 2;", "to 1;"};
        for (int milk = 0; milk < 4; milk++) {
            roundIsBest(three, "door 0 1 1;door 1 2 1;dreamer 0 0;dreamer 2 0;", quick, 4, milk);
            roundIsBest(three, "door 0 1 1;door 1 2 1;dreamer 0 0;dreamer 2 0;", quick, 2, milk);
        }
    }
}

/** The edges of what is told: the tape, the STREET, WILLS, the BOOK, their FAULTS. Promises 1 to 10. */
final class TextEdges extends Checks {
    private static final String ONE = "sleeper 0 9 1;";
    private static final String TWO = ONE + ONE;
    private static final String EIGHT = times(8, ONE);

    /** Three rooms, two doors, a dreamer: the street on which WILLS and the BOOK are told. */
    private static final String HOUSE = TWO + "sleeper 0 90 0;door 0 1 1;door 1 2 0;turns 4 1;noise 7 4;dreamer 2 5;";

    static void all() {
        newObject();
        tape();
        streetFromTape();
        refusedLengths();
        clauses();
        sleepers();
        doors();
        turns();
        noises();
        twins();
        dreamers();
        milk();
        toldAhead();
        steps();
        blocks();
        questions();
        willFromTape();
        books();
        numbersAndWords();
        blanks();
        firstFault();
        faultAtTheEnd();
        numbersNoneSuch();
        oneTooMany();
        leastFault();
        toldCounts();
        whatWasTold();
    }

    // ---- means

    /** An object with something of all that a text could take away. */
    private static StreetDreams held() {
        StreetDreams x = on(HOUSE, "call 4;call 4;");
        book(x, "seen 8;gone 9;");
        x.image();
        x.make(20, 4);
        x.sleep(0, 1, 9);
        x.keep(2);
        return x;
    }

    private static StreetDreams taken(String text, int answer) {
        StreetDreams x = new StreetDreams();
        due("street \"" + text + "\"", street(x, text), answer);
        due("its fault", x.fault(), -1);
        return x;
    }

    private static void kept(StreetDreams x, String state, String call, int place) {
        due("fault of " + call, x.fault(), place);
        due("the tape behind " + call, x.count(1), 0);
        due("what was told ahead of " + call, state(x), state);
        due("no refusal by " + call, x.status(0) + x.status(1) + x.status(2) + x.status(3), 0);
    }

    private static void faulty(String text, int kind, int place) {
        StreetDreams x = held();
        String state = state(x);
        due("street \"" + text + "\"", street(x, text), kind - 10);
        kept(x, state, "street \"" + text + "\"", place);
    }

    private static void willTaken(String text, int steps) {
        StreetDreams x = on(HOUSE);
        due("will \"" + text + "\"", will(x, 0, text), steps);
        due("its fault", x.fault(), -1);
    }

    private static void willFaulty(String text, int kind, int place) {
        StreetDreams x = held();
        String state = state(x);
        due("will \"" + text + "\"", will(x, 0, text), kind - 10);
        kept(x, state, "will \"" + text + "\"", place);
    }

    private static void bookTaken(String text, int lines) {
        StreetDreams x = on(HOUSE);
        due("book \"" + text + "\"", book(x, text), lines);
        due("its fault", x.fault(), -1);
        due("told", x.told(7), lines);
    }

    private static void bookFaulty(String text, int kind, int place) {
        StreetDreams x = held();
        String state = state(x);
        due("book \"" + text + "\"", book(x, text), kind - 10);
        kept(x, state, "book \"" + text + "\"", place);
    }

    // ---- promises 1 to 5: what comes from the tape

    private static void newObject() {
        says("`StreetDreams()`: A STREET without CLAUSES.");
        StreetDreams x = new StreetDreams();
        StreetDreams y = on(HOUSE);
        due("an empty street", y.street(0), 0);
        due("state of a new object", state(x), state(y));
        due("state", state(x), "0 0 0 0 0 -1 0 0 0 0 0");
        due("fault", x.fault(), -1);
        due("tape", x.count(1), 0);
        for (int what = 0; what < 4; what++) {
            due("refusals", x.status(what), 0);
        }
        due("calls that find nothing", x.lost() + x.asleep(300) + x.rooms(0) + x.crowd(0) + x.stranded(300), 0);
        due("calls that find nothing", x.ends() + x.help() + x.undo() + x.restore() + x.hush(0) + x.noise(0, 0), -6);
        due("keep of nobody", x.keep(0), 0);
        refuses("keep of sleeper 0", ARGUMENT, () -> x.keep(1));
        refuses("order of door 0", ARGUMENT, () -> x.order(1, 0, 0));
        due("NONE", StreetDreams.NONE, -1);
    }

    private static void tape() {
        says("Twenty bytes come on the TAPE, of each number the highest first: how many there are");
        StreetDreams x = new StreetDreams();
        due("feed", x.feed(0x736c6565, 0x70657220, 0x31322033, 0x3420353b, 0x20202020), 20);
        due("street of all twenty", x.street(20), 1);
        due("F, T, W", x.sleeper(0, 0) * 10000 + x.sleeper(0, 1) * 100 + x.sleeper(0, 2), 123405);
        x.feed(0x6d696c6b, 0x2039303b, 0x80000000, 0, 0);
        due("a byte of 128", x.street(9), -9);
        due("its place", x.fault(), 8);
        x.feed(0x6d696c6b, 0x203530bb, 0, 0, 0);
        due("a byte of 59 and 128 is no ;", x.street(8), -9);
        due("its place", x.fault(), 7);
        says("NONE, doing nothing, if there would be more than 600");
        String seven = padded("milk 7;", 20);
        for (int i = 1; i <= 29; i++) {
            feed(x, seven);
        }
        due("bytes", x.count(1), 580);
        due("up to 600", x.feed(0x20202020, 0x20202020, 0x20202020, 0x20202020, 0x2020203b), 600);
        due("beyond", x.feed(0x6d696c6b, 0x2039303b, 0, 0, 0), -1);
        due("bytes", x.count(1), 600);
        due("beyond once more", x.feed(0, 0, 0, 0, 0), -1);
        due("the last byte is the one that came ahead", x.street(600), -9);
        due("its place", x.fault(), 599);
        due("the tape is empty", x.feed(0, 0, 0, 0, 0), 20);
        due("counted", x.status(0) + x.status(1) + x.status(2) + x.status(3), 0);
        for (int i = 2; i <= 30; i++) {
            due("feed", x.feed(0, 0, 0, 0, 0), 20 * i);
        }
    }

    private static void streetFromTape() {
        says("The first n bytes of the TAPE (empty then) are the STREET");
        StreetDreams x = feed(new StreetDreams(), "milk 5;milk 12;");
        due("all of the text", x.street(15), 0);
        due("told", x.told(5), 12);
        due("the tape", x.count(1), 0);
        feed(x, "milk 5;milk 12;");
        due("the first clause alone", x.street(7), 0);
        due("told", x.told(5), 5);
        due("the bytes behind it are gone", x.count(1), 0);
        feed(x, "milk 5;milk 12;");
        due("with a byte 0 behind it", x.street(16), -9);
        due("at it", x.fault(), 15);
        due("the tape behind a fault", x.count(1), 0);
        feed(x, "milk 5;milk 12;");
        due("none of its bytes", x.street(0), 0);
        due("told", x.told(5), -1);
        due("the tape", x.count(1), 0);
        says("(no WILLS, BOOK, KEPT, IMAGES)");
        StreetDreams y = held();
        due("told ahead", y.night(0, 3) * 1000 + y.told(7) * 100 + y.told(6) * 10 + y.count(0), 2221);
        due("the same street", street(y, HOUSE), 3);
        due("no will", y.night(0, 3), 0);
        due("no book", y.told(7), 0);
        due("whose", y.whose(), 7);
        due("nobody kept", y.told(6), 0);
        due("no image", y.count(0), 0);
        due("restore", y.restore(), -1);
        due("no change", y.count(2), 0);
        due("undo", y.undo(), -1);
        due("as told", state(y), state(on(HOUSE)));
        firstBytesAlone();
        streetsInTurn();
        says("how many SLEEPERS; or the FAULT less 10 (all but the TAPE stays)");
        taken("", 0);
        taken("milk 0;", 0);
        taken(ONE, 1);
        taken(EIGHT, 8);
        faulty("milk", 1, 4);
        faulty("milk 301;", 2, 5);
        faulty(EIGHT + ONE, 3, 112);
        StreetDreams z = held();
        street(z, "milk");
        due("the image stays", z.restore(), 0);
        due("and what is in it", z.told(2) * 100 + z.sleeper(0, 0) * 10 + z.told(6), 100);
    }

    /** What stands behind the first n bytes is not read: all is as if it were not there. */
    private static void firstBytesAlone() {
        says("The first n bytes of the TAPE");
        String street = ONE + "sleeper 00 88  1 ;door 0 1 1;turns 2 0;noise 44 2;twin 0 1;dreamer 1 33; milk 66 ;milk 7;";
        String will = "wait 77;again 11 [ call 4;];if not met[]else [ to 1 ; ] ;until after 55[];";
        String book = "seen 55 ;gone 66;  seen 77;";
        for (int n = 0; n <= street.length(); n++) {
            StreetDreams x = feed(new StreetDreams(), street);
            StreetDreams y = feed(new StreetDreams(), street.substring(0, n));
            due("first " + n + " bytes of the street", x.street(n) + " " + x.fault() + " " + state(x),
                y.street(n) + " " + y.fault() + " " + state(y));
        }
        for (int n = 0; n <= will.length(); n++) {
            StreetDreams x = feed(on(HOUSE), will);
            StreetDreams y = feed(on(HOUSE), will.substring(0, n));
            due("first " + n + " bytes of the will", x.will(0, n) + " " + x.fault() + " " + state(x),
                y.will(0, n) + " " + y.fault() + " " + state(y));
        }
        for (int n = 0; n <= book.length(); n++) {
            StreetDreams x = feed(on(HOUSE), book);
            StreetDreams y = feed(on(HOUSE), book.substring(0, n));
            due("first " + n + " bytes of the book", x.book(n) + " " + x.fault() + " " + state(x),
                y.book(n) + " " + y.fault() + " " + state(y));
        }
        String full = padded("milk 5", 600);
        StreetDreams x = feed(new StreetDreams(), full);
        due("up to the last byte", x.street(600) * 1000 - x.fault(), -9600);
        StreetDreams digits = feed(new StreetDreams(), "milk " + times(595, "0"));
        due("digits up to the last byte", digits.street(600) * 1000 - digits.fault(), -9600);
        StreetDreams letters = feed(new StreetDreams(), times(600, "m"));
        due("letters up to the last byte", letters.street(600) * 1000 - letters.fault(), -9000);
        StreetDreams ahead = feed(new StreetDreams(), times(599, " ") + "m");
        due("a letter in the last byte", ahead.street(600) * 1000 - ahead.fault(), -9599);
    }

    /** Nothing of an earlier street, nor of one that had a fault, is left in a later one. */
    private static void streetsInTurn() {
        says("A STREET without CLAUSES.");
        String rich = EIGHT + times(10, "door 0 1 1;") + "turns 0 0;turns 3 9;" + times(12, "noise 5 0;")
            + "twin 0 1;twin 2 3;" + times(4, "dreamer 0 5;") + "milk 7;";
        String plain = TWO + "door 0 1 0;turns 1 0;noise 9 1;dreamer 1 3;";
        StreetDreams x = on(rich);
        x.keep(255);
        x.hush(0);
        due("none", street(x, ""), 0);
        due("as a new object", state(x), state(new StreetDreams()));
        due("the third one", street(x, plain), 2);
        due("as on a new object", state(x) + x.rooms(9) + x.far(0, 1), state(on(plain)) + "0-1");
        StreetDreams y = on(plain);
        due("a fault behind much", street(y, rich + "milk 301;"), -8);
        due("the next", street(y, plain), 2);
        due("as on a new object", state(y) + y.rooms(9) + y.far(0, 1), state(on(plain)) + "0-1");
        StreetDreams z = on(HOUSE);
        will(z, 0, "call 4;call 4;to 0;");
        will(z, 0, "wait 1;to 9;");
        will(z, 0, "call 4;");
        due("nor of a will", z.night(0, 3) * 10 + z.night(0, 2), 10);
        book(z, "gone 5;gone 6;seen 1;");
        book(z, "gone 5;gone 301;");
        due("nor of a book", book(z, "seen 5;") * 10 + z.whose(), 17);
    }

    private static void refusedLengths() {
        says("IllegalArgumentException: n is not 0 to the TAPE's bytes (it stays)");
        StreetDreams x = held();
        String state = state(x);
        refuses("street(1) of none", ARGUMENT, () -> x.street(1));
        feed(x, padded("milk 5;", 40));
        int[] none = {-1, 41, Integer.MIN_VALUE, Integer.MAX_VALUE};
        for (int n : none) {
            refuses("street(" + n + ") of 40", ARGUMENT, () -> x.street(n));
            due("the tape stays", x.count(1), 40);
            due("no text, no fault", x.fault(), -1);
        }
        due("counted", x.status(2), 5);
        due("all stays", state(x), state);
        due("its bytes stay: all 40", x.street(40), 0);
        due("told", x.told(5), 5);
        due("none of none", x.street(0), 0);
        StreetDreams y = feed(new StreetDreams(), times(600, " "));
        refuses("601", ARGUMENT, () -> y.street(601));
        due("600", y.street(600), 0);
    }

    private static void willFromTape() {
        says("NoSuchElementException: no such DREAMER (so below, ahead of others; the TAPE stays)");
        StreetDreams x = held();
        String state = state(x);
        feed(x, "wait 7;");
        int[] none = {1, 4, -1, Integer.MIN_VALUE, Integer.MAX_VALUE};
        for (int d : none) {
            refuses("will of dreamer " + d, ELEMENT, () -> x.will(d, 7));
            refuses("will of dreamer " + d + ", ahead of n", ELEMENT, () -> x.will(d, -1));
            due("the tape stays", x.count(1), 20);
        }
        due("counted", x.status(1) * 10 + x.status(2), 100);
        due("all stays", state(x), state);
        due("its bytes stay", x.will(0, 7), 1);
        StreetDreams four = on(ONE + times(4, "dreamer 0 0;"));
        due("the last of four", will(four, 3, "call 0;"), 1);
        refuses("a fifth", ELEMENT, () -> four.will(4, 0));
        due("it is his", four.night(3, 3) * 10 + four.night(2, 3), 10);
        StreetDreams nobody = new StreetDreams();
        refuses("of no dreamers", ELEMENT, () -> nobody.will(0, 0));
        says("Likewise the WILL of a DREAMER (n to 150): how many STEPS (also in BLOCKS).");
        due("less than 0", refusedWill(-1), 40);
        due("more than the tape", refusedWill(41), 40);
        due("far more", refusedWill(Integer.MAX_VALUE), 40);
        due("far less", refusedWill(Integer.MIN_VALUE), 40);
        StreetDreams y = feed(on(HOUSE), padded("wait 7;", 160));
        refuses("151 of 160", ARGUMENT, () -> y.will(0, 151));
        refuses("160 of 160", ARGUMENT, () -> y.will(0, 160));
        due("the tape stays", y.count(1), 160);
        due("150 of 160", y.will(0, 150), 1);
        due("the tape is empty then", y.count(1), 0);
        refuses("1 of none", ARGUMENT, () -> y.will(0, 1));
        due("the first bytes alone", feed(y, "wait 7;to 5;").will(0, 7), 1);
        due("the tape behind a fault", feed(y, "wait 7;to 5;").will(0, 12) * 100 + y.count(1), -800);
        willTaken("", 0);
        willTaken("again 2[if met[to 0;]else[to 1;wait 5;];until in 2[];];call 0;", 7);
        StreetDreams z = on(HOUSE, "call 4;");
        due("one step in place of another", will(z, 0, "wait 1;"), 1);
        due("the one ahead is gone", z.night(0, 3), 0);
        due("none in place of one", will(z, 0, ""), 0);
        says("A WILL (of a DREAMER) is a text of up to 150 bytes: { STEP \";\" }. STEP:");
        willTaken(padded("", 150), 0);
        willTaken(times(37, "to0;") + "  ", 37);
        willTaken("wait " + times(143, "0") + "7;", 1);
    }

    private static int refusedWill(int n) {
        StreetDreams x = feed(on(HOUSE), padded("wait 7;", 40));
        refuses("will(0, " + n + ") of 40", ARGUMENT, () -> x.will(0, n));
        int tape = x.count(1);
        due("its bytes stay", x.will(0, 40), 1);
        return tape;
    }

    // ---- clauses

    private static void clauses() {
        says("A STREET is a text of up to 600 bytes");
        String long59 = times(59, "milk 5;");
        String full = long59 + "milk " + times(593 - long59.length(), "0") + "9;";
        due("bytes", full.length(), 600);
        due("told", taken(full, 0).told(5), 9);
        taken(padded(ONE, 599) + " ", 1);
        says("{ CLAUSE \";\" }, at most 60.");
        due("59 and 1", taken(long59 + "milk 9;", 0).told(5), 9);
        taken(ONE + times(59, "milk 5;"), 1);
        faulty(times(60, "milk 5;") + "milk 9;", 3, 420);
        faulty(times(60, "milk 5;") + "  milk 9;", 3, 422);
        faulty(ONE + times(59, "milk 5;") + "sleeper 0 9 1;", 3, 427);
        String[] words = {"sleeper", "door", "turns", "noise", "twin", "dreamer", "milk"};
        for (String word : words) {
            faulty(times(60, "milk 5;") + word, 3, 420);
        }
        faulty(";", 1, 0);
    }

    private static void sleepers() {
        says("CLAUSE: \"sleeper\" F T W (SLEEPERS, numbered from 0 on, 8 at most");
        taken(times(7, ONE), 7);
        StreetDreams x = taken("sleeper 1 11 0;" + times(6, ONE) + "sleeper 7 17 0;", 8);
        due("the first is 0", x.sleeper(0, 0), 1);
        due("the eighth is 7", x.sleeper(7, 1), 17);
        refuses("8", ELEMENT, () -> x.sleeper(8, 0));
        faulty(EIGHT + "sleeper 0 9 1;", 3, 112);
        faulty(EIGHT + "milk 5; sleeper 0 9 1;", 3, 120);
        says("ROOM k is SLEEPER k's");
        StringBuilder b = new StringBuilder();
        for (int k = 0; k < 8; k++) {
            b.append("sleeper ").append(k).append(' ').append(k + 1).append(" 0;");
        }
        StreetDreams each = taken(b.toString(), 8);
        for (int k = 0; k < 8; k++) {
            due("rooms in minute " + k, each.rooms(k), 1 << k);
            due("room " + k, each.there(k, k), true);
        }
        says("he sleeps from MINUTE F to T, 0 to 300, T no less than F");
        due("0 to 0", taken("sleeper 0 0 0;", 1).sleeper(0, 1), 0);
        due("300 to 300", taken("sleeper 300 300 0;", 1).sleeper(0, 0), 300);
        due("0 to 300", taken("sleeper 0 300 0;", 1).sleeper(0, 1), 300);
        taken("sleeper 5 5 0;", 1);
        faulty("sleeper 301 301 0;", 2, 8);
        faulty("sleeper 0 301 0;", 2, 10);
        faulty("sleeper 5 4 0;", 2, 10);
        faulty("sleeper 300 299 0;", 2, 12);
        faulty("sleeper 1 0 0;", 2, 10);
        says("wakes by odds W, 0 to 15 of 16");
        due("0", taken("sleeper 0 9 0;", 1).sleeper(0, 2), 0);
        due("15", taken("sleeper 0 9 15;", 1).sleeper(0, 2), 15);
        faulty("sleeper 0 9 16;", 2, 12);
    }

    private static void doors() {
        says("\"door\" A B S (DOORS likewise, 10: between ROOMS A and B, unlike; S 1 it is open at first, 0 shut)");
        StreetDreams x = taken(TWO + "door 1 0 0;" + times(8, "door 0 1 1;") + "door 1 0 1;", 2);
        due("ten", x.told(1), 10);
        due("the first is 0", x.door(0, 0) * 100 + x.door(0, 1) * 10 + x.door(0, 2), 100);
        due("the tenth is 9", x.door(9, 0) * 100 + x.door(9, 1) * 10 + x.door(9, 2), 101);
        refuses("10", ELEMENT, () -> x.door(10, 0));
        faulty(TWO + times(10, "door 0 1 1;") + "door 0 1 1;", 3, 138);
        faulty(TWO + "door 0 0 1;", 2, 35);
        faulty(TWO + "door 1 1 1;", 2, 35);
        faulty(TWO + "door 0 1 2;", 2, 37);
        due("open", taken(TWO + "door 0 1 1;", 2).open(0, 0), true);
        due("shut", taken(TWO + "door 0 1 0;", 2).open(0, 0), false);
    }

    private static void turns() {
        says("\"turns\" K D (a NOISE of SORT K, 0 to 5, turns DOOR D: open ones shut, shut ones open; twice as once)");
        String street = TWO + "door 0 1 1;door 0 1 0;";
        StreetDreams x = taken(street + "turns 0 0;turns 5 1;turns 0 1;turns 0 0;turns 0 0;noise 4 0;", 2);
        due("0 and 5 are taken", x.door(0, 3) * 100 + x.door(1, 3), 133);
        due("the open one is shut, though turned thrice", x.open(0, 4), false);
        due("the shut one is open", x.open(1, 4), true);
        due("twice as once", taken(street + "turns 3 0;turns 3 0;noise 4 3;", 2).open(0, 4), false);
        faulty(street + "turns 6 0;", 2, 56);
        faulty(street + "turns 0 2;", 2, 58);
        due("ten doors", taken(TWO + times(10, "door 0 1 0;") + "turns 5 9;noise 0 5;", 2).open(9, 0), true);
    }

    private static void noises() {
        says("\"noise\" M K (NOISES, 12 at most: in MINUTE M, 0 to 300, one of SORT K)");
        StreetDreams x = taken("noise 0 0;" + times(10, "noise 9 3;") + "noise 300 5;", 0);
        due("twelve", x.told(2), 12);
        due("the first", x.noise(0, 0) * 10 + x.noise(0, 1), 0);
        due("the twelfth", x.noise(11, 0) * 10 + x.noise(11, 1), 3005);
        due("no thirteenth", x.noise(12, 0), -1);
        faulty(times(12, "noise 9 3;") + "noise 9 3;", 3, 120);
        faulty("noise 301 0;", 2, 6);
        faulty("noise 0 6;", 2, 8);
        StreetDreams door = taken(TWO + "door 0 1 0;turns 5 0;noise 300 5;", 2);
        due("in minute 300", row(m -> door.open(0, m), 298, 300), "001");
        StreetDreams first = taken(TWO + "door 0 1 0;turns 5 0;noise 0 5;", 2);
        due("in minute 0", row(m -> first.open(0, m), 0, 1), "11");
    }

    private static void twins() {
        says("\"twin\" A B (ROOMS A and B are one in two heads, else two ROOMS: each is there while either SLEEPER sleeps; "
            + "3 at most, no ROOM in two of them)");
        StreetDreams x = taken(EIGHT + "twin 0 7;twin 6 1;twin 2 3;", 8);
        int[] other = {7, 6, 3, 2, -1, -1, 1, 0};
        for (int k = 0; k < 8; k++) {
            due("twin of " + k, x.sleeper(k, 3), other[k]);
        }
        due("three", x.told(3), 3);
        x.keep(1 << 7 | 1 << 1 | 1 << 2);
        due("the rooms of three twins", x.rooms(300), 0xcf);
        faulty(EIGHT + "twin 0 1;twin 2 3;twin 4 5;twin 6 7;", 3, 139);
        faulty(TWO + ONE + "twin 0 1;twin 0 2;", 2, 56);
        faulty(TWO + ONE + "twin 0 1;twin 1 2;", 2, 56);
        faulty(TWO + ONE + "twin 0 1;twin 2 0;", 2, 58);
        faulty(TWO + ONE + "twin 0 1;twin 2 1;", 2, 58);
        faulty(TWO + "twin 0 1;twin 0 1;", 2, 42);
        faulty(TWO + "twin 0 0;", 2, 35);
        faulty(TWO + "twin 0 2;", 2, 35);
        StreetDreams two = taken("sleeper 3 5 0;sleeper 4 7 0;twin 0 1;dreamer 0 4;dreamer 1 4;", 2);
        due("room 0 while either sleeps", row(m -> two.there(0, m), 2, 7), "011110");
        due("room 1 while either sleeps", row(m -> two.there(1, m), 2, 7), "011110");
        due("but two sleepers", row(m -> two.sleeps(0, m), 2, 7), "011000");
        due("else two rooms: nobody in his", two.night(0, 4) + two.night(1, 4), 0);
        due("nor a door between them", two.far(0, 1), -1);
    }

    private static void dreamers() {
        says("\"dreamer\" R M (DREAMERS likewise, 4: comes into ROOM R in MINUTE M, 0 to 300)");
        StreetDreams x = taken(TWO + "dreamer 1 0;dreamer 0 8;dreamer 0 9;dreamer 1 300;", 2);
        due("four", x.told(4), 4);
        due("the first is 0 and comes in 0", path(x, 0, 0, 9), "111111111.");
        due("in the last minute in which it is there", path(x, 1, 7, 9), ".0.");
        due("too late", x.night(2, 0), 9);
        due("the fourth is 3 and comes in 300, too late", x.night(3, 0), 300);
        x.keep(2);
        due("into the room of a kept one", path(x, 3, 299, 300), ".1");
        refuses("4", ELEMENT, () -> x.night(4, 0));
        faulty(TWO + times(4, "dreamer 1 0;") + "dreamer 1 0;", 3, 76);
        faulty(TWO + "dreamer 1 301;", 2, 38);
        faulty(TWO + "dreamer 2 0;", 2, 36);
    }

    private static void milk() {
        says("or \"milk\" M (the milkman wakes SLEEPERS 0, 1, .. in MINUTES M, M and 1, ..; 0 to 300; the last counts; "
            + "without: he does not come)");
        due("0", taken("milk 0;", 0).told(5), 0);
        due("300", taken("milk 300;", 0).told(5), 300);
        faulty("milk 301;", 2, 5);
        due("the last", taken("milk 300;milk 0;milk 7;", 0).told(5), 7);
        due("without", taken(TWO, 2).told(5), -1);
        due("without: they sleep to T", taken("sleeper 0 300 0;", 1).lasting(0, 0), 300);
        StreetDreams x = taken("milk 4;sleeper 0 300 0;sleeper 0 300 0;milk 6;sleeper 0 300 0;", 3);
        due("0 is woken in 6, by the last", row(m -> x.sleeps(0, m), 3, 8), "111000");
        due("1 is woken in 7", row(m -> x.sleeps(1, m), 3, 8), "111100");
        due("2, told behind it, is woken in 8", row(m -> x.sleeps(2, m), 3, 8), "111110");
        StreetDreams y = taken(times(3, "sleeper 0 300 0;") + "milk 300;", 3);
        due("in the last minutes", y.asleep(299), 7);
        StreetDreams z = taken(times(8, "sleeper 0 300 0;") + "milk 0;", 8);
        due("the first in minute 0", z.asleep(0), 254);
        due("the eighth in minute 7", z.asleep(6) * 1000 + z.asleep(7), 128000);
    }

    private static void toldAhead() {
        says("K, R, A, B, D: told ahead.");
        faulty("door 0 1 1;" + TWO, 2, 5);
        faulty("sleeper 0 9 1;door 0 1 1;sleeper 0 9 1;", 2, 21);
        faulty("sleeper 0 9 1;door 1 0 1;sleeper 0 9 1;", 2, 19);
        taken(TWO + "door 1 0 1;sleeper 0 9 1;door 2 0 1;", 3);
        faulty("turns 0 0;", 2, 8);
        faulty(TWO + "turns 0 0;door 0 1 1;", 2, 36);
        faulty(TWO + "door 0 1 1;turns 0 1;door 0 1 1;", 2, 47);
        taken(TWO + "door 0 1 1;turns 0 0;door 0 1 1;turns 0 1;", 2);
        faulty("sleeper 0 9 1;twin 0 1;sleeper 0 9 1;", 2, 21);
        faulty("sleeper 0 9 1;twin 1 0;sleeper 0 9 1;", 2, 19);
        faulty("dreamer 0 0;sleeper 0 9 1;", 2, 8);
        faulty("sleeper 0 9 1;dreamer 1 0;sleeper 0 9 1;", 2, 22);
        taken(EIGHT + "door 7 6 1;twin 7 6;dreamer 7 0;", 8);
        faulty(EIGHT + "door 8 6 1;", 2, 117);
        faulty(EIGHT + "door 6 8 1;", 2, 119);
        faulty(EIGHT + "twin 8 6;", 2, 117);
        faulty(EIGHT + "dreamer 8 0;", 2, 120);
        due("a sort that turns no door yet", taken("noise 4 5;", 0).told(2), 1);
        StreetDreams x = taken(TWO + "noise 4 5;door 0 1 0;turns 5 0;", 2);
        due("the noise told ahead turns it", row(m -> x.open(0, m), 3, 4), "01");
        willTaken("to 2;if open 1[];call 5;", 3);
        willFaulty("to 3;", 2, 3);
        willFaulty("if open 2[];", 2, 8);
    }

    // ---- wills

    private static void steps() {
        says("\"wait\" N (1 to 99 MINUTES)");
        willTaken("wait 1;", 1);
        willTaken("wait 99;", 1);
        willFaulty("wait 0;", 2, 5);
        willFaulty("wait 100;", 2, 5);
        says("\"call\" K (a NOISE of SORT K)");
        willTaken("call 0;", 1);
        willTaken("call 5;", 1);
        willFaulty("call 6;", 2, 5);
        says("\"again\" N BLOCK (0 to 20 times)");
        willTaken("again 0[];", 1);
        willTaken("again 20[];", 1);
        willFaulty("again 21[];", 2, 6);
        says("\"to\" R (through an open DOOR into ROOM R, if both ROOMS are there; else he stays)");
        willTaken("to 0;", 1);
        willTaken("to 2;", 1);
        willFaulty("to 3;", 2, 3);
        willFaulty("to;", 1, 2);
    }

    private static void blocks() {
        says("BLOCK: \"[\" { STEP \";\" } \"]\".");
        willTaken("again 1[];", 1);
        willTaken("again 1[call 0;];", 2);
        willTaken("again 1[call 0;call 0;];", 3);
        willFaulty("again 1;", 1, 7);
        willFaulty("again 1];", 1, 7);
        willFaulty("again 1[call 0];", 1, 14);
        willFaulty("again 1[;];", 1, 8);
        willFaulty("again 1[]", 1, 9);
        willFaulty("again 1[]];", 1, 9);
        willFaulty("];", 1, 0);
        willFaulty("[];", 1, 0);
        says("\"if\" T BLOCK, perhaps \"else\" BLOCK");
        willTaken("if met[];", 1);
        willTaken("if met[]else[];", 1);
        willTaken("if met[call 0;]else[call 0;if met[]else[];];", 4);
        willFaulty("if met;", 1, 6);
        willFaulty("if met else[];", 1, 7);
        willFaulty("if met[]else;", 1, 12);
        willFaulty("if met[]else[]else[];", 1, 14);
        willFaulty("if met[]elses[];", 1, 8);
        willFaulty("if met[];else[];", 1, 9);
        willFaulty("until met[]else[];", 1, 11);
        willFaulty("again 1[]else[];", 1, 9);
        willFaulty("else[];", 1, 0);
    }

    private static void questions() {
        says("\"after\" M (it is MINUTE M, 0 to 300, or later)");
        willTaken("if after 0[];", 1);
        willTaken("if after 300[];", 1);
        willFaulty("if after 301[];", 2, 9);
        says("T: \"in\" R (he is in it), \"open\" D, \"there\" R, \"met\" (another DREAMER is in his ROOM)");
        willTaken("if in 0[];if in 2[];if open 0[];if open 1[];if there 0[];if there 2[];if met[];", 7);
        willFaulty("if in 3[];", 2, 6);
        willFaulty("if open 2[];", 2, 8);
        willFaulty("if there 3[];", 2, 9);
        willFaulty("if met 0[];", 1, 7);
        willFaulty("if in[];", 1, 5);
        willFaulty("if[];", 1, 2);
        willFaulty("if not[];", 1, 6);
        willFaulty("until 1[];", 1, 6);
        willFaulty("if to 1[];", 1, 3);
    }

    // ---- books

    private static void books() {
        says("Likewise the BOOK (n to 150): how many lines.");
        StreetDreams x = feed(on(HOUSE), padded("seen 7;", 160));
        refuses("-1", ARGUMENT, () -> x.book(-1));
        refuses("151 of 160", ARGUMENT, () -> x.book(151));
        refuses("160 of 160", ARGUMENT, () -> x.book(160));
        refuses("far more", ARGUMENT, () -> x.book(Integer.MAX_VALUE));
        refuses("far less", ARGUMENT, () -> x.book(Integer.MIN_VALUE));
        due("the tape stays, and no line is told", x.count(1) * 10 + x.told(7), 1600);
        due("150 of 160", x.book(150), 1);
        due("the tape is empty then", x.count(1), 0);
        refuses("1 of none", ARGUMENT, () -> x.book(1));
        due("counted", x.status(2), 6);
        due("the line stays", x.told(7), 1);
        due("none of none", x.book(0) * 10 + x.told(7), 0);
        feed(x, "seen 7;gone 8;");
        refuses("21 of 20", ARGUMENT, () -> x.book(21));
        due("the first line alone", x.book(7), 1);
        due("the tape behind a fault", feed(x, "seen 7;gone x;").book(14) * 100 + x.count(1), -900);
        due("the line stays", x.told(7), 1);
        says("A BOOK is one of up to 150 bytes: { \"seen\" M \";\" | \"gone\" M \";\" }, 12 lines at most");
        bookTaken("", 0);
        bookTaken(padded("", 150), 0);
        bookTaken(times(11, "seen 1;") + "gone " + times(66, "0") + "3;", 12);
        bookTaken(times(12, "gone 1;"), 12);
        bookFaulty(times(12, "gone 1;") + "gone 1;", 3, 84);
        bookFaulty(times(12, "gone 1;") + " seen", 3, 85);
        bookFaulty("seen 1", 1, 6);
        bookFaulty("seen;", 1, 4);
        bookFaulty("Seen 1;", 1, 0);
        says("a ROOM was there in MINUTE M (0 to 300), or was not");
        bookTaken("seen 0;seen 300;gone 0;gone 300;", 4);
        bookFaulty("seen 301;", 2, 5);
        bookFaulty("gone 301;", 2, 5);
        StreetDreams y = on("sleeper 0 1 0;sleeper 299 300 0;");
        y.keep(0);
        due("there in 0", book(y, "seen 0;") * 10 + y.whose(), 11);
        due("not there in 0", book(y, "gone 0;") * 10 + y.whose(), 12);
        due("there in 300", book(y, "seen 300;") * 10 + y.whose(), 10);
        due("not there in 300, there in 299", book(y, "gone 300;seen 299;") * 10 + y.whose(), 22);
    }

    // ---- numbers, words, blanks

    private static void numbersAndWords() {
        says("Numbers: digits, as many as stand there");
        due("one digit", taken("milk 7;", 0).told(5), 7);
        due("with noughts ahead", taken("milk 00000000000000000000000000000000300;", 0).told(5), 300);
        due("nought of many", taken("milk 0000000000;", 0).told(5), 0);
        due("behind its word", taken("milk7;", 0).told(5), 7);
        faulty("milk 0000000000301;", 2, 5);
        faulty("milk 3000;", 2, 5);
        faulty("milk 4294967296;", 2, 5);
        faulty("milk 4294967303;", 2, 5);
        faulty("milk 18446744073709551623;", 2, 5);
        faulty("milk " + times(500, "9") + ";", 2, 5);
        faulty("milk +7;", 1, 5);
        faulty("milk -7;", 1, 5);
        faulty("milk 7.;", 1, 6);
        faulty("milk 7x;", 1, 6);
        faulty("sleeper 0 91;", 1, 12);
        willTaken("wait 00099;", 1);
        willFaulty("wait 4294967297;", 2, 5);
        bookFaulty("seen 4294967297;", 2, 5);
        says("WORDS: small letters, as many as stand there");
        faulty("milks 7;", 1, 0);
        faulty("mil 7;", 1, 0);
        faulty("milkmilk 7;", 1, 0);
        faulty("Milk 7;", 1, 0);
        faulty("mILK 7;", 1, 0);
        faulty("{ilk 7;", 1, 0);
        faulty("`ilk 7;", 1, 0);
        faulty("mil{ 7;", 1, 0);
        faulty("milk` 7;", 1, 4);
        faulty("milkz 7;", 1, 0);
        faulty("milka 7;", 1, 0);
        faulty("zmilk 7;", 1, 0);
        faulty("amilk 7;", 1, 0);
        willFaulty("if met[]elsez[];", 1, 8);
        bookFaulty("seena 7;", 1, 0);
        faulty("milk/7;", 1, 4);
        faulty("milk:7;", 1, 4);
        willTaken("to1;if not met[]else[];", 2);
        willFaulty("ifmet[];", 1, 0);
        willFaulty("if notmet[];", 1, 3);
        willFaulty("if mets[];", 1, 3);
        bookTaken("seen7;gone8;", 2);
        bookFaulty("seengone 7;", 1, 0);
    }

    private static void blanks() {
        says("blanks (32) may stand ahead of all these, and at the end");
        taken("   ", 0);
        due("ahead of each, and at the end", taken("  sleeper   0  9   1  ;  milk  7 ;   ", 1).told(5), 7);
        willTaken("  again   2 [  call   0 ;  ]  ; if   not   met  [ ]  else  [ ] ;  ", 3);
        bookTaken("  seen   7  ;  gone  8;  ", 2);
        taken("milk 7;milk 7;", 0);
        faulty("mi lk 7;", 1, 0);
        faulty("milk 7 7;", 1, 7);
        int[] others = {0, 9, 10, 13, 31, 33, 160};
        for (int sign : others) {
            faulty("milk" + (char) sign + "7;", 1, 4);
            faulty("milk 7;" + (char) sign, 1, 7);
        }
        willFaulty("wait\t1;", 1, 4);
        bookFaulty("seen 1;\n", 1, 7);
    }

    // ---- faults

    private static void firstFault() {
        says("FAULTS, the first from the left, at its first byte");
        faulty("milk 301;milks 7;", 2, 5);
        faulty("milks 301;", 1, 0);
        faulty("sleeper 301 302 16;", 2, 8);
        faulty("sleeper 0 302 16;", 2, 10);
        faulty("milk 7;   mulk 7;", 1, 10);
        faulty("milk    0301;", 2, 8);
        faulty("milk 7   x;", 1, 9);
        faulty(EIGHT + "   sleeper 301 0 0;", 3, 115);
        faulty(TWO + "door 5 5 5;", 2, 33);
        willFaulty("wait 7;  go 1;wait 0;", 1, 9);
        willFaulty("wait   100;go 1;", 2, 7);
        bookFaulty("seen 7;  soon 8;seen 301;", 1, 9);
        says("The place of the FAULT of the latest text; NONE without.");
        StreetDreams x = new StreetDreams();
        due("of no text", x.fault(), -1);
        street(x, "milk 301;");
        due("of a street", x.fault(), 5);
        refuses("a call that tells no text", ARGUMENT, () -> x.street(-1));
        due("stays", x.fault(), 5);
        feed(x, "milk");
        due("stays", x.fault(), 5);
        x.street(0);
        due("of a text that has none", x.fault(), -1);
        street(x, HOUSE);
        will(x, 0, "wait 7;wait");
        due("of a will", x.fault(), 11);
        book(x, "soon 1;");
        due("of a book, in its first byte", x.fault(), 0);
        book(x, "seen 1;");
        due("of a book that has none", x.fault(), -1);
        will(x, 0, "go");
        due("of a will", x.fault(), 0);
        refuses("a dreamer who is none", ELEMENT, () -> x.will(1, 0));
        due("stays", x.fault(), 0);
        will(x, 0, "");
        due("of a will that has none", x.fault(), -1);
    }

    /** What stands ahead of a cut text: its fault is told at the length. */
    private static void cutEnds(String text, String kind) {
        for (int n = 1; n < text.length(); n++) {
            boolean inside = Character.isLetterOrDigit(text.charAt(n - 1)) && Character.isLetterOrDigit(text.charAt(n));
            boolean behindClause = text.charAt(n - 1) == ';' && text.substring(0, n).chars().filter(c -> c == '[').count()
                == text.substring(0, n).chars().filter(c -> c == ']').count();
            if (!inside && !behindClause) {
                String cut = text.substring(0, n);
                if (kind.equals("street")) {
                    faulty(cut, 1, n);
                    faulty(cut + "  ", 1, n + 2);
                } else if (kind.equals("will")) {
                    willFaulty(cut, 1, n);
                    willFaulty(cut + "  ", 1, n + 2);
                } else {
                    bookFaulty(cut, 1, n);
                    bookFaulty(cut + "  ", 1, n + 2);
                }
            }
        }
    }

    private static void faultAtTheEnd() {
        says("1 what can't stand there (at the length, if the text ends too early)");
        cutEnds("sleeper 0 9 1;sleeper 2 9 0;door 0 1 1;turns 2 0;noise 4 2;twin 0 1;dreamer 1 3;milk 6;", "street");
        cutEnds("to 1;wait 3;call 4;again 2[call 1;];until not in 1[call 3;];if met[call 1;]else[call 2;];", "will");
        cutEnds("if open 0[];if there 1[];if after 20[again 1[if not met[];];];", "will");
        cutEnds("seen 5;gone 60;", "book");
        faulty("mil", 1, 0);
        faulty("milk 7;mil", 1, 7);
        willFaulty("if met[]el", 1, 8);
        willFaulty("if me", 1, 3);
        bookFaulty("see", 1, 0);
        faulty("7", 1, 0);
        faulty("milk;", 1, 4);
        faulty("milk x;", 1, 5);
        faulty("milk 7;;", 1, 7);
        faulty("milk 7;[", 1, 7);
        faulty("wait 7;", 1, 0);
        faulty("seen 7;", 1, 0);
        willFaulty("milk 7;", 1, 0);
        willFaulty("seen 7;", 1, 0);
        bookFaulty("to 1;", 1, 0);
    }

    private static void numbersNoneSuch() {
        says("2 a number that is none such (a ROOM of another twin: at it)");
        faulty(TWO + ONE + "twin 0 1;twin 1 2;", 2, 56);
        faulty(TWO + ONE + "twin 0 1;twin 2 0;", 2, 58);
        faulty(TWO + ONE + "twin 0 1;twin 1 5;", 2, 56);
        faulty(TWO + ONE + "twin 0 1;twin 2  1;", 2, 59);
        faulty("noise 301 6;", 2, 6);
        faulty("noise 300 6;", 2, 10);
        faulty("noise 300 6", 2, 10);
        faulty("milk 301", 2, 5);
        willFaulty("again 21;", 2, 6);
        willFaulty("if in 9", 2, 6);
        bookFaulty("gone 999", 2, 5);
    }

    private static void oneTooMany() {
        says("3 a CLAUSE, SLEEPER, DOOR, NOISE, twin, DREAMER or line too many (at its word)");
        faulty(times(60, "milk 5;") + " milk 5;", 3, 421);
        faulty(EIGHT + " sleeper 0 9 1;", 3, 113);
        faulty(TWO + times(10, "door 0 1 1;") + " door 0 1 1;", 3, 139);
        faulty(times(12, "noise 5 5;") + " noise 5 5;", 3, 121);
        faulty(EIGHT + "twin 0 1;twin 2 3;twin 4 5; twin 6 7;", 3, 140);
        faulty(ONE + times(4, "dreamer 0 5;") + " dreamer 0 5;", 3, 63);
        bookFaulty(times(12, "seen 1;") + " seen 1;", 3, 85);
        faulty(EIGHT + "sleeper", 3, 112);
        faulty(TWO + times(10, "door 0 1 1;") + "door 9", 3, 138);
        faulty(times(12, "noise 5 5;") + "noise 301", 3, 120);
        faulty(EIGHT + "twin 0 1;twin 2 3;twin 4 5;twin 0", 3, 139);
        faulty(ONE + times(4, "dreamer 0 5;") + "dreamer;", 3, 62);
        says("or a 7th BLOCK open at one time (at its [)");
        willTaken(times(6, "again 1[") + times(6, "];"), 6);
        willFaulty(times(6, "again 1[") + "again 1[", 3, 55);
        willFaulty(times(6, "again 1[") + "again 1 [", 3, 56);
        willFaulty(times(6, "if met[") + "if met[", 3, 48);
        willFaulty(times(6, "until met[") + "until met[", 3, 69);
        willFaulty(times(5, "if met[") + "if met[]else[if met[", 3, 54);
        willTaken(times(5, "if met[") + "if met[]else[];" + times(5, "];"), 6);
        willTaken(times(9, "again 1[];"), 9);
        willTaken(times(4, "again 1[") + times(5, "again 1[];") + "again 1[again 1[];];" + times(4, "];"), 11);
        willFaulty(times(6, "again 1[") + "again 1;", 1, 55);
        willFaulty(times(6, "again 1[") + "again 21[", 2, 54);
        says("a 7th not of one T (at its word)");
        willTaken("if not not not not not not met[];", 1);
        willTaken("if not not not not not not met[if not not not not not not met[];];", 2);
        willFaulty("if not not not not not not not met[];", 3, 27);
        willFaulty("if not not not not not not  not", 3, 28);
        willFaulty("until not not not not not not not in 9[];", 3, 30);
    }

    private static void leastFault() {
        says("of one the least");
        faulty(times(60, "milk 5;") + "mulk 5;", 1, 420);
        faulty(times(60, "milk 5;") + "7", 1, 420);
        faulty(times(60, "milk 5;") + ";", 1, 420);
        bookFaulty(times(12, "seen 1;") + "soon 1;", 1, 84);
        bookFaulty(times(12, "seen 1;") + "7", 1, 84);
        willFaulty("if not not not not not not nought met[];", 1, 27);
        taken(times(60, "milk 5;") + " ", 0);
        bookTaken(times(12, "seen 1;") + " ", 12);
    }

    // ---- promises 7 to 10: what was told

    private static void toldCounts() {
        says("0 SLEEPERS, 1 DOORS, 2 NOISES, 3 twins, 4 DREAMERS, 5 M of the milkman (NONE), 6 KEPT (bits), "
            + "7 lines of the BOOK");
        String full = EIGHT + times(10, "door 0 1 1;") + times(12, "noise 5 5;") + "twin 0 1;twin 2 3;twin 4 5;"
            + times(4, "dreamer 0 5;") + "milk 300;";
        StreetDreams x = taken(full, 8);
        x.keep(255);
        book(x, times(12, "seen 1;"));
        int[] most = {8, 10, 12, 3, 4, 300, 255, 12};
        for (int what = 0; what < 8; what++) {
            due("told(" + what + ") of all that can be told", x.told(what), most[what]);
            due("told(" + what + ") of nothing", new StreetDreams().told(what), what == 5 ? -1 : 0);
        }
        x.hush(3);
        due("noises left", x.told(2), 11);
        x.make(3, 3);
        due("and made", x.told(2), 12);
    }

    private static void whatWasTold() {
        says("Of a SLEEPER: 0 F, 1 T, 2 W, 3 his ROOM's twin (NONE)");
        StreetDreams x = taken("sleeper 300 300 15;sleeper 0 0 0;sleeper 7 8 9;twin 0 1;door 2 0 1;door 0 2 0;turns 0 1;"
            + "turns 5 1;", 3);
        int[][] sleepers = {{300, 300, 15, 1}, {0, 0, 0, 0}, {7, 8, 9, -1}};
        for (int k = 0; k < 3; k++) {
            for (int what = 0; what < 4; what++) {
                due("sleeper(" + k + ", " + what + ")", x.sleeper(k, what), sleepers[k][what]);
            }
        }
        x.sleep(2, 0, 300);
        due("F and T as they are now", x.sleeper(2, 0) * 1000 + x.sleeper(2, 1), 300);
        says("Of a DOOR: 0 A, 1 B, 2 S, 3 SORTS that turn it (bits)");
        int[][] doors = {{2, 0, 1, 0}, {0, 2, 0, 33}};
        for (int d = 0; d < 2; d++) {
            for (int what = 0; what < 4; what++) {
                due("door(" + d + ", " + what + ")", x.door(d, what), doors[d][what]);
            }
        }
        StreetDreams all = taken(TWO + "door 0 1 0;turns 0 0;turns 1 0;turns 2 0;turns 3 0;turns 4 0;turns 5 0;noise 0 1;", 2);
        due("all sorts", all.door(0, 3), 63);
        due("S is at first, not behind a noise", all.door(0, 2), 0);
        says("Of the i-th NOISE: 0 M, 1 K; NONE: none such");
        StreetDreams y = taken("noise 300 0;noise 0 5;", 0);
        due("the first", y.noise(0, 0) * 10 + y.noise(0, 1), 3000);
        due("the last", y.noise(1, 0) * 10 + y.noise(1, 1), 5);
        int[] none = {2, -1, 12, Integer.MIN_VALUE, Integer.MAX_VALUE};
        for (int i : none) {
            due("M of noise " + i, y.noise(i, 0), -1);
            due("K of noise " + i, y.noise(i, 1), -1);
            refuses("what, though there is no noise " + i, ARGUMENT, () -> y.noise(i, 2));
        }
        due("none such is no refusal", y.status(0) + y.status(1) * 10 + y.status(2) * 100, 500);
    }
}

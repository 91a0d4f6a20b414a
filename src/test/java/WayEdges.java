/** The edges of ways: from room to room in time, who is cut off, who is to be kept. Document ==== 3, promises 17 to 24. */
final class WayEdges extends Checks {
    /** Two rooms that are there in minutes 0 to 299. */
    private static final String PAIR = "sleeper 0 300 0;sleeper 0 300 0;";
    private static final String OPEN = PAIR + "door 0 1 1;";
    private static final String SHUT = PAIR + "door 0 1 0;turns 0 0;";

    /** Eight rooms in a row, all doors open. */
    private static final String CHAIN = times(8, "sleeper 0 300 0;") + "door 0 1 1;door 1 2 1;door 2 3 1;door 3 4 1;"
        + "door 4 5 1;door 5 6 1;door 6 7 1;";

    static void all() {
        noCalls();
        beginsThere();
        nextMinute();
        thereAllAlong();
        soonest();
        wayInMinute();
        leastRooms();
        latest();
        latestOrAhead();
        cutOff();
        cutByMinute();
        fewest();
        fewestOfAlike();
        fewestByKept();
        meet();
        met();
        nothingStays();
    }

    /** The rooms of a way, one sign a minute, '.' for NONE. */
    private static String way(StreetDreams x, int a, int minute, int b, int from, int to) {
        StringBuilder s = new StringBuilder();
        for (int t = from; t <= to; t++) {
            int room = x.way(a, minute, b, t);
            s.append(room < 0 ? "." : String.valueOf(room));
        }
        return s.toString();
    }

    // ---- what a way is

    private static void noCalls() {
        says("A WAY (of nobody told; DOORS by NOISES as told, not by calls)");
        StreetDreams x = on(SHUT + "dreamer 0 5;", "call 0;");
        due("the night's door is open in 6", x.open(0, 6), true);
        due("not for ways", x.soonest(0, 5, 1), -1);
        due("nor for what is cut off", x.cut(0, 6), 2);
        due("nor to meet", x.met(0, 1, 6), -1);
        due("nor for reach", x.reach(0, 5, 9), 1);
        x.make(8, 0);
        due("the night's door is shut in 8", x.open(0, 8), false);
        due("not for ways", x.soonest(0, 5, 1), 8);
        due("nor for what is cut off", x.cut(0, 7) * 10 + x.cut(0, 8), 20);
        due("latest", x.latest(0, 1, 20), 19);
        due("met", x.met(0, 1, 5), 8);
    }

    private static void beginsThere() {
        says("one is in a ROOM that is THERE in a MINUTE");
        StreetDreams x = on("sleeper 5 9 0;");
        int[][] minutes = {{4, -1}, {5, 5}, {8, 8}, {9, -1}};
        for (int[] m : minutes) {
            int there = m[1] < 0 ? 0 : 1;
            due("soonest in " + m[0], x.soonest(0, m[0], 0), m[1]);
            due("met in " + m[0], x.met(0, 0, m[0]), m[1]);
            due("reach in " + m[0], x.reach(0, m[0], m[0]), there);
            due("way in " + m[0], x.way(0, m[0], 0, m[0]), there - 1);
            due("to be kept in " + m[0], x.fewest(0, m[0], 0), 1 - there);
            due("to meet in " + m[0], x.meet(0, 0, m[0]), 1 - there);
        }
        StreetDreams zero = on("sleeper 0 1 0;");
        due("in minute 0", zero.soonest(0, 0, 0), 0);
        due("in minute 1", zero.soonest(0, 1, 0), -1);
        zero.keep(1);
        due("in minute 300", zero.soonest(0, 300, 0), 300);
        StreetDreams twins = on("sleeper 0 0 0;sleeper 5 9 0;twin 0 1;");
        due("by the twin's sleeper", twins.soonest(0, 5, 0) * 10 + twins.soonest(0, 8, 0), 58);
        due("two rooms else", twins.soonest(0, 5, 1), -1);
    }

    private static void nextMinute() {
        says("in the next one he is in it yet, or behind a DOOR that is open in that next MINUTE");
        StreetDreams once = on(SHUT + "noise 30 0;noise 31 0;");
        due("open in 30 alone, from 0", once.soonest(0, 0, 1), 30);
        due("from 28", once.soonest(0, 28, 1), 30);
        due("from 29", once.soonest(0, 29, 1), 30);
        due("from 30", once.soonest(0, 30, 1), -1);
        due("from the other side", once.soonest(1, 29, 0), 30);
        due("the last start", once.latest(0, 1, 300), 29);
        StreetDreams until = on(OPEN + "turns 0 0;noise 30 0;");
        due("shut in 30, from 28", until.soonest(0, 28, 1), 29);
        due("shut in 30, from 29", until.soonest(0, 29, 1), -1);
        due("the last start", until.latest(0, 1, 300), 28);
        StreetDreams chain = on(CHAIN);
        due("a door a minute", chain.soonest(0, 5, 7), 12);
        due("the other way", chain.soonest(7, 0, 0), 7);
        due("reach in two", chain.reach(3, 5, 7), 62);
        StreetDreams first = on(SHUT + "noise 0 0;noise 1 0;");
        due("open in 0 alone: none is there ahead of it", first.soonest(0, 0, 1), -1);
        StreetDreams last = on(SHUT + "noise 300 0;");
        last.keep(3);
        due("open in 300 alone", last.soonest(0, 299, 1), 300);
        due("in 300 it is too late", last.soonest(0, 300, 1), -1);
    }

    private static void thereAllAlong() {
        says("wherever he is must be THERE");
        StreetDreams x = on("sleeper 0 300 0;sleeper 7 9 0;door 0 1 1;");
        due("there in 7, from 5", x.soonest(0, 5, 1), 7);
        due("from 6", x.soonest(0, 6, 1), 7);
        due("from 7", x.soonest(0, 7, 1), 8);
        due("from 8, gone in 9", x.soonest(0, 8, 1), -1);
        StreetDreams gap = on("sleeper 0 7 0;sleeper 8 20 0;door 0 1 1;");
        due("nowhere in 7", gap.soonest(0, 5, 1), -1);
        due("who stays is gone in 7", gap.reach(0, 5, 6) * 10 + gap.reach(0, 5, 7), 10);
        StreetDreams just = on("sleeper 0 8 0;sleeper 8 20 0;door 0 1 1;");
        due("out of it in the minute in which it goes", just.soonest(0, 5, 1), 8);
        due("its last minute is the last start", just.latest(0, 1, 20), 7);
        StreetDreams between = on("sleeper 0 300 0;sleeper 0 6 0;sleeper 0 300 0;door 0 1 1;door 1 2 1;");
        due("through a room in its last minute", between.soonest(0, 4, 2), 6);
        due("too late for it", between.soonest(0, 5, 2), -1);
        StreetDreams away = on("sleeper 0 6 0;sleeper 4 9 0;twin 0 1;");
        due("without a gap", away.reach(0, 0, 8) * 10 + away.reach(0, 0, 9), 10);
        StreetDreams back = on("sleeper 0 4 0;sleeper 5 9 0;twin 0 1;");
        due("with a gap of one", back.reach(0, 0, 3) * 10 + back.reach(0, 0, 5), 10);
    }

    // ---- promises 18 to 20

    private static void soonest() {
        says("SOONEST: the MINUTE in which one who is in ROOM A in MINUTE M can be in ROOM B first.");
        StreetDreams x = on(OPEN);
        due("in it, in 0", x.soonest(0, 0, 0), 0);
        due("in it, in 299", x.soonest(1, 299, 1), 299);
        due("in it, in 300, not there", x.soonest(1, 300, 1), -1);
        due("from 0", x.soonest(0, 0, 1), 1);
        due("by 299", x.soonest(0, 298, 1), 299);
        due("by 300, not there", x.soonest(0, 299, 1), -1);
        x.keep(2);
        due("by 300, there", x.soonest(0, 299, 1), 300);
        due("from 300", x.soonest(0, 300, 1), -1);
        due("from 300, in it", x.soonest(1, 300, 1), 300);
        StreetDreams two = on(times(3, "sleeper 0 300 0;") + "door 0 1 1;door 1 2 1;door 0 2 0;turns 0 2;noise 6 0;");
        due("the door that opens next", two.soonest(0, 5, 2), 6);
        due("ahead of it two doors", two.soonest(0, 3, 2), 5);
        says("SOONEST; NONE: never.");
        due("no door", on(PAIR).soonest(0, 0, 1), -1);
        due("a door that never opens", on(PAIR + "door 0 1 0;").soonest(0, 0, 1), -1);
        due("a room that never is", on("sleeper 0 300 0;sleeper 9 9 0;door 0 1 1;").soonest(0, 0, 1), -1);
        due("from a room that never is", on("sleeper 0 300 0;sleeper 9 9 0;door 0 1 1;").soonest(1, 0, 0), -1);
        due("never is no refusal", x.status(0) + x.status(2), 0);
    }

    private static void wayInMinute() {
        says("In which ROOM the first of the SOONEST WAYS is in a MINUTE t");
        StreetDreams x = on(CHAIN);
        due("from its minute on", way(x, 2, 5, 6, 5, 12), "23456666");
        due("down", way(x, 7, 0, 0, 0, 8), "765432100");
        says("behind its end: B); NONE: there is none, or t is ahead of its MINUTE");
        due("ahead of its minute", way(x, 2, 5, 6, 0, 5), ".....2");
        due("at its end, and behind it", way(x, 2, 5, 6, 9, 11), "666");
        due("in the last minute, in which B is gone", x.way(2, 5, 6, 300), 6);
        due("in it", way(x, 4, 5, 4, 3, 8), "..4444");
        due("in it from 0", way(x, 4, 0, 4, 0, 1), "44");
        due("none", way(on(PAIR), 0, 5, 1, 0, 300).replace(".", ""), "");
        due("B is gone soon", way(on("sleeper 0 20 0;sleeper 0 8 0;door 0 1 1;"), 0, 5, 1, 4, 9), ".01111");
        StreetDreams last = on(SHUT + "noise 300 0;");
        due("B is gone in 300", last.way(0, 5, 1, 300), -1);
        last.keep(2);
        due("a way up to the last minute", way(last, 0, 298, 1, 297, 300), ".001");
        due("in the last minute", way(last, 1, 300, 1, 299, 300), ".1");
        due("none from the last minute", last.way(0, 300, 1, 300), -1);
    }

    private static void leastRooms() {
        says("(MINUTE by MINUTE the least ROOM;");
        String rooms = times(5, "sleeper 0 300 0;");
        StreetDreams alike = on(rooms + "door 3 2 1;door 3 1 1;door 2 4 1;door 1 4 1;");
        due("of two alike ones the least", way(alike, 3, 5, 4, 5, 7), "314");
        due("back", way(alike, 4, 5, 3, 5, 7), "413");
        StreetDreams spare = on(rooms + "door 1 0 1;door 1 2 0;turns 0 1;noise 10 0;");
        due("the least room while there is time", way(spare, 1, 3, 2, 3, 10), "10000012");
        due("stays, if the others are greater", way(spare, 0, 3, 2, 3, 10), "00000012");
        StreetDreams greater = on(rooms + "door 1 3 1;door 1 2 0;turns 0 1;noise 10 0;");
        due("never to a greater one without need", way(greater, 1, 3, 2, 3, 10), "11111112");
        due("from the greater one at once", way(greater, 3, 3, 2, 3, 10), "31111112");
        StreetDreams first = on(rooms + "door 3 1 1;door 1 0 0;door 3 0 0;door 0 4 1;door 1 4 1;turns 0 2;noise 1 0;");
        due("the first minute's least room counts first", way(first, 3, 0, 4, 0, 2), "304");
        StreetDreams gone = on("sleeper 0 6 0;sleeper 0 20 0;sleeper 0 20 0;door 0 1 1;door 1 2 0;turns 0 1;noise 10 0;");
        due("out of a room that goes", way(gone, 1, 3, 2, 3, 10), "10011112");
    }

    private static void latest() {
        says("LATEST: the last MINUTE in which one can be in A so that he comes to B by MINUTE M or ahead.");
        StreetDreams x = on(OPEN);
        due("by 30", x.latest(0, 1, 30), 29);
        due("by 1", x.latest(0, 1, 1), 0);
        due("by 0", x.latest(0, 1, 0), -1);
        due("itself by 0", x.latest(0, 0, 0), 0);
        due("itself by 299", x.latest(0, 0, 299), 299);
        due("itself by 300, gone", x.latest(0, 0, 300), 299);
        due("by 300, gone", x.latest(0, 1, 300), 298);
        x.keep(2);
        due("by 300, there", x.latest(0, 1, 300), 299);
        due("itself by 300", x.latest(1, 1, 300), 300);
        due("out of the kept one by 300, gone", x.latest(1, 0, 300), 298);
        StreetDreams chain = on(CHAIN);
        due("seven doors by 7", chain.latest(0, 7, 7), 0);
        due("seven doors by 6", chain.latest(0, 7, 6), -1);
        due("seven doors by 299", chain.latest(7, 0, 299), 292);
    }

    private static void latestOrAhead() {
        says("LATEST; NONE.");
        StreetDreams x = on("sleeper 0 300 0;sleeper 5 9 0;door 0 1 1;");
        int[][] by = {{4, -1}, {5, 4}, {6, 5}, {7, 6}, {8, 7}, {9, 7}, {50, 7}, {300, 7}};
        for (int[] b : by) {
            due("by " + b[0] + " or ahead", x.latest(0, 1, b[0]), b[1]);
        }
        due("itself, ahead", x.latest(1, 1, 20), 8);
        due("itself, not yet", x.latest(1, 1, 4), -1);
        due("out of it in its last minute", x.latest(1, 0, 300), 8);
        due("out of it, not yet", x.latest(1, 0, 5), -1);
        due("out of it, just", x.latest(1, 0, 6), 5);
        StreetDreams none = on("sleeper 0 300 0;sleeper 9 9 0;door 0 1 1;");
        due("to a room that never is", none.latest(0, 1, 300), -1);
        due("from a room that never is", none.latest(1, 0, 300), -1);
        due("without a door", on(PAIR).latest(0, 1, 300), -1);
        StreetDreams early = on("sleeper 0 300 0;sleeper 0 6 0;sleeper 20 30 0;door 0 1 1;door 1 2 1;door 0 2 1;");
        due("A is gone long ahead of M: by another room", early.latest(1, 2, 30), 5);
    }

    // ---- promise 17

    private static void cutOff() {
        says("CUT off in a MINUTE: ROOMS THERE to which no WAY leads within that MINUTE's open DOORS (through ROOMS THERE) "
            + "from a told one.");
        StreetDreams x = on(CHAIN);
        for (int k = 0; k < 8; k++) {
            due("seven doors within the minute, from " + k, x.cut(k, 5), 0);
        }
        x.sleep(3, 0, 7);
        due("room 3 is there in 6", x.cut(0, 6), 0);
        due("it is gone in 7: from 0", x.cut(0, 7), 0xf0);
        due("from 2", x.cut(2, 7), 0xf0);
        due("from 4", x.cut(4, 7), 0x07);
        StreetDreams middle = on("sleeper 0 7 0;sleeper 0 300 0;sleeper 0 300 0;door 1 0 1;door 0 2 1;");
        due("room 0 in the middle is there in 6", middle.cut(1, 6), 0);
        due("room 0 in the middle is gone in 7", middle.cut(1, 7), 4);
        due("none of all rooms without doors", on(times(8, "sleeper 0 300 0;")).cut(5, 0), 0xdf);
        due("one alone", on("sleeper 0 300 0;").cut(0, 0), 0);
        due("twins have no door", on(PAIR + "twin 0 1;").cut(0, 0), 2);
        due("a room that is not there is not cut off", on("sleeper 0 9 0;sleeper 4 9 0;").cut(0, 3), 0);
        due("but then", on("sleeper 0 9 0;sleeper 4 9 0;").cut(0, 4), 2);
        says("CUT off from a ROOM, as bits (DOORS by NOISES as told; if it is not THERE: all that are).");
        StreetDreams y = on("sleeper 4 9 0;sleeper 0 20 0;sleeper 0 20 0;door 0 1 1;door 0 2 1;");
        due("in 3 it is not there", y.cut(0, 3), 6);
        due("in 4 it is", y.cut(0, 4), 0);
        due("in 8 it is", y.cut(0, 8), 0);
        due("in 9 it is not there", y.cut(0, 9), 6);
        due("none is there", y.cut(0, 20), 0);
        due("none is there, from another one", y.cut(1, 20), 0);
    }

    private static void cutByMinute() {
        says("within that MINUTE's open DOORS");
        StreetDreams x = on(SHUT + "noise 0 0;noise 7 0;noise 9 0;");
        due("open from 0 to 6 and from 9 on", row(m -> x.cut(0, m) == 0, 0, 10), "11111110011");
        due("from the other side", row(m -> x.cut(1, m) == 0, 0, 10), "11111110011");
        due("two in 0", on(SHUT + "noise 0 0;noise 0 0;").cut(0, 0), 2);
        StreetDreams last = on(SHUT + "noise 300 0;");
        due("none is there in 300", last.cut(0, 300), 0);
        last.keep(3);
        due("shut in 299", last.cut(0, 299), 2);
        due("open in 300", last.cut(0, 300), 0);
    }

    // ---- promises 22 to 24

    private static void fewest() {
        says("so that one gets from A in MINUTE M to B by MINUTE 300");
        StreetDreams x = on(OPEN);
        due("from 298", x.fewest(0, 298, 1), 0);
        due("from 299: room 1 in 300", x.fewest(0, 299, 1), 2);
        due("from 300: never", x.fewest(0, 300, 1), -1);
        due("itself in 299", x.fewest(0, 299, 0), 0);
        due("itself in 300", x.fewest(0, 300, 0), 1);
        due("from 0", x.fewest(0, 0, 1), 0);
        says("KEEP, as bits; NONE: not by all.");
        due("no door", on(PAIR).fewest(0, 0, 1), -1);
        due("a door that opens behind the last minute's begin", on(SHUT + "noise 300 0;").fewest(0, 299, 1), 2);
        due("a door that is open in 0 alone", on(SHUT + "noise 0 0;noise 1 0;").fewest(0, 0, 1), -1);
        StreetDreams chain = on(times(8, "sleeper 0 0 0;") + "door 0 1 1;door 1 2 1;door 2 3 1;door 3 4 1;door 4 5 1;"
            + "door 5 6 1;door 6 7 1;");
        due("all eight", chain.fewest(0, 0, 7), 255);
        due("all eight, just in time", chain.fewest(7, 293, 0), 255);
        due("a minute too late", chain.fewest(7, 294, 0), -1);
        due("some of them", chain.fewest(2, 100, 5), 0x3c);
        due("itself", chain.fewest(7, 100, 7), 128);
    }

    private static void fewestOfAlike() {
        says("KEEP: of all sets of SLEEPERS that hold all KEPT ones the fewest, of alike ones the least bits");
        String gone = times(6, "sleeper 0 0 0;");
        String ends = "sleeper 0 300 0;sleeper 0 300 0;";
        StreetDreams two = on(gone + ends + "door 6 0 1;door 0 3 1;door 3 7 1;door 6 1 1;door 1 2 1;door 2 7 1;");
        due("1 and 2, not 0 and 3: 6 bits, not 9", two.fewest(6, 5, 7), 6);
        StreetDreams one = on(gone + ends + "door 6 5 1;door 5 7 1;door 6 0 1;door 0 1 1;door 1 7 1;");
        due("5 alone, not 0 and 1", one.fewest(6, 5, 7), 32);
        StreetDreams alike = on(gone + ends + "door 6 5 1;door 5 7 1;door 6 4 1;door 4 7 1;");
        due("4, not 5", alike.fewest(6, 5, 7), 16);
        StreetDreams twins = on(gone + ends + "door 6 5 1;door 5 7 1;twin 5 2;");
        due("by the twin's sleeper of the least bits", twins.fewest(6, 5, 7), 4);
        StreetDreams both = on(gone + ends + "door 6 0 1;door 0 1 1;door 1 7 1;twin 0 1;");
        due("both rooms by one sleeper", both.fewest(6, 5, 7), 1);
        StreetDreams later = on("sleeper 0 300 0;sleeper 250 300 0;sleeper 0 300 0;door 0 1 1;door 1 2 1;");
        due("none: he can wait for it", later.fewest(0, 5, 2), 0);
    }

    private static void fewestByKept() {
        says("that hold all KEPT ones");
        String gone = times(6, "sleeper 0 0 0;");
        StreetDreams x = on(gone + "sleeper 0 300 0;sleeper 0 300 0;door 6 5 1;door 5 7 1;door 6 0 1;door 0 1 1;door 1 7 1;");
        x.keep(8);
        due("3 beside 5", x.fewest(6, 5, 7), 40);
        x.keep(1);
        due("0 and 1 now, not 0 and 5", x.fewest(6, 5, 7), 3);
        x.keep(32);
        due("5 is enough", x.fewest(6, 5, 7), 32);
        x.keep(192);
        due("those kept, and 5", x.fewest(6, 5, 7), 224);
        x.keep(255);
        due("all", x.fewest(6, 5, 7), 255);
        due("all, in 300", x.fewest(6, 300, 6), 255);
        due("not by all, though all are kept", x.fewest(6, 300, 7), -1);
        due("they stay kept", x.keep(0), 255);
    }

    private static void meet() {
        says("MEET: likewise so that two who come into A and B in MINUTE M can be in one ROOM in one MINUTE.");
        StreetDreams x = on(OPEN);
        due("from 298", x.meet(0, 1, 298), 0);
        due("from 299: one of them in 300", x.meet(0, 1, 299), 1);
        due("from 300", x.meet(0, 1, 300), -1);
        due("in one room in 299", x.meet(1, 1, 299), 0);
        due("in one room in 300", x.meet(1, 1, 300), 2);
        due("in one room in 0", x.meet(1, 1, 0), 0);
        says("MEET, as bits; NONE: not by all.");
        due("no door", on(PAIR).meet(0, 1, 0), -1);
        due("twins are two rooms", on(PAIR + "twin 0 1;").meet(0, 1, 0), -1);
        StreetDreams chain = on(times(8, "sleeper 0 0 0;") + "door 0 1 1;door 1 2 1;door 2 3 1;door 3 4 1;door 4 5 1;"
            + "door 5 6 1;door 6 7 1;");
        due("all eight", chain.meet(0, 7, 0), 255);
        due("four minutes are enough", chain.meet(0, 7, 296), 255);
        due("three are not", chain.meet(0, 7, 297), -1);
        due("two rooms with a door", chain.meet(3, 4, 100), 24);
        String ways = "sleeper 0 0 0;sleeper 0 0 0;sleeper 0 300 0;sleeper 0 300 0;door 2 1 1;door 3 1 1;door 2 0 1;door 3 0 1;";
        due("of alike ones the least bits", on(ways).meet(2, 3, 5), 1);
        StreetDreams kept = on(ways);
        kept.keep(2);
        due("the kept one is enough", kept.meet(2, 3, 5), 2);
        kept.keep(4);
        due("the kept one and another", kept.meet(2, 3, 5), 5);
        due("who come into a room that is not there: it is to be kept", on("sleeper 9 20 0;").meet(0, 0, 5), 1);
    }

    private static void met() {
        says("The first MINUTE in which two who come into A and B in a MINUTE can be in one ROOM (KEPT as they are); NONE.");
        StreetDreams x = on(OPEN);
        due("in one room, in 0", x.met(1, 1, 0), 0);
        due("in one room, in 299", x.met(1, 1, 299), 299);
        due("in one room, in 300, gone", x.met(1, 1, 300), -1);
        due("from 0", x.met(0, 1, 0), 1);
        due("from 298", x.met(0, 1, 298), 299);
        due("from 299, both are gone", x.met(0, 1, 299), -1);
        x.keep(1);
        due("from 299, room 0 is kept", x.met(0, 1, 299), 300);
        due("from 300", x.met(0, 1, 300), -1);
        due("from 300 in the kept one", x.met(0, 0, 300), 300);
        StreetDreams swap = on(OPEN + "turns 0 0;noise 7 0;");
        due("shut in the next minute", swap.met(0, 1, 6), -1);
        due("just open", swap.met(0, 1, 5), 6);
        StreetDreams chain = on(CHAIN);
        due("seven doors: four minutes", chain.met(0, 7, 5), 9);
        due("six doors: three minutes", chain.met(0, 6, 5), 8);
        StreetDreams gone = on("sleeper 0 300 0;sleeper 9 9 0;door 0 1 1;");
        due("one of the rooms is not there", gone.met(0, 1, 5), -1);
        due("nor the other", gone.met(1, 0, 5), -1);
        due("twins are two rooms", on(PAIR + "twin 0 1;").met(0, 1, 5), -1);
        StreetDreams late = on("sleeper 0 300 0;sleeper 0 300 0;sleeper 50 60 0;door 0 2 1;door 1 2 1;");
        due("where both wait for it", late.met(0, 1, 5), 50);
        due("in its last minute", late.met(0, 1, 58), 59);
        due("too late", late.met(0, 1, 59), -1);
    }

    private static void nothingStays() {
        says("Asked, nothing stays changed.");
        StreetDreams x = on("sleeper 0 100 5;sleeper 0 50 4;sleeper 10 200 8;door 0 1 1;door 1 2 0;door 0 2 1;turns 2 1;"
            + "turns 3 2;noise 20 2;dreamer 0 5;milk 40;", "to 1;until open 1[wait 1;];to 2;");
        book(x, "seen 5;");
        x.keep(2);
        String state = seen(x);
        x.fewest(0, 5, 2);
        x.meet(0, 2, 5);
        x.met(0, 1, 5);
        x.soonest(0, 5, 2);
        x.way(0, 5, 2, 30);
        x.latest(0, 2, 90);
        x.cut(0, 30);
        x.order(7, 0, 1);
        x.whose();
        x.want(8, 1);
        x.surest(0, 2, 3);
        x.drawn(7, 0);
        x.span(7, 20, 1);
        x.round(1);
        x.help();
        due("asked", seen(x), state);
    }

    private static String seen(StreetDreams x) {
        return state(x) + path(x, 0, 0, 40) + row(m -> x.there(2, m), 0, 20) + row(m -> x.open(1, m), 15, 45);
    }
}

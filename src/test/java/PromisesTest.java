/** For each promise of the document: ordinary calls, the edges that it names, and wrong inputs. */
public final class PromisesTest extends Checks {
    private static int promise;

    /** Three rooms, a door that opens in minute 20, one dreamer. */
    private static final String SMALL = "sleeper 0 100 0;sleeper 0 50 4;sleeper 10 200 8;door 0 1 1;door 1 2 0;"
        + "door 0 2 1;turns 2 1;turns 3 2;turns 3 0;noise 20 2;dreamer 0 5;";

    // ---- means

    private static void streetFault(String text, int kind, int place) {
        StreetDreams x = new StreetDreams();
        due("street \"" + text + "\"", street(x, text), kind - 10);
        due("fault of \"" + text + "\"", x.fault(), place);
    }

    private static void willFault(String text, int kind, int place) {
        StreetDreams x = on(SMALL);
        due("will \"" + text + "\"", will(x, 0, text), kind - 10);
        due("fault of \"" + text + "\"", x.fault(), place);
    }

    // ---- promises

    private static void p1() {
        StreetDreams x = new StreetDreams();
        due("NONE", StreetDreams.NONE, -1);
        for (int what = 0; what <= 7; what++) {
            due("told " + what, x.told(what), what == 5 ? -1 : 0);
        }
        due("fault", x.fault(), -1);
        due("ends", x.ends(), -1);
        due("lost", x.lost(), 0);
        due("whose", x.whose(), 0);
        for (int what = 0; what < 3; what++) {
            due("count", x.count(what), 0);
        }
    }

    private static void p2() {
        StreetDreams x = new StreetDreams();
        due("feed", x.feed(0x6d696c6b, 0x2035303b, 0, 0, 0), 20);
        due("count", x.count(1), 20);
        due("street of two numbers, highest bytes first", x.street(8), 0);
        due("told", x.told(5), 50);
        for (int i = 1; i <= 30; i++) {
            due("feed", x.feed(-1, 0x20202020, -1, -1, -1), 20 * i);
        }
        due("feed beyond 600", x.feed(1, 2, 3, 4, 5), -1);
        due("count", x.count(1), 600);
        due("bytes above 127", x.street(600), -9);
        due("their place", x.fault(), 0);
    }

    private static void p3() {
        StreetDreams x = on(SMALL, "wait 1;");
        book(x, "seen 1;");
        x.keep(1);
        x.image();
        x.make(1, 1);
        refuses("street(-1)", ARGUMENT, () -> x.street(-1));
        refuses("street(1) of no bytes", ARGUMENT, () -> x.street(1));
        feed(x, "milk 5;");
        refuses("street(21) of 20", ARGUMENT, () -> x.street(21));
        due("tape stays", x.count(1), 20);
        due("fault", street(x, "milk"), -9);
        due("the tape is empty", x.count(1), 0);
        due("all stays", x.told(0) * 1000 + x.told(6) * 100 + x.told(7) * 10 + x.count(0), 3111);
        due("changes stay", x.count(2), 1);
        due("a second street", street(x, "sleeper 1 2 3;dreamer 0 1;"), 1);
        due("no kept, book, images", x.told(6) + x.told(7) + x.count(0) + x.count(2), 0);
        due("no will", x.night(0, 0), 2);
        due("undo", x.undo(), -1);
        due("empty text", x.street(0), 0);
        due("empty street", x.told(0), 0);
        due("blanks", street(x, "  "), 0);
        due("blanks ahead of all", street(x, "  sleeper  0 09  015  ;milk5 ;twin"), -9);
        due("at the end", x.fault(), 34);
        due("no blanks between", street(x, "sleeper0 9 1;milk00000000000000000300;"), 1);
        due("milk", x.told(5), 300);
        due("no sign behind the n-th", feed(x, "milk 5;").street(6), -9);
        due("no digit behind it", feed(x, "milk 5;milk 12;").street(13), -9);
        due("at the length", x.fault(), 13);
        due("no letter behind it", feed(x, "milk 5;milk 12;").street(10), -9);
        due("at the word", x.fault(), 7);
        due("no blank behind it", feed(x, "milk   5;").street(5), -9);
        due("at the length", x.fault(), 5);
        due("what was asked of the street ahead is gone", street(x, "sleeper 7 9 0;dreamer 0 8;"), 1);
        due("there", x.rooms(7) * 10 + x.where(0, 8), 10);
        street(x, "sleeper 0 7 0;dreamer 0 0;");
        due("there", x.rooms(7) * 10 + x.where(0, 6), 0);
        faultsOfStreets();
        limitsOfStreets();
    }

    private static void faultsOfStreets() {
        String two = "sleeper 0 9 1;sleeper 0 9 1;";
        streetFault("sleeper 301 301 0;", 2, 8);
        streetFault("sleeper 5 4 0;", 2, 10);
        streetFault("sleeper 5 301 0;", 2, 10);
        streetFault("sleeper 0 9 16;", 2, 12);
        streetFault("sleeper 0 9;", 1, 11);
        streetFault("sleeper 0 9 1 ", 1, 14);
        streetFault("sleeper", 1, 7);
        streetFault("sleeper x", 1, 8);
        streetFault("sleepers 1;", 1, 0);
        streetFault("milkz 5;", 1, 0);
        streetFault(" Sleeper 1;", 1, 1);
        streetFault("milk 5;;", 1, 7);
        streetFault("milk 5;7", 1, 7);
        streetFault("milk 99999999999999999999999;", 2, 5);
        streetFault("milk 4294967296;", 2, 5);
        streetFault("milk -1;", 1, 5);
        streetFault("milk 301", 2, 5);
        streetFault("milk 5\t;", 1, 6);
        streetFault("door 0 1 1;", 2, 5);
        streetFault("sleeper 0 9 1;door 0 0 1;", 2, 21);
        streetFault("sleeper 0 9 1;door 0 1 1;", 2, 21);
        streetFault(two + "door 0 1 2;", 2, 37);
        streetFault("turns 6 0;", 2, 6);
        streetFault("turns 0 0;", 2, 8);
        streetFault("noise 301 0;", 2, 6);
        streetFault("noise 5 6;", 2, 8);
        streetFault("sleeper 0 9 1;twin 0 0;", 2, 21);
        streetFault("sleeper 0 9 1;twin 1 0;", 2, 19);
        streetFault(two + "sleeper 0 9 1;twin 0 1;twin 1 2;", 2, 56);
        streetFault(two + "sleeper 0 9 1;twin 0 1;twin 2 1;", 2, 58);
        streetFault("dreamer 0 0;", 2, 8);
        streetFault(two + "dreamer 1 301;", 2, 38);
    }

    private static void limitsOfStreets() {
        String two = "sleeper 0 9 1;sleeper 0 9 1;";
        StreetDreams x = new StreetDreams();
        due("8 sleepers", street(x, times(8, "sleeper 0 9 1;")), 8);
        streetFault(times(9, "sleeper 0 9 1;"), 3, 112);
        streetFault(times(8, "sleeper 0 9 1;") + "sleeper", 3, 112);
        due("10 doors", street(x, two + times(10, "door 0 1 1;")), 2);
        streetFault(two + times(11, "door 0 1 1;"), 3, 138);
        due("12 noises", street(x, times(12, "noise 5 5;")), 0);
        streetFault(times(13, "noise 5 5;"), 3, 120);
        String eight = times(8, "sleeper 0 9 1;");
        due("3 twins", street(x, eight + "twin 0 1;twin 2 3;twin 4 5;"), 8);
        streetFault(eight + "twin 0 1;twin 2 3;twin 4 5;twin 6 7;", 3, 139);
        due("4 dreamers", street(x, two + times(4, "dreamer 0 1;")), 2);
        streetFault(two + times(5, "dreamer 0 1;"), 3, 76);
        due("60 clauses", street(x, times(60, "milk 5;") + " "), 0);
        streetFault(times(60, "milk 5;") + " milk 5;", 3, 421);
        streetFault(times(60, "milk 5;") + "milks;", 1, 420);
        streetFault(times(60, "milk 5;") + "milk x;", 3, 420);
    }

    private static void p4() {
        StreetDreams x = on(SMALL);
        refuses("no such dreamer, ahead of n", ELEMENT, () -> x.will(1, 999));
        refuses("no such dreamer", ELEMENT, () -> x.will(-1, 0));
        feed(x, times(8, "wait 1;wait 2;wait 34"));
        due("tape", x.count(1), 180);
        refuses("more than 150", ARGUMENT, () -> x.will(0, 151));
        refuses("less than 0", ARGUMENT, () -> x.will(0, -1));
        due("tape stays", x.count(1), 180);
        due("150 bytes", x.will(0, 150), -9);
        refuses("more than the tape", ARGUMENT, () -> x.will(0, 1));
        due("steps", will(x, 0, "to 2;again 3 [call 2;];if not there 1 [] else [to 1;to 1;];wait 9;call 3;"), 8);
        due("a fault leaves the will", will(x, 0, "to 2"), -9);
        due("its calls", x.night(0, 3), 4);
        due("none", will(x, 0, ""), 0);
        due("its calls", x.night(0, 3), 0);
        due("all words", will(x, 0, "until in 1[];until open 2[];until not after 300[];if met[]else[];  "), 4);
        due("least and most", will(x, 0, "wait 1;wait 99;to 0;to 2;call 0;call 5;if in 0[];if open 0[];if there 0[];if after 0[];"), 10);
        due("six blocks", will(x, 0, times(6, "again 0[") + times(6, "];")), 6);
        due("six nots", will(x, 0, "if not not not not not not met[];if not met[];"), 2);
        due("else beside six", will(x, 0, times(5, "if met[") + "if met[]else[];" + times(5, "];")), 6);
        willFault("to 3;", 2, 3);
        willFault("to;", 1, 2);
        willFault("wait 0;", 2, 5);
        willFault("wait 100;", 2, 5);
        willFault("call 6;", 2, 5);
        willFault("again 21 [];", 2, 6);
        willFault("again 2 ;", 1, 8);
        willFault("if in 3 [];", 2, 6);
        willFault("if open 3 [];", 2, 8);
        willFault("if there 3 [];", 2, 9);
        willFault("if after 301 [];", 2, 9);
        willFault("if on 1 [];", 1, 3);
        willFault("if notmet [];", 1, 3);
        willFault("if 1 [];", 1, 3);
        willFault("if met [] elses [];", 1, 10);
        willFault("if met [] else ;", 1, 15);
        willFault("until met [] else [];", 1, 13);
        willFault("if met [wait 1];", 1, 14);
        willFault("if met [", 1, 8);
        willFault("if met []", 1, 9);
        willFault("];", 1, 0);
        willFault("go 1;", 1, 0);
        willFault("if not not not not not not not met [];", 3, 27);
        willFault("if not not not not not not nots [];", 1, 27);
        willFault(times(6, "if met[") + "if met  [", 3, 50);
        willFault(times(6, "if met[") + "if met ;", 1, 49);
    }

    private static void p5() {
        StreetDreams x = on(SMALL);
        due("lines", book(x, "seen 5;  gone 60 ;"), 2);
        due("least and most", book(x, "seen 0;gone 300;"), 2);
        due("a fault leaves the book", book(x, "soon 1;"), -9);
        due("told", x.told(7), 2);
        due("too large", book(x, "seen 301;"), -8);
        due("place", x.fault(), 5);
        due("12 lines", book(x, times(12, "gone 1;")), 12);
        due("13 lines", book(x, times(13, "gone 1;")), -7);
        due("place", x.fault(), 84);
        due("a 13th that is none", book(x, times(12, "gone 1;") + "gones"), -9);
        due("none", book(x, ""), 0);
        feed(x, times(151, " "));
        refuses("more than 150", ARGUMENT, () -> x.book(151));
        refuses("less than 0", ARGUMENT, () -> x.book(-1));
        due("tape stays", x.count(1), 160);
        due("150 blanks", x.book(150), 0);
        due("tape", x.count(1), 0);
    }

    private static void p6() {
        StreetDreams x = on(SMALL);
        due("fine", x.fault(), -1);
        book(x, "seen 5;gone x");
        due("of a book", x.fault(), 12);
        refuses("no text", ARGUMENT, () -> x.street(1));
        due("stays", x.fault(), 12);
        will(x, 0, "wait 5");
        due("of a will", x.fault(), 6);
        will(x, 0, "wait 5;");
        due("fine again", x.fault(), -1);
    }

    private static void p7() {
        StreetDreams x = on("sleeper 0 9 0;sleeper 0 9 0;sleeper 0 9 0;door 0 1 1;noise 1 1;noise 2 1;noise 3 1;"
            + "noise 4 1;twin 0 1;dreamer 0 1;dreamer 0 1;milk 9;milk 77;");
        x.keep(6);
        book(x, "seen 1;gone 2;seen 3;gone 4;seen 5;");
        int[] due = {3, 1, 4, 1, 2, 77, 6, 5};
        for (int what = 0; what < 8; what++) {
            due("told " + what, x.told(what), due[what]);
        }
        refuses("told 8", ARGUMENT, () -> x.told(8));
        refuses("told -1", ARGUMENT, () -> x.told(-1));
    }

    private static void p8() {
        StreetDreams x = on("sleeper 3 9 7;sleeper 300 300 15;sleeper 0 0 0;twin 2 0;");
        int[][] due = {{3, 9, 7, 2}, {300, 300, 15, -1}, {0, 0, 0, 0}};
        for (int k = 0; k < 3; k++) {
            for (int what = 0; what < 4; what++) {
                due("sleeper " + k + " " + what, x.sleeper(k, what), due[k][what]);
            }
        }
        refuses("no sleeper, ahead of what", ELEMENT, () -> x.sleeper(3, 9));
        refuses("no sleeper", ELEMENT, () -> x.sleeper(-1, 0));
        refuses("what", ARGUMENT, () -> x.sleeper(0, 4));
        refuses("what", ARGUMENT, () -> x.sleeper(0, -1));
    }

    private static void p9() {
        StreetDreams x = on("sleeper 0 9 0;sleeper 0 9 0;door 1 0 0;door 0 1 1;turns 5 1;turns 0 1;turns 5 1;");
        int[][] due = {{1, 0, 0, 0}, {0, 1, 1, 33}};
        for (int d = 0; d < 2; d++) {
            for (int what = 0; what < 4; what++) {
                due("door " + d + " " + what, x.door(d, what), due[d][what]);
            }
        }
        refuses("no door, ahead of what", ELEMENT, () -> x.door(2, 9));
        refuses("no door", ELEMENT, () -> x.door(-1, 0));
        refuses("what", ARGUMENT, () -> x.door(0, 4));
        refuses("what", ARGUMENT, () -> x.door(1, -1));
    }

    private static void p10() {
        StreetDreams x = on("noise 30 5;noise 20 1;");
        due("as told, not by minutes", x.noise(0, 0) * 10 + x.noise(0, 1), 305);
        due("second", x.noise(1, 0) * 10 + x.noise(1, 1), 201);
        due("none such", x.noise(2, 0), -1);
        due("none such", x.noise(-1, 1), -1);
        refuses("what", ARGUMENT, () -> x.noise(0, 2));
        refuses("what, of none", ARGUMENT, () -> x.noise(9, -1));
    }

    private static void p11() {
        StreetDreams x = on("sleeper 5 9 0;sleeper 0 300 0;sleeper 7 7 0;sleeper 50 60 0;milk 49;");
        due("ahead", x.sleeps(0, 4), false);
        due("from F", x.sleeps(0, 5), true);
        due("to T less 1", x.sleeps(0, 8), true);
        due("not in T", x.sleeps(0, 9), false);
        due("ahead of the milkman", x.sleeps(1, 49), true);
        due("woken by him", x.sleeps(1, 50), false);
        due("never", x.sleeps(2, 7), false);
        due("in his minute 52 he is woken", x.sleeps(3, 51), true);
        due("in his minute 52 he is woken", x.sleeps(3, 52), false);
        due("woken in the first minute", on("sleeper 0 9 0;sleeper 0 9 0;milk 0;").asleep(0), 2);
        x.keep(4);
        due("kept", x.sleeps(2, 0) && x.sleeps(2, 300), true);
        refuses("no sleeper, ahead of the minute", ELEMENT, () -> x.sleeps(4, 301) ? 1 : 0);
        refuses("minute", ARGUMENT, () -> x.sleeps(0, 301) ? 1 : 0);
        refuses("minute", ARGUMENT, () -> x.sleeps(0, -1) ? 1 : 0);
    }

    private static void p12() {
        StreetDreams x = on("sleeper 5 9 0;sleeper 20 30 0;sleeper 0 3 0;twin 0 1;");
        due("by his own", x.there(0, 5), true);
        due("by the twin's", x.there(0, 29), true);
        due("by the twin's", x.there(1, 8), true);
        due("between", x.there(1, 15), false);
        due("no twin", x.there(2, 25), false);
        x.keep(2);
        due("twin of a kept one", x.there(0, 300), true);
        StreetDreams three = on("sleeper 0 9 0;" + times(5, "sleeper 0 0 0;") + "twin 5 1;twin 0 3;twin 2 4;");
        due("three twins", three.rooms(1), 9);
        three.keep(4);
        due("three twins", three.rooms(300), 20);
        refuses("no room, ahead of the minute", INDEX, () -> x.there(3, 301) ? 1 : 0);
        refuses("no room", INDEX, () -> x.there(-1, 0) ? 1 : 0);
        refuses("minute", ARGUMENT, () -> x.there(0, 301) ? 1 : 0);
    }

    private static void p13() {
        StreetDreams x = on("sleeper 0 300 0;sleeper 0 300 0;door 0 1 1;door 0 1 0;turns 0 0;turns 1 0;turns 1 1;"
            + "noise 20 0;noise 20 0;noise 10 1;noise 30 0;dreamer 0 3;", "wait 1;call 1;");
        due("first", x.open(0, 4), true);
        due("called in minute 5", x.open(0, 5), false);
        due("called in minute 5", x.open(1, 5), true);
        due("noise", x.open(0, 10), true);
        due("noise", x.open(1, 10), false);
        due("two of one minute", x.open(0, 20), true);
        due("noise", x.open(0, 30), false);
        due("to the end", x.open(0, 300), false);
        refuses("no door, ahead of the minute", ELEMENT, () -> x.open(2, 301) ? 1 : 0);
        refuses("minute", ARGUMENT, () -> x.open(0, -1) ? 1 : 0);
        refuses("minute", ARGUMENT, () -> x.open(0, 301) ? 1 : 0);
    }

    private static void p14() {
        StreetDreams x = on(SMALL, "wait 3;to 1;until open 1 [wait 1;];to 2;");
        int[][] due = {{4, -1}, {5, 0}, {8, 0}, {9, 1}, {19, 1}, {20, 2}, {199, 2}, {200, -1}, {300, -1}};
        for (int[] d : due) {
            due("where " + d[0], x.where(0, d[0]), d[1]);
        }
        StreetDreams y = on("sleeper 0 300 0;sleeper 3 6 0;sleeper 0 300 0;door 0 1 1;door 1 2 1;dreamer 0 0;"
            + "dreamer 1 2;dreamer 1 6;dreamer 0 300;", "to 1;to 1;to 1;to 2;");
        due("who comes does nothing in the minute", y.where(0, 0), 0);
        due("the room is not there yet", y.where(0, 2), 0);
        due("now", y.where(0, 3), 1);
        due("on", y.where(0, 4), 2);
        due("came into no room", y.where(1, 2), -1);
        due("came too late", y.where(2, 6), -1);
        due("came in the last minute, in which nobody sleeps", y.where(3, 300), -1);
        StreetDreams z = on("sleeper 0 300 0;sleeper 0 300 0;door 0 1 0;turns 0 0;dreamer 0 0;dreamer 0 0;"
            + "dreamer 1 0;", "to 1;call 0;to 1;", "call 0;to 1;", "to 0;to 0;to 0;");
        due("shut for the first", z.where(0, 1), 0);
        due("opened at once for the third", z.where(2, 1), 0);
        due("shut again by the first ahead of the second", z.where(1, 2), 0);
        due("and of the third", z.night(2, 2), 2);
        refuses("no dreamer, ahead of the minute", ELEMENT, () -> z.where(3, 301));
        refuses("minute", ARGUMENT, () -> z.where(0, 301));
    }

    private static void p15() {
        StreetDreams x = on(SMALL, "to 2;again 3 [call 2;];if not there 1 [] else [to 1;to 1;];wait 9;call 3;");
        int[] due = {50, 1, 2, 4, 0, 0};
        for (int what = 0; what < 6; what++) {
            due("night " + what, x.night(0, what), due[what]);
        }
        turnsWithoutTime();
        asks();
        StreetDreams y = on("sleeper 0 10 0;sleeper 0 20 0;door 0 1 1;dreamer 0 2;dreamer 0 4;dreamer 1 4;",
            "wait 4;to 1;", "wait 90;");
        due("4 to 6 with another, 7 to 19 with a third", y.night(0, 4), 16);
        due("4 to 6", y.night(1, 4), 3);
        due("7 to 19", y.night(2, 4), 13);
        due("lost in", y.night(1, 0), 10);
        refuses("no dreamer, ahead of what", ELEMENT, () -> y.night(3, 6));
        refuses("what", ARGUMENT, () -> y.night(0, 6));
        refuses("what", ARGUMENT, () -> y.night(0, -1));
    }

    private static void turnsWithoutTime() {
        String street = "sleeper 0 300 0;dreamer 0 0;";
        // 1 for each again, and 1 for each time its block ends: 21 + 21 + 18 are 60.
        String sixty = "again 20[];again 20[];again 17[];";
        due("60 turns", on(street, sixty + "call 1;").night(0, 5), 0);
        due("60 turns and a call", on(street, sixty + "call 1;").night(0, 3), 1);
        due("61 turns", on(street, sixty + "if met[];call 1;").night(0, 5), 1);
        due("61 turns, no call", on(street, sixty + "if met[];call 1;").night(0, 3), 0);
        due("61 by again 0", on(street, sixty + "again 0[call 2;];").night(0, 5), 1);
        due("61 by until", on(street, sixty + "until in 0[];").night(0, 5), 1);
        due("61 by an end", on(street, "again 20[];again 20[];again 18[];").night(0, 5), 1);
        due("60 by until and if", on(street, "until after 9[wait 1;];again 18[if met[];];again 19[];call 1;").night(0, 3), 1);
        due("61 of one minute only", on(street, "again 20[again 20[];wait 1;];").night(0, 5), 0);
        due("an end stands with the next minute",
            on(street, "again 1[wait 1;];again 20[];again 20[];again 16[];call 1;").night(0, 3), 1);
        due("61 with that end",
            on(street, "again 1[wait 1;];again 20[];again 20[];again 17[];call 1;").night(0, 5), 1);
        due("of nested ones", on(street, "again 2[again 3[call 1;];call 0;];").night(0, 3), 8);
        due("again 0", on(street, "again 0[call 1;];").night(0, 3), 0);
        due("until so at first", on(street, "until in 0[call 1;];").night(0, 3), 0);
        due("stuck, but not lost ahead of the end", on(street, "until not in 0[];").night(0, 0), 300);
    }

    private static void asks() {
        String street = "sleeper 0 300 0;sleeper 10 300 0;sleeper 0 300 0;door 0 2 1;door 0 1 0;twin 1 2;"
            + "dreamer 0 0;dreamer 2 3;";
        String[][] due = {{"in 0", "1"}, {"in 1", "0"}, {"not in 1", "1"}, {"not not in 1", "0"}, {"open 0", "1"},
            {"open 1", "0"}, {"there 1", "1"}, {"met", "0"}, {"after 1", "1"}, {"after 2", "0"}, {"not after 2", "1"}};
        for (String[] d : due) {
            due(d[0], on(street, "if " + d[0] + " [call 0;];").night(0, 3), Integer.parseInt(d[1]));
            due("else of " + d[0], on(street, "if " + d[0] + " [] else [call 0;];").night(0, 3), 1 - Integer.parseInt(d[1]));
        }
        StreetDreams x = on(street, "until met[to 2;];call 0;");
        due("to 2, fails in 2, met in 3, in which the other comes", x.night(0, 1) * 10 + x.night(0, 2), 11);
        due("met", x.night(0, 3), 1);
    }

    private static void p16() {
        StreetDreams x = on("sleeper 0 9 0;sleeper 0 300 0;sleeper 0 0 0;dreamer 0 1;dreamer 1 1;dreamer 2 1;dreamer 0 8;");
        due("all but none", x.lost(), 15);
        x.keep(2);
        due("not the one of the kept room", x.lost(), 13);
        x.keep(7);
        due("none", x.lost(), 0);
    }

    private static void p17() {
        StreetDreams x = on("sleeper 0 90 0;sleeper 0 40 0;sleeper 0 90 0;sleeper 5 90 0;door 0 1 1;door 1 2 1;door 3 2 0;"
            + "turns 1 2;noise 10 1;dreamer 0 2;", "call 1;");
        due("calls turn nothing", x.cut(0, 4), 0);
        due("room 3 behind a shut door", x.cut(0, 5), 8);
        due("open", x.cut(0, 10), 0);
        due("through a room that is gone", x.cut(0, 40), 12);
        due("from the other side", x.cut(3, 40), 1);
        due("from one that is gone", x.cut(1, 40), 13);
        due("none there", x.cut(1, 90), 0);
        StreetDreams y = on("sleeper 0 9 0;sleeper 0 20 0;sleeper 0 20 0;door 0 1 1;door 0 2 1;");
        due("room 0 is gone", y.cut(0, 10), 6);
        due("room 0 is gone between them", y.cut(1, 10), 4);
        refuses("no room, ahead of the minute", INDEX, () -> x.cut(4, 301));
        refuses("minute", ARGUMENT, () -> x.cut(0, 301));
    }

    private static void p18() {
        StreetDreams x = on(SMALL);
        due("waits for the room", x.soonest(0, 0, 2), 10);
        due("one minute a door", x.soonest(1, 0, 2), 10);
        due("by the opened door", x.soonest(1, 45, 2), 46);
        due("his own room may be gone in the next minute", x.soonest(1, 49, 2), 50);
        due("not there any more", x.soonest(1, 50, 2), -1);
        due("in it", x.soonest(0, 7, 0), 7);
        due("not there yet", x.soonest(2, 9, 2), -1);
        due("never", x.soonest(0, 60, 1), -1);
        due("room 0 is gone", x.soonest(0, 100, 0), -1);
        x.keep(6);
        due("in the last minute", x.soonest(2, 300, 2), 300);
        due("not any more", x.soonest(2, 300, 1), -1);
        x.keep(0);
        StreetDreams last = on("sleeper 0 0 0;sleeper 0 0 0;door 0 1 0;turns 0 0;noise 300 0;");
        last.keep(3);
        due("reached in the last minute", last.soonest(0, 3, 1), 300);
        StreetDreams y = on("sleeper 0 300 0;sleeper 0 300 0;door 0 1 0;turns 0 0;noise 30 0;noise 31 0;");
        due("the one minute in which it is open", y.soonest(0, 3, 1), 30);
        due("too late", y.soonest(0, 30, 1), -1);
        refuses("no room, ahead of the minute", INDEX, () -> x.soonest(0, 301, 3));
        refuses("no room", INDEX, () -> x.soonest(-1, 0, 0));
        refuses("minute", ARGUMENT, () -> x.soonest(0, 301, 1));
    }

    private static void p19() {
        StreetDreams x = on("sleeper 0 300 0;sleeper 0 300 0;sleeper 0 300 0;sleeper 0 300 0;door 3 1 1;door 3 2 1;"
            + "door 1 0 0;door 2 0 0;turns 0 2;turns 0 3;noise 10 0;");
        due("soonest", x.soonest(3, 5, 0), 10);
        due("ahead", x.way(3, 5, 0, 4), -1);
        due("begin", x.way(3, 5, 0, 5), 3);
        due("least room", x.way(3, 5, 0, 6), 1);
        due("and stays", x.way(3, 5, 0, 9), 1);
        due("end", x.way(3, 5, 0, 10), 0);
        due("behind", x.way(3, 5, 0, 300), 0);
        due("the least room again while time is left", x.way(2, 5, 0, 6), 2);
        due("by 3 to 1 it would be later, or as soon", x.way(2, 5, 0, 7), 2);
        due("in it", x.way(1, 5, 1, 5), 1);
        StreetDreams y = on(SMALL);
        due("none", y.way(0, 60, 1, 60), -1);
        due("room 0 is not there", y.way(0, 100, 0, 100), -1);
        due("through no room that is gone", y.way(1, 0, 2, 9), 0);
        StreetDreams z = on("sleeper 0 6 0;sleeper 0 20 0;sleeper 0 20 0;door 0 1 1;door 0 2 0;door 1 2 0;turns 0 1;"
            + "turns 0 2;noise 10 0;");
        due("the least room while it is there", z.way(1, 3, 2, 5), 0);
        due("out of it as it goes", z.way(1, 3, 2, 6), 1);
        due("and not back", z.way(1, 3, 2, 9), 1);
        StreetDreams once = on(times(3, "sleeper 0 300 0;") + "door 0 1 1;door 1 2 0;turns 0 1;noise 10 0;noise 11 0;");
        due("in the least room", once.way(1, 3, 2, 8), 0);
        due("back in time", once.way(1, 3, 2, 9), 1);
        refuses("no room, ahead of minutes", INDEX, () -> x.way(4, 301, 0, 301));
        refuses("minute", ARGUMENT, () -> x.way(0, 301, 0, 0));
        refuses("t", ARGUMENT, () -> x.way(0, 0, 0, 301));
        refuses("t", ARGUMENT, () -> x.way(0, 0, 0, -1));
    }

    private static void p20() {
        StreetDreams x = on(SMALL);
        due("one minute ahead", x.latest(0, 2, 30), 29);
        due("while room 1 is there", x.latest(2, 1, 60), 48);
        due("not by then", x.latest(1, 2, 9), -1);
        due("by room 0", x.latest(1, 2, 12), 10);
        due("itself", x.latest(1, 1, 300), 49);
        due("itself", x.latest(1, 1, 3), 3);
        due("in the first minute", x.latest(1, 1, 0), 0);
        StreetDreams shut = on("sleeper 0 9 0;sleeper 0 9 0;door 0 1 1;turns 0 0;noise 2 0;");
        due("goes in 0", shut.latest(0, 1, 1), 0);
        due("itself, not yet there", x.latest(2, 2, 9), -1);
        due("out of a room in its last minute", x.latest(1, 2, 300), 49);
        refuses("no room, ahead of the minute", INDEX, () -> x.latest(0, 3, 301));
        refuses("minute", ARGUMENT, () -> x.latest(0, 1, 301));
    }

    private static void p21() {
        StreetDreams x = on(SMALL);
        due("what it was", x.keep(5), 0);
        due("what it was", x.keep(7), 5);
        refuses("bits of no sleepers", ARGUMENT, () -> x.keep(8));
        refuses("bits of no sleepers", ARGUMENT, () -> x.keep(-1));
        due("stays", x.told(6), 7);
        due("kept", x.lost(), 0);
        due("keeping is no change", x.count(2), 0);
        due("what it was", x.keep(0), 7);
    }

    private static void p22() {
        StreetDreams x = on(SMALL);
        due("room 1 is to be there", x.fewest(0, 90, 1), 2);
        due("room 0", x.fewest(0, 150, 2), 1);
        due("none", x.fewest(0, 0, 2), 0);
        x.keep(4);
        due("with the kept", x.fewest(0, 90, 1), 6);
        due("with the kept", x.fewest(0, 0, 2), 4);
        StreetDreams y = on("sleeper 0 9 0;sleeper 0 9 0;sleeper 0 9 0;sleeper 0 9 0;door 0 1 1;door 0 2 1;door 1 3 1;"
            + "door 2 3 1;twin 1 3;");
        due("0 and 1 are fewer and less", y.fewest(0, 50, 3), 3);
        due("not by all", on("sleeper 0 9 0;sleeper 0 9 0;").fewest(0, 0, 1), -1);
        refuses("no room, ahead of the minute", INDEX, () -> x.fewest(3, 301, 0));
        refuses("minute", ARGUMENT, () -> x.fewest(0, -1, 0));
    }

    private static void p23() {
        StreetDreams x = on(SMALL);
        due("2 is to be there in minute 5", x.meet(0, 2, 5), 4);
        due("none", x.meet(0, 1, 3), 0);
        due("in one room, which is gone", x.meet(1, 1, 60), 2);
        x.keep(1);
        due("with the kept", x.meet(0, 2, 5), 5);
        StreetDreams y = on("sleeper 0 9 0;sleeper 0 9 0;");
        due("not by all", y.meet(0, 1, 0), -1);
        due("the same", y.meet(1, 1, 0), 0);
        refuses("no room, ahead of the minute", INDEX, () -> x.meet(0, 3, 301));
        refuses("minute", ARGUMENT, () -> x.meet(0, 1, 301));
    }

    private static void p24() {
        StreetDreams x = on(SMALL);
        due("next minute", x.met(0, 1, 3), 4);
        due("at once", x.met(0, 0, 3), 3);
        due("not there", x.met(0, 2, 5), -1);
        x.keep(4);
        due("kept as they are", x.met(0, 2, 5), 6);
        StreetDreams y = on("sleeper 0 9 0;sleeper 0 9 0;sleeper 0 9 0;sleeper 0 9 0;sleeper 0 9 0;door 0 1 1;door 1 2 1;"
            + "door 2 3 1;door 3 4 1;twin 0 4;");
        due("each goes two doors", y.met(0, 4, 1), 3);
        due("each goes, or one waits", y.met(0, 3, 1), 3);
        due("too late", y.met(0, 4, 7), -1);
        due("room 0 is gone", y.met(0, 0, 9), -1);
        StreetDreams last = on("sleeper 0 0 0;sleeper 0 0 0;door 0 1 0;turns 0 0;noise 300 0;");
        last.keep(3);
        due("in the last minute", last.met(0, 1, 3), 300);
        refuses("no room, ahead of the minute", INDEX, () -> x.met(0, 3, 301));
        refuses("minute", ARGUMENT, () -> x.met(0, 1, 301));
    }

    private static void p25() {
        StreetDreams x = on("sleeper 0 9 0;sleeper 0 9 0;door 0 1 0;door 0 1 0;door 0 1 1;turns 0 0;turns 1 1;turns 3 0;"
            + "turns 3 1;turns 4 2;turns 5 0;");
        due("nothing told", x.order(0, 0, 0), 0);
        due("no digits", x.order(0, 0, 1), 0);
        due("one noise for two doors", x.order(3, 0, 1), 3);
        due("the first of alike ones", x.order(1, 2, 1), 0);
        due("its number", x.order(1, 2, 0), 1);
        due("0 and 4", x.order(1, 6, 1), 4);
        due("two of them", x.order(1, 6, 0), 2);
        due("3 and 4", x.order(3, 4, 1), 34);
        StreetDreams w = on("sleeper 0 9 0;sleeper 0 9 0;door 0 1 0;door 0 1 0;turns 0 0;turns 5 1;turns 1 0;turns 2 1;");
        due("0 and 2, not 0 and 5, 1 and 2", w.order(3, 0, 1), 2);
        StreetDreams v = on("sleeper 0 9 0;sleeper 0 9 0;door 0 1 0;door 0 1 0;door 0 1 0;turns 0 0;turns 5 1;turns 5 2;"
            + "turns 1 0;turns 1 1;turns 2 2;");
        due("0 and 5, not 1 and 2", v.order(7, 0, 1), 5);
        due("as it is", x.order(4, 3, 0), 0);
        due("by none", on(SMALL).order(1, 4, 0), -1);
        due("by none", on(SMALL).order(1, 4, 1), -1);
        due("2 and 3", on(SMALL).order(2, 5, 1), 23);
        refuses("one in both", ARGUMENT, () -> x.order(1, 1, 0));
        refuses("bits of no doors", ARGUMENT, () -> x.order(8, 0, 0));
        refuses("bits of no doors", ARGUMENT, () -> x.order(0, 8, 0));
        refuses("bits of no doors", ARGUMENT, () -> x.order(-1, 0, 0));
        refuses("what", ARGUMENT, () -> x.order(0, 0, 2));
    }

    private static void p26() {
        StreetDreams x = on("sleeper 0 100 0;sleeper 0 50 0;sleeper 60 70 0;sleeper 0 90 0;twin 1 2;milk 80;");
        due("no book: all", x.whose(), 15);
        book(x, "seen 5;gone 55;");
        due("twins", x.whose(), 6);
        book(x, "seen 79;gone 80;");
        due("the milkman", x.whose(), 1);
        book(x, "seen 5;gone 300;");
        x.keep(8);
        due("kept", x.whose(), 7);
        book(x, "seen 5;gone 5;");
        due("none", x.whose(), 0);
    }

    private static void p27() {
        StreetDreams x = on(SMALL);
        due("as they are", x.want(0, 0), 2);
        due("no call", x.want(0, 1), -1);
        due("opens door 1", x.want(1, 0), 3);
        due("by 2", x.want(1, 1), 2);
        due("the other shuts two", x.want(2, 0), 1);
        due("2 is least of alike ones", x.want(2, 1), 2);
        // Sorts 0 and 5 both turn door 0 alone: the first calls the least of them.
        StreetDreams y = on("sleeper 0 9 0;sleeper 0 9 0;door 0 1 0;turns 5 0;turns 0 0;");
        due("last call opens", y.want(7, 0), 1);
        due("last call shuts", y.want(8, 0), 0);
        due("least sort", y.want(3, 1), 0);
        StreetDreams z = on("sleeper 0 9 0;sleeper 0 9 0;door 0 1 1;");
        due("none to make", z.want(3, 1), -1);
        due("none to make", z.want(3, 0), 1);
        refuses("n", ARGUMENT, () -> x.want(9, 0));
        refuses("n", ARGUMENT, () -> x.want(-1, 0));
        refuses("what", ARGUMENT, () -> x.want(1, 2));
    }

    private static void p28() {
        StreetDreams x = on(SMALL);
        due("16 and 8 of 256", x.surest(0, 2, 0), 1);
        due("16 and 8 of 256", x.surest(0, 2, 1), 2);
        due("rooms", x.surest(0, 2, 2), 2);
        due("02", x.surest(0, 2, 3), 2);
        due("by the doors open at first", x.surest(1, 2, 3), 102);
        due("12, 16, 8", x.surest(1, 2, 0), 3);
        due("12, 16, 8", x.surest(1, 2, 1), 8);
        due("one room", x.surest(1, 1, 0), 3);
        due("one room", x.surest(1, 1, 2), 1);
        StreetDreams y = on("sleeper 0 9 15;sleeper 0 9 0;sleeper 0 9 0;sleeper 0 9 0;sleeper 0 9 12;sleeper 0 9 15;"
            + "door 4 0 1;door 0 3 1;door 4 2 1;door 2 1 1;door 1 3 1;door 4 1 1;");
        due("round the unsure room, then the fewest rooms", y.surest(4, 3, 3), 413);
        due("4 of 16", y.surest(4, 3, 0), 1);
        due("4 of 16", y.surest(4, 3, 1), 4);
        due("through the unsure room: 1 of 16", y.surest(0, 3, 1), 16);
        due("no way", y.surest(0, 5, 0), -1);
        due("no way", y.surest(0, 5, 3), -1);
        StreetDreams even = on(times(5, "sleeper 0 9 0;") + "door 0 1 1;door 1 2 1;door 2 4 1;door 0 3 1;door 3 4 1;");
        due("of alike ones the fewest", even.surest(0, 4, 3), 34);
        StreetDreams same = on(times(4, "sleeper 0 9 3;") + "door 0 2 1;door 2 3 1;door 0 1 1;door 1 3 1;");
        due("then the first", same.surest(0, 3, 3), 13);
        StreetDreams z = on(times(8, "sleeper 0 9 15;") + "door 0 1 1;door 1 2 1;door 2 3 1;door 3 4 1;door 4 5 1;"
            + "door 5 6 1;door 6 7 1;");
        due("beyond ints", z.surest(7, 0, 1), 4294967296L);
        due("above", z.surest(7, 0, 0), 1);
        due("digits", z.surest(7, 0, 3), 76543210);
        refuses("no room, ahead of what", INDEX, () -> x.surest(3, 1, 9));
        refuses("what", ARGUMENT, () -> x.surest(0, 1, 4));
        refuses("what", ARGUMENT, () -> x.surest(0, 1, -1));
    }

    /** The draws as the document tells them: the minute in which a lone sleeper of 0 to 300 is woken. */
    private static int drawnMinute(int seed, int odds) {
        int s = seed;
        for (int m = 0; m < 300; m++) {
            s = s * 1103515245 + 12345;
            if ((s >>> 16 & 0x3ff) < odds) {
                return m;
            }
        }
        return -1;
    }

    private static void p29() {
        StreetDreams x = on("sleeper 0 300 15;dreamer 0 3;");
        int woken = 0;
        for (int seed = -30; seed < 30; seed++) {
            int m = drawnMinute(seed, 15);
            woken += m >= 0 ? 1 : 0;
            due("first minute without a room, seed " + seed, x.drawn(seed, 1), m >= 0 ? m : 300);
            due("slept to the end, seed " + seed, x.drawn(seed, 2), m >= 0 ? 0 : 1);
            due("lost, seed " + seed, x.drawn(seed, 0), 1);
        }
        due("some were woken", woken > 5 && woken < 60, true);
        StreetDreams sure = on("sleeper 0 300 0;dreamer 0 3;");
        due("never woken", sure.drawn(7, 1), 300);
        due("never woken", sure.drawn(7, 2), 1);
        sure.keep(1);
        due("nobody is lost", sure.drawn(7, 0), 0);
        due("to the last", sure.drawn(7, 1), 301);
        // A kept sleeper is not asked, so the second one gets all draws; and one who sleeps from 5 to 5 none.
        StreetDreams two = on("sleeper 0 300 15;sleeper 5 5 15;sleeper 0 300 15;");
        two.keep(1);
        int seed = -30;
        while (drawnMinute(seed, 15) < 0) {
            seed++;
        }
        due("kept and never asleep", two.drawn(seed, 2), 2);
        due("new object", new StreetDreams().drawn(5, 1), 0);
        StreetDreams early = on("sleeper 0 9 0;sleeper 0 0 0;dreamer 0 0;dreamer 1 0;");
        due("comes in the first minute", early.drawn(1, 0), 3);
        refuses("what", ARGUMENT, () -> x.drawn(0, 3));
        refuses("what", ARGUMENT, () -> x.drawn(0, -1));
    }

    private static void p30() {
        StreetDreams x = on("sleeper 0 300 15;sleeper 0 300 0;dreamer 0 299;dreamer 1 299;");
        x.keep(2);
        due("one is lost in each", x.span(3, 20, 0) * 100 + x.span(3, 20, 1) * 10 + x.span(3, 20, 2), 110);
        int safe = 0;
        StreetDreams y = on("sleeper 0 300 15;sleeper 0 300 0;door 0 1 1;dreamer 0 290;", "to 1;");
        y.keep(2);
        for (int i = 0; i < 20; i++) {
            // The second sleeper is kept and not asked.
            int m = drawnMinute(i - 9, 15);
            safe += m < 0 || m > 291 ? 1 : 0;
        }
        due("by how many nobody is", y.span(-9, 20, 2), safe);
        due("fewest", y.span(-9, 20, 0), safe > 0 ? 0 : 1);
        due("most", y.span(-9, 20, 1), safe < 20 ? 1 : 0);
        due("by both ways", safe > 0 && safe < 20, true);
        due("seeds wrap", y.span(Integer.MAX_VALUE, 2, 2),
            (y.drawn(Integer.MAX_VALUE, 0) == 0 ? 1 : 0) + (y.drawn(Integer.MIN_VALUE, 0) == 0 ? 1 : 0));
        for (int i = -9; i < 11; i++) {
            due("one seed", y.span(i, 1, 2), y.drawn(i, 0) == 0 ? 1 : 0);
        }
        refuses("many", ARGUMENT, () -> x.span(0, 0, 0));
        refuses("many", ARGUMENT, () -> x.span(0, 21, 0));
        refuses("what", ARGUMENT, () -> x.span(0, 1, 3));
    }

    private static void p31() {
        StreetDreams x = on(SMALL);
        due("no milkman: as the night", x.round(0), 1);
        due("the first order", x.round(1), 12);
        // Room 2 is kept; the dreamer goes through room 1 in minute 10 and is in room 2 in minute 11.
        String street = "sleeper 0 300 0;sleeper 0 300 0;sleeper 0 300 0;door 0 1 1;door 1 2 1;dreamer 0 9;milk 10;";
        StreetDreams y = on(street, "to 1;to 2;");
        y.keep(4);
        due("0 and 1 are to be there in 10, 1 in 11", y.round(0), 0);
        due("the only such order", y.round(1), 201);
        due("as told he is lost", y.lost(), 1);
        StreetDreams z = on(street, "to 1;to 2;");
        due("nobody is kept: lost", z.round(0), 1);
        due("the first", z.round(1), 12);
        due("no sleepers", new StreetDreams().round(1), 0);
        StreetDreams six = on(times(6, "sleeper 0 300 0;") + "dreamer 0 1;milk 300;");
        due("six", six.round(1), 12345);
        roundsFromOtherMinutes();
        StreetDreams seven = on(times(7, "sleeper 0 300 0;"));
        refuses("seven", STATE, () -> seven.round(0));
        refuses("what", ARGUMENT, () -> seven.round(2));
        refuses("what", ARGUMENT, () -> x.round(-1));
        due("counted", seven.status(3), 1);
    }

    private static void roundsFromOtherMinutes() {
        StreetDreams x = on("sleeper 0 9 0;sleeper 0 9 0;dreamer 0 0;dreamer 1 1;milk 0;");
        due("milk 0: 1 comes into 1 in minute 1, in which all are woken", x.round(0), 2);
        StreetDreams w = on("sleeper 0 9 0;sleeper 0 9 0;sleeper 0 9 0;door 0 1 1;door 1 2 1;dreamer 0 0;milk 0;",
            "to 1;to 2;");
        w.keep(4);
        due("in 2 he gets into the kept room, but 1 is woken by then, or 0 ahead", w.round(0), 1);
        w.keep(6);
        due("in 1 he is in a kept room, if 0 is woken last", w.round(0) * 1000 + w.round(1), 120);
        StreetDreams v = on("sleeper 5 9 0;sleeper 0 9 0;dreamer 0 0;dreamer 1 0;milk 5;");
        v.keep(2);
        due("0 comes in 0, ahead of his room, 1 into a kept one", v.round(0), 1);
        StreetDreams u = on("sleeper 5 9 0;sleeper 0 9 0;door 0 1 1;dreamer 0 0;milk 5;", "to 1;");
        u.keep(2);
        due("lost ahead of the milkman, whatever the order", u.round(0), 1);
        StreetDreams y = on("sleeper 0 300 0;sleeper 0 300 0;dreamer 0 20;dreamer 1 30;dreamer 1 6;dreamer 0 6;milk 5;");
        due("all come too late", y.round(0), 4);
        y.keep(2);
        due("but for those of the kept room", y.round(0), 2);
        due("the first order", y.round(1), 1);
        StreetDreams z = on("sleeper 0 300 0;sleeper 5 300 0;sleeper 0 0 0;door 0 1 1;door 1 2 1;dreamer 0 3;milk 5;",
            "wait 1;to 1;to 2;");
        z.keep(4);
        due("room 1 begins in 5, in which he goes into it", z.round(0), 0);
        due("2, then 0, or he is lost", z.round(1), 201);
        due("ahead of it he would be lost", on("sleeper 0 3 0;sleeper 0 9 0;dreamer 0 1;milk 5;").round(0), 1);
    }

    private static void p32() {
        StreetDreams x = on("sleeper 0 9 0;sleeper 5 20 0;twin 0 1;milk 15;");
        due("0", x.asleep(4), 1);
        due("both", x.asleep(5), 3);
        due("not the twin", x.asleep(9), 2);
        due("woken in 16", x.asleep(15), 2);
        due("woken in 16", x.asleep(16), 0);
        x.keep(1);
        due("kept", x.asleep(300), 1);
        refuses("minute", ARGUMENT, () -> x.asleep(301));
        refuses("minute", ARGUMENT, () -> x.asleep(-1));
    }

    private static void p33() {
        StreetDreams x = on("sleeper 0 9 0;sleeper 5 20 0;sleeper 8 12 0;twin 2 0;");
        due("twins", x.rooms(4), 5);
        due("all", x.rooms(5), 7);
        due("twins", x.rooms(11), 7);
        due("one", x.rooms(12), 2);
        due("none", x.rooms(20), 0);
        refuses("minute", ARGUMENT, () -> x.rooms(301));
        refuses("minute", ARGUMENT, () -> x.rooms(-1));
    }

    private static void p34() {
        StreetDreams x = on("sleeper 3 9 0;sleeper 20 26 0;sleeper 5 5 0;sleeper 9 12 0;twin 0 1;");
        due("two of six", x.lasting(0, 0), 6);
        due("the first", x.lasting(1, 1), 3);
        due("never", x.lasting(2, 0), 0);
        due("never", x.lasting(2, 1), -1);
        x.sleep(1, 8, 30);
        due("without a gap", x.lasting(0, 0), 27);
        x.keep(4);
        due("all", x.lasting(2, 0), 301);
        due("all", x.lasting(2, 1), 0);
        refuses("no room, ahead of what", INDEX, () -> x.lasting(4, 2));
        refuses("what", ARGUMENT, () -> x.lasting(0, 2));
    }

    private static void p35() {
        StreetDreams x = on(SMALL);
        due("all three", x.reach(1, 45, 46), 7);
        due("1 is gone", x.reach(1, 45, 60), 5);
        due("same minute", x.reach(0, 5, 5), 1);
        due("not there", x.reach(2, 5, 50), 0);
        due("room 0 is not there", x.reach(0, 100, 100), 0);
        due("nor later", x.reach(0, 100, 101), 0);
        due("all gone", x.reach(0, 5, 300), 0);
        refuses("less", ARGUMENT, () -> x.reach(0, 5, 4));
        refuses("no room, ahead of minutes", INDEX, () -> x.reach(3, 5, 4));
        refuses("minute", ARGUMENT, () -> x.reach(0, -1, 4));
        refuses("minute", ARGUMENT, () -> x.reach(0, 5, 301));
    }

    private static void p36() {
        StreetDreams x = on(SMALL);
        due("one door", x.far(0, 2), 1);
        due("two", x.far(1, 2), 2);
        due("itself", x.far(1, 1), 0);
        StreetDreams y = on(times(8, "sleeper 0 0 0;") + "door 0 1 1;door 1 2 1;door 2 3 1;door 3 4 1;door 4 5 1;"
            + "door 5 6 1;door 6 7 1;door 0 7 0;");
        due("seven, though no room ever is there", y.far(7, 0), 7);
        due("none", on("sleeper 0 9 0;sleeper 0 9 0;door 0 1 0;").far(0, 1), -1);
        refuses("no room", INDEX, () -> x.far(3, 0));
        refuses("no room", INDEX, () -> x.far(0, -1));
    }

    private static void p37() {
        StreetDreams x = on("noise 5 1;noise 5 1;noise 300 2;noise 0 0;");
        due("three minutes", x.quiet(), 298);
        x.make(5, 3);
        due("three still", x.quiet(), 298);
        x.make(6, 3);
        due("four", x.quiet(), 297);
        x.hush(0);
        due("5 has others", x.quiet(), 297);
        due("none", new StreetDreams().quiet(), 301);
    }

    private static void p38() {
        StreetDreams x = on(SMALL);
        due("ahead of the dreamer", x.lonely(0), 5);
        due("never visited", x.lonely(1), 50);
        due("never visited", x.lonely(2), 190);
        will(x, 0, "to 1;");
        due("left in 6", x.lonely(0), 99);
        due("6 to 49", x.lonely(1), 6);
        refuses("no room", INDEX, () -> x.lonely(3));
        refuses("no room", INDEX, () -> x.lonely(-1));
    }

    private static void p39() {
        StreetDreams x = on(SMALL);
        due("last", x.ends(), 199);
        x.keep(2);
        due("kept", x.ends(), 300);
        due("never", on("sleeper 5 5 0;").ends(), -1);
    }

    private static void p40() {
        StreetDreams x = on("sleeper 0 9 0;sleeper 0 20 0;door 0 1 1;dreamer 0 2;dreamer 0 4;dreamer 1 3;",
            "wait 3;to 1;", "wait 5;");
        due("two", x.crowd(0), 2);
        due("first in 4", x.crowd(1), 4);
        will(x, 1, "to 1;");
        due("1 goes in 5, 0 in 6", x.crowd(0), 3);
        due("three in 6", x.crowd(1), 6);
        due("twins are two rooms", on("sleeper 0 9 0;sleeper 0 9 0;twin 0 1;dreamer 0 1;dreamer 1 1;").crowd(0), 1);
        StreetDreams four = on("sleeper 0 9 0;" + times(4, "dreamer 0 1;"));
        due("four", four.crowd(0) * 100 + four.lonely(0) * 10 + four.night(3, 4), 418);
        StreetDreams y = on("sleeper 0 9 0;dreamer 0 9;");
        due("nobody", y.crowd(0), 0);
        due("nobody", y.crowd(1), -1);
        refuses("what", ARGUMENT, () -> x.crowd(2));
        refuses("what", ARGUMENT, () -> x.crowd(-1));
    }

    private static void p41() {
        StreetDreams x = on(SMALL, "call 2;call 3;");
        due("calls turn nothing", x.often(0), 301);
        due("from 20 on", x.often(1), 281);
        x.make(300, 2);
        due("shut in 300", x.often(1), 280);
        refuses("no door", ELEMENT, () -> x.often(3));
        refuses("no door", ELEMENT, () -> x.often(-1));
    }

    private static void p42() {
        StreetDreams x = on("sleeper 0 9 0;sleeper 0 9 0;sleeper 0 9 0;dreamer 1 1;dreamer 2 1;dreamer 2 1;");
        due("two are helped by 2", x.help(), 2);
        x.keep(4);
        due("one by 1", x.help(), 1);
        x.keep(6);
        due("the one left", x.help(), 0);
        x.keep(7);
        due("all kept", x.help(), -1);
        due("no sleepers", new StreetDreams().help(), -1);
        due("the first of alike ones", on("sleeper 0 9 0;sleeper 0 9 0;").help(), 0);
        due("asked, nobody is kept", x.keep(0), 7);
        due("comes in the first minute", on("sleeper 1 9 0;sleeper 0 9 0;dreamer 1 0;").help(), 1);
    }

    private static void p43() {
        StreetDreams x = on(SMALL);
        due("none is there in 300", x.stranded(60), 5);
        x.keep(4);
        due("0 gets into 2", x.stranded(60), 0);
        due("1 gets into 2", x.stranded(49), 0);
        due("nobody else is there", x.stranded(150), 0);
        x.keep(2);
        due("in 99 room 0 gets into 1 in 100", x.stranded(99), 0);
        due("in 199 room 2 gets into 1 in 200", x.stranded(199), 0);
        due("last minute", x.stranded(300), 0);
        StreetDreams y = on("sleeper 0 9 0;sleeper 0 9 0;sleeper 0 9 0;door 0 1 1;door 1 2 0;turns 0 1;noise 8 0;");
        y.keep(1);
        due("2 gets out in 8 by 1", y.stranded(7), 0);
        due("2 goes in 9 at the latest", y.stranded(8), 4);
        refuses("minute", ARGUMENT, () -> x.stranded(301));
        refuses("minute", ARGUMENT, () -> x.stranded(-1));
    }

    private static void p44() {
        StreetDreams x = on(SMALL);
        due("two", x.make(20, 2), 2);
        due("behind those told", x.noise(1, 0) * 10 + x.noise(1, 1), 202);
        due("twice turned", x.open(1, 20), false);
        for (int i = 3; i <= 12; i++) {
            due("more", x.make(0, 5), i);
        }
        due("there are 12", x.make(0, 5), -1);
        due("changes", x.count(2), 11);
        refuses("minute, ahead of 12", ARGUMENT, () -> x.make(301, 0));
        refuses("minute", ARGUMENT, () -> x.make(-1, 0));
        refuses("sort", ARGUMENT, () -> x.make(0, 6));
        refuses("sort", ARGUMENT, () -> x.make(0, -1));
        StreetDreams y = new StreetDreams();
        for (int i = 0; i < 10; i++) {
            due("make", y.make(0, 0), 1);
            due("hush", y.hush(0), 0);
        }
        due("20 changes", y.make(0, 0), -1);
        due("20 changes", y.count(2), 20);
    }

    private static void p45() {
        StreetDreams x = on("noise 1 1;noise 2 2;noise 3 3;");
        due("left", x.hush(1), 2);
        due("moved up", x.noise(1, 0), 3);
        due("moved up", x.noise(1, 1), 3);
        due("none such", x.hush(2), -1);
        due("none such", x.hush(-1), -1);
        due("one change", x.count(2), 1);
        StreetDreams y = on("sleeper 0 9 0;noise 1 1;");
        for (int i = 0; i < 20; i++) {
            y.sleep(0, i, 20);
        }
        due("20 changes", y.hush(0), -1);
        due("nothing is done", y.told(2), 1);
    }

    private static void p46() {
        StreetDreams x = on(SMALL);
        due("moved", x.sleep(1, 60, 80), 1);
        due("from", x.sleeper(1, 0) * 1000 + x.sleeper(1, 1), 60080);
        due("there", x.there(1, 60), true);
        due("not there", x.there(1, 5), false);
        due("never", x.sleep(1, 300, 300), 1);
        refuses("T less than F", ARGUMENT, () -> x.sleep(1, 9, 8));
        refuses("F", ARGUMENT, () -> x.sleep(1, -1, 8));
        refuses("T", ARGUMENT, () -> x.sleep(1, 0, 301));
        refuses("no sleeper, ahead of F and T", ELEMENT, () -> x.sleep(3, 9, 8));
        for (int i = 2; i < 20; i++) {
            due("more", x.sleep(0, i, 20), 1);
        }
        due("20 changes", x.sleep(0, 0, 1), 0);
        due("stays", x.sleeper(0, 0), 19);
        refuses("F and T, ahead of 20 changes", ARGUMENT, () -> x.sleep(0, 9, 8));
    }

    private static void p47() {
        StreetDreams x = on("sleeper 3 9 0;noise 1 1;noise 2 2;noise 3 3;");
        due("none", x.undo(), -1);
        x.hush(1);
        x.make(9, 5);
        x.sleep(0, 5, 6);
        x.keep(1);
        due("sleep", x.undo(), 2);
        due("as it was", x.sleeper(0, 0) * 10 + x.sleeper(0, 1), 39);
        due("kept stays", x.told(6), 1);
        due("make", x.undo(), 1);
        due("noises", x.told(2), 2);
        due("hush", x.undo(), 0);
        due("at its place", x.noise(1, 0) * 100 + x.noise(2, 0), 203);
        due("at its place", x.noise(1, 1) * 100 + x.noise(2, 1), 203);
        due("none", x.undo(), -1);
        x.make(4, 4);
        due("again", x.undo(), 0);
        StreetDreams y = on(SMALL);
        due("by the noise", y.open(1, 25), true);
        y.hush(0);
        due("without", y.open(1, 25), false);
        y.undo();
        due("again", y.open(1, 25), true);
        y.sleep(0, 0, 9);
        due("gone in 9", y.night(0, 0), 9);
        y.undo();
        due("gone in 100", y.night(0, 0), 100);
        y.image();
        y.hush(0);
        due("without", y.often(1), 0);
        y.restore();
        due("restored", y.often(1), 281);
    }

    private static void p48() {
        StreetDreams x = on(SMALL);
        due("one", x.image(), 1);
        due("two", x.image(), 2);
        due("three", x.image(), 3);
        due("no more", x.image(), -1);
        due("three", x.count(0), 3);
    }

    private static void p49() {
        StreetDreams x = on(SMALL);
        due("none", x.restore(), -1);
        x.make(30, 1);
        x.keep(1);
        x.image();
        x.hush(0);
        x.sleep(2, 1, 2);
        x.keep(6);
        x.image();
        x.undo();
        x.undo();
        x.undo();
        x.keep(0);
        will(x, 0, "call 1;");
        book(x, "seen 1;");
        due("latest", x.restore(), 1);
        due("noises", x.told(2) * 1000 + x.noise(0, 0), 1030);
        due("minutes", x.sleeper(2, 0) * 10 + x.sleeper(2, 1), 12);
        due("kept", x.told(6), 6);
        due("changes", x.count(2), 3);
        due("not the will", x.night(0, 3), 1);
        due("not the book", x.told(7), 1);
        due("these can be undone", x.undo(), 2);
        due("as it was", x.sleeper(2, 1), 200);
        due("first", x.restore(), 0);
        due("kept", x.told(6), 1);
        due("noises", x.told(2), 2);
        due("changes", x.count(2), 1);
        due("undo", x.undo(), 0);
        due("noises", x.told(2), 1);
        due("none", x.restore(), -1);
    }

    private static void p50() {
        StreetDreams x = on(times(7, "sleeper 0 9 0;"));
        x.image();
        refuses("room", INDEX, () -> x.far(7, 0));
        refuses("room", INDEX, () -> x.lonely(-1));
        refuses("room", INDEX, () -> x.soonest(0, 0, 8));
        refuses("door", ELEMENT, () -> x.often(0));
        refuses("dreamer", ELEMENT, () -> x.where(0, 0));
        refuses("what", ARGUMENT, () -> x.told(9));
        refuses("state", STATE, () -> x.round(0));
        x.restore();
        street(x, "milk");
        street(x, "milk 5;");
        due("hush counts nothing", x.hush(5), -1);
        int[] due = {3, 2, 1, 1};
        for (int what = 0; what < 4; what++) {
            due("status " + what, x.status(what), due[what]);
        }
        due("other", x.status(4), -1);
        due("other", x.status(-1), -1);
    }

    private static void p51() {
        StreetDreams x = on(SMALL);
        x.image();
        x.image();
        x.make(1, 1);
        x.feed(1, 2, 3, 4, 5);
        due("images", x.count(0), 2);
        due("bytes", x.count(1), 20);
        due("changes", x.count(2), 1);
        due("other", x.count(3), -1);
        due("other", x.count(-1), -1);
    }

    public static void main(String[] args) {
        watch();
        Runnable[] all = {PromisesTest::p1, PromisesTest::p2, PromisesTest::p3, PromisesTest::p4, PromisesTest::p5,
            PromisesTest::p6, PromisesTest::p7, PromisesTest::p8, PromisesTest::p9, PromisesTest::p10,
            PromisesTest::p11, PromisesTest::p12, PromisesTest::p13, PromisesTest::p14, PromisesTest::p15,
            PromisesTest::p16, PromisesTest::p17, PromisesTest::p18, PromisesTest::p19, PromisesTest::p20,
            PromisesTest::p21, PromisesTest::p22, PromisesTest::p23, PromisesTest::p24, PromisesTest::p25,
            PromisesTest::p26, PromisesTest::p27, PromisesTest::p28, PromisesTest::p29, PromisesTest::p30,
            PromisesTest::p31, PromisesTest::p32, PromisesTest::p33, PromisesTest::p34, PromisesTest::p35,
            PromisesTest::p36, PromisesTest::p37, PromisesTest::p38, PromisesTest::p39, PromisesTest::p40,
            PromisesTest::p41, PromisesTest::p42, PromisesTest::p43, PromisesTest::p44, PromisesTest::p45,
            PromisesTest::p46, PromisesTest::p47, PromisesTest::p48, PromisesTest::p49, PromisesTest::p50,
            PromisesTest::p51};
        for (Runnable r : all) {
            promise++;
            part("promise " + promise);
            r.run();
        }
        finish("promises 1 to " + promise + " hold");
    }
}

/** The edges of what is counted over the minutes. Document ==== 4, promises 32 to 43. */
final class CountEdges extends Checks {
    private static final String PAIR = "sleeper 0 300 0;sleeper 0 300 0;";
    private static final String OPEN = PAIR + "door 0 1 1;";
    private static final String SHUT = PAIR + "door 0 1 0;turns 0 0;";
    private static final String CHAIN = times(8, "sleeper 0 300 0;") + "door 0 1 1;door 1 2 1;door 2 3 1;door 3 4 1;"
        + "door 4 5 1;door 5 6 1;door 6 7 1;";

    static void all() {
        asleep();
        rooms();
        lasting();
        lastingOfTwins();
        reach();
        far();
        quiet();
        lonely();
        ends();
        crowd();
        often();
        help();
        helpOfAlike();
        stranded();
    }

    // ---- promises 32 and 33

    private static void asleep() {
        says("Who sleeps in a MINUTE, as bits.");
        StreetDreams x = on("sleeper 0 1 0;" + times(6, "sleeper 0 300 0;") + "sleeper 299 300 0;");
        due("in 0", x.asleep(0), 0x7f);
        due("in 1", x.asleep(1), 0x7e);
        due("in 298", x.asleep(298), 0x7e);
        due("in 299", x.asleep(299), 0xfe);
        due("in 300", x.asleep(300), 0);
        x.keep(129);
        due("in 300, kept", x.asleep(300), 129);
        due("in 0, kept", x.asleep(0), 0xff);
        StreetDreams twins = on("sleeper 0 9 0;sleeper 20 30 0;twin 0 1;milk 5;");
        due("not the twin", twins.asleep(4), 1);
        due("woken in 5", twins.asleep(5), 0);
        due("woken ahead of his F", twins.asleep(20), 0);
        due("no sleepers", new StreetDreams().asleep(0) + new StreetDreams().asleep(300), 0);
    }

    private static void rooms() {
        says("ROOMS THERE, as bits.");
        StreetDreams x = on("sleeper 0 1 0;" + times(6, "sleeper 0 300 0;") + "sleeper 299 300 0;");
        due("in 0", x.rooms(0), 0x7f);
        due("in 298", x.rooms(298), 0x7e);
        due("in 299", x.rooms(299), 0xfe);
        due("in 300", x.rooms(300), 0);
        StreetDreams twins = on("sleeper 0 1 0;sleeper 0 2 0;sleeper 9 9 0;sleeper 9 9 0;twin 3 0;twin 2 1;");
        due("all by twins", twins.rooms(0), 15);
        due("1 and its twin", twins.rooms(1), 6);
        due("none", twins.rooms(2), 0);
        twins.keep(8);
        due("a kept one and its twin in 300", twins.rooms(300), 9);
        due("no sleepers", new StreetDreams().rooms(0) + new StreetDreams().rooms(300), 0);
    }

    // ---- promise 34

    private static void lastingIs(String what, StreetDreams x, int room, int many, int first) {
        due("how many: " + what, x.lasting(room, 0), many);
        due("the first: " + what, x.lasting(room, 1), first);
    }

    private static void lasting() {
        says("LASTING of a ROOM: the longest row of MINUTES in which it is THERE without a gap.");
        StreetDreams x = on("sleeper 3 9 0;sleeper 0 300 0;sleeper 299 300 0;sleeper 0 1 0;sleeper 5 5 0;sleeper 0 0 0;"
            + "sleeper 300 300 0;");
        lastingIs("3 to 8", x, 0, 6, 3);
        lastingIs("0 to 299", x, 1, 300, 0);
        lastingIs("299 alone", x, 2, 1, 299);
        lastingIs("0 alone", x, 3, 1, 0);
        says("LASTING: 0 how many MINUTES (0: never), 1 the first MINUTE of the first such row (NONE).");
        lastingIs("5 to 5", x, 4, 0, -1);
        lastingIs("0 to 0", x, 5, 0, -1);
        lastingIs("300 to 300", x, 6, 0, -1);
        x.keep(64);
        lastingIs("kept: all", x, 6, 301, 0);
        StreetDreams milk = on("sleeper 3 9 0;sleeper 6 9 0;sleeper 3 9 0;milk 4;");
        lastingIs("woken in 4", milk, 0, 1, 3);
        lastingIs("woken in 5, ahead of his F", milk, 1, 0, -1);
        lastingIs("woken in 6", milk, 2, 3, 3);
    }

    private static void lastingOfTwins() {
        says("1 the first MINUTE of the first such row (NONE)");
        lastingIs("two alike ones: the first", on("sleeper 20 26 0;sleeper 3 9 0;twin 0 1;"), 0, 6, 3);
        lastingIs("the second is longer by one", on("sleeper 20 27 0;sleeper 3 9 0;twin 0 1;"), 0, 7, 20);
        lastingIs("the first is longer by one", on("sleeper 20 25 0;sleeper 3 9 0;twin 0 1;"), 1, 6, 3);
        lastingIs("one ends as the other begins", on("sleeper 3 9 0;sleeper 9 12 0;twin 0 1;"), 0, 9, 3);
        lastingIs("a gap of one", on("sleeper 3 9 0;sleeper 10 12 0;twin 0 1;"), 0, 6, 3);
        lastingIs("one over the other", on("sleeper 3 9 0;sleeper 5 12 0;twin 0 1;"), 0, 9, 3);
        lastingIs("one in the other", on("sleeper 3 9 0;sleeper 5 7 0;twin 0 1;"), 1, 6, 3);
        lastingIs("up to the last minutes", on("sleeper 3 9 0;sleeper 290 300 0;twin 0 1;"), 0, 10, 290);
    }

    // ---- promises 35 and 36

    private static void reach() {
        says("REACH: in which ROOMS one who is in a ROOM in a MINUTE can be in a later one (by WAYS).");
        StreetDreams x = on(CHAIN);
        due("in the same", x.reach(3, 5, 5), 8);
        due("in the next", x.reach(3, 5, 6), 28);
        due("in all by four", x.reach(3, 5, 9), 255);
        due("not by three", x.reach(3, 5, 8), 127);
        due("from 0 to 0", x.reach(0, 0, 0), 1);
        due("from 0 to 299", x.reach(0, 0, 299), 255);
        due("to 300, none is there", x.reach(0, 0, 300), 0);
        due("from 300, it is not there", x.reach(0, 300, 300), 0);
        x.keep(144);
        due("to 300, two are there", x.reach(0, 0, 300), 144);
        due("from 300", x.reach(4, 300, 300), 16);
        due("from 299 into 300, from 6", x.reach(6, 299, 300), 128);
        StreetDreams y = on("sleeper 0 6 0;sleeper 6 9 0;sleeper 0 300 0;door 0 1 1;door 1 2 1;");
        due("in rooms that are there then", y.reach(0, 4, 5), 1);
        due("out of it as it goes", y.reach(0, 4, 6), 2);
        due("and on", y.reach(0, 4, 9), 4);
        due("not from a room that is gone", y.reach(0, 6, 9), 0);
        due("not from a room that is not yet", y.reach(1, 5, 9), 0);
        says("REACH, as bits. IllegalArgumentException: MINUTES, the second one less.");
        refuses("less by one", ARGUMENT, () -> x.reach(0, 5, 4));
        refuses("less by all", ARGUMENT, () -> x.reach(0, 300, 0));
        refuses("both too large", ARGUMENT, () -> x.reach(0, 301, 301));
        refuses("both too small", ARGUMENT, () -> x.reach(0, -1, -1));
        due("counted", x.status(2), 4);
    }

    private static void far() {
        says("FAR: the fewest DOORS open at first one goes through from a ROOM to another one.");
        StreetDreams x = on(CHAIN);
        for (int b = 0; b < 8; b++) {
            due("from 0 to " + b, x.far(0, b), b);
            due("from 7 to " + b, x.far(7, b), 7 - b);
        }
        StreetDreams ring = on(times(6, "sleeper 0 0 0;") + "door 0 1 1;door 1 2 1;door 2 3 1;door 3 4 1;door 4 5 1;door 5 0 1;");
        due("round the other side", ring.far(0, 4), 2);
        due("alike on both sides", ring.far(0, 3), 3);
        says("FAR (0: to itself); NONE: there is no way.");
        due("itself, never there", ring.far(2, 2), 0);
        due("itself, without doors", on("sleeper 0 9 0;").far(0, 0), 0);
        due("no door", on(PAIR).far(0, 1), -1);
        due("a shut one that a noise opens in 0", on(SHUT + "noise 0 0;").far(0, 1), -1);
        due("an open one that a noise shuts in 0", on(OPEN + "turns 0 0;noise 0 0;").far(1, 0), 1);
        due("one of two doors is open", on(PAIR + "door 0 1 0;door 1 0 1;").far(0, 1), 1);
        due("a way from one side only", on(times(4, "sleeper 0 9 0;") + "door 0 1 1;door 2 3 1;").far(0, 3), -1);
        due("twins have no door", on(PAIR + "twin 0 1;").far(0, 1), -1);
    }

    // ---- promises 37 to 41

    private static void quiet() {
        says("QUIET: MINUTES in which no NOISE is told.");
        due("none is told", new StreetDreams().quiet(), 301);
        due("in 0", on("noise 0 0;").quiet(), 300);
        due("in 300", on("noise 300 0;").quiet(), 300);
        due("twelve in one", on(times(12, "noise 9 1;")).quiet(), 300);
        StringBuilder b = new StringBuilder();
        for (int i = 0; i < 12; i++) {
            b.append("noise ").append(i * 25).append(" 1;");
        }
        due("twelve in twelve", on(b.toString()).quiet(), 289);
        due("told apart, in two", on("noise 5 0;noise 9 0;noise 5 1;noise 9 2;").quiet(), 299);
        says("`int quiet()`: QUIET.");
        StreetDreams x = on(SHUT + "noise 5 0;noise 5 0;dreamer 0 5;", "call 0;call 0;");
        due("two that do nothing together count, calls do not", x.quiet(), 300);
        x.hush(0);
        due("one is left in 5", x.quiet(), 300);
        x.hush(0);
        due("none is left", x.quiet(), 301);
        x.make(300, 5);
        due("one more", x.quiet(), 300);
        x.undo();
        due("undone", x.quiet(), 301);
    }

    private static void lonely() {
        says("LONELY: MINUTES of the night in which a ROOM is THERE and (behind them) no DREAMER is in it.");
        due("never there", on("sleeper 7 7 0;").lonely(0), 0);
        due("nobody", on("sleeper 0 300 0;").lonely(0), 300);
        StreetDreams x = on(OPEN + "dreamer 0 0;", "to 1;");
        due("in it in 0 alone", x.lonely(0), 299);
        due("in it from 1 on", x.lonely(1), 1);
        x.keep(3);
        due("and in 300", x.lonely(0), 300);
        due("not in 300", x.lonely(1), 1);
        StreetDreams last = on("sleeper 0 300 0;dreamer 0 300;dreamer 0 299;");
        due("in 299", last.lonely(0), 299);
        last.keep(1);
        due("in 299 and 300", last.lonely(0), 299);
        StreetDreams all = on("sleeper 0 300 0;dreamer 0 0;dreamer 0 5;");
        due("never lonely", all.lonely(0), 0);
        all.keep(1);
        due("never lonely, though kept", all.lonely(0), 0);
        says("`int lonely(int room) throws IndexOutOfBoundsException`: LONELY.");
        StreetDreams twins = on("sleeper 0 9 0;sleeper 0 0 0;twin 0 1;dreamer 0 3;");
        due("of twins the one he is in", twins.lonely(0), 3);
        due("of twins the other one", twins.lonely(1), 9);
        StreetDreams kept = on("sleeper 0 9 0;");
        kept.keep(1);
        due("in all 301", kept.lonely(0), 301);
        StreetDreams lost = on("sleeper 0 5 0;sleeper 8 12 0;twin 0 1;dreamer 0 2;");
        due("who is lost is not in it when it is back", lost.lonely(0), 6);
    }

    private static void ends() {
        says("ENDS: the last MINUTE in which any ROOM is THERE.");
        due("299", on("sleeper 0 9 0;sleeper 5 300 0;sleeper 0 7 0;").ends(), 299);
        due("0", on("sleeper 0 1 0;").ends(), 0);
        due("behind a gap", on("sleeper 50 60 0;sleeper 0 9 0;").ends(), 59);
        says("ENDS; NONE: none ever is.");
        due("no sleepers", new StreetDreams().ends(), -1);
        StreetDreams x = on("sleeper 0 0 0;sleeper 300 300 0;");
        due("none", x.ends(), -1);
        x.keep(1);
        due("the last", x.ends(), 300);
        due("woken ahead of their F", on("sleeper 5 9 0;sleeper 6 9 0;milk 5;").ends(), -1);
        due("woken in 5 and 6", on("sleeper 0 9 0;sleeper 0 9 0;milk 5;").ends(), 5);
    }

    private static void crowdIs(String what, StreetDreams x, int many, int first) {
        due("how many: " + what, x.crowd(0), many);
        due("the first minute: " + what, x.crowd(1), first);
    }

    private static void crowd() {
        says("CROWD: the most DREAMERS who are in one ROOM behind one MINUTE of the night.");
        crowdIs("all four", on("sleeper 0 9 0;" + times(4, "dreamer 0 1;")), 4, 1);
        crowdIs("in minute 0", on("sleeper 0 9 0;dreamer 0 0;"), 1, 0);
        crowdIs("two in two rooms are not three", on(PAIR + times(2, "dreamer 0 3;dreamer 1 2;")), 2, 2);
        crowdIs("twins are two rooms", on(PAIR + "twin 0 1;dreamer 0 1;dreamer 1 1;"), 1, 1);
        crowdIs("behind the minute: they pass one another", on(OPEN + "dreamer 0 1;dreamer 1 1;", "to 1;", "to 0;"), 1, 1);
        crowdIs("behind the minute in which he goes", on(OPEN + "dreamer 0 1;dreamer 1 1;", "to 1;"), 2, 2);
        says("CROWD: 0 how many, 1 the first MINUTE in which it is so (NONE: 0).");
        crowdIs("no dreamers", on(PAIR), 0, -1);
        crowdIs("no street", new StreetDreams(), 0, -1);
        crowdIs("lost as he comes", on("sleeper 0 9 0;dreamer 0 9;"), 0, -1);
        StreetDreams last = on("sleeper 0 300 0;dreamer 0 300;");
        crowdIs("lost in 300", last, 0, -1);
        last.keep(1);
        crowdIs("in 300", last, 1, 300);
        crowdIs("the first of two such", on(OPEN + "dreamer 0 1;dreamer 1 1;", "to 1;to 0;wait 3;to 1;"), 2, 2);
        crowdIs("more of them later", on("sleeper 0 9 0;dreamer 0 1;dreamer 0 1;dreamer 0 8;"), 3, 8);
    }

    private static void often() {
        says("OFTEN: in how many MINUTES (behind their NOISES as told) a DOOR is open.");
        due("open in all", on(OPEN).often(0), 301);
        due("shut in all", on(SHUT).often(0), 0);
        due("opened in 0", on(SHUT + "noise 0 0;").often(0), 301);
        due("shut in 0", on(OPEN + "turns 0 0;noise 0 0;").often(0), 0);
        due("opened in 1", on(SHUT + "noise 1 0;").often(0), 300);
        due("opened in 300", on(SHUT + "noise 300 0;").often(0), 1);
        due("shut in 300", on(OPEN + "turns 0 0;noise 300 0;").often(0), 300);
        due("two in one minute", on(SHUT + "noise 5 0;noise 5 0;").often(0), 0);
        due("5 to 8", on(SHUT + "noise 9 0;noise 5 0;").often(0), 4);
        says("`int often(int door) throws NoSuchElementException`: OFTEN.");
        StreetDreams x = on(SHUT + "noise 290 0;dreamer 0 5;", "call 0;");
        due("calls turn nothing here", x.often(0), 11);
        due("though they do in the night", x.open(0, 289), true);
        due("though no room is there", on("sleeper 0 0 0;sleeper 0 0 0;door 0 1 1;").often(0), 301);
        StreetDreams ten = on(PAIR + times(9, "door 0 1 0;") + "door 0 1 1;");
        due("the tenth", ten.often(9), 301);
        due("the first", ten.often(0), 0);
    }

    // ---- promises 42 and 43

    private static void help() {
        says("HELP: of SLEEPERS who are not KEPT the one by whom, were he KEPT, too, fewest DREAMERS are LOST in the night, "
            + "of these the first.");
        StreetDreams x = on(times(8, "sleeper 0 9 0;") + "dreamer 7 1;dreamer 7 1;dreamer 3 1;");
        due("the last saves two", x.help(), 7);
        x.keep(128);
        due("then 3", x.help(), 3);
        x.keep(136);
        due("then all are alike: the first", x.help(), 0);
        x.keep(137);
        due("the first who is not kept", x.help(), 1);
        x.keep(127);
        due("the one who is left", x.help(), 7);
        says("HELP; NONE: all are KEPT (or there are no SLEEPERS).");
        x.keep(255);
        due("all are kept", x.help(), -1);
        due("no sleepers", new StreetDreams().help(), -1);
        due("no sleepers, a milkman", on("milk 5;noise 3 3;").help(), -1);
        due("one, whom nobody needs", on("sleeper 0 9 0;").help(), 0);
        StreetDreams one = on("sleeper 0 9 0;");
        one.keep(1);
        due("one, kept", one.help(), -1);
    }

    private static void helpOfAlike() {
        says("the one by whom, were he KEPT, too, fewest DREAMERS are LOST");
        due("one of two is lost, whoever is kept", on("sleeper 0 9 0;sleeper 0 9 0;dreamer 1 1;dreamer 0 1;").help(), 0);
        String leave = "until after 20[wait 1;];to 1;";
        due("all four are lost, whoever is kept", on("sleeper 0 20 0;sleeper 0 30 0;door 0 1 1;" + times(4, "dreamer 0 1;"),
            leave, leave, leave, leave).help(), 0);
        due("who stays is lost but for 0", on("sleeper 0 20 0;sleeper 0 30 0;door 0 1 1;" + times(4, "dreamer 0 1;"),
            leave, leave, leave).help(), 0);
        due("of alike ones the first", on(times(3, "sleeper 0 9 0;") + "dreamer 2 1;dreamer 1 1;").help(), 1);
        due("by the twin's first sleeper", on(times(3, "sleeper 0 9 0;") + "twin 2 1;dreamer 2 1;").help(), 1);
        due("in the first minute", on("sleeper 9 9 0;sleeper 9 9 0;dreamer 1 0;").help(), 1);
        due("in the last minute", on("sleeper 0 300 0;sleeper 0 300 0;dreamer 1 300;").help(), 1);
        due("whom the milkman wakes", on("sleeper 0 9 0;sleeper 0 300 0;dreamer 1 7;dreamer 1 7;milk 5;").help(), 1);
        StreetDreams walks = on("sleeper 0 20 0;sleeper 0 20 0;sleeper 0 20 0;door 0 1 1;door 1 2 1;dreamer 0 1;",
            "wait 3;to 1;to 2;");
        due("into the room where he goes", walks.help(), 2);
        StreetDreams caught = on("sleeper 0 20 0;sleeper 8 20 0;sleeper 0 300 0;door 0 1 1;door 0 2 1;dreamer 0 1;",
            "to 2;until met[];to 1;");
        caught.keep(4);
        due("nobody is lost: the first", caught.help(), 0);
        StreetDreams worse = on("sleeper 0 20 0;sleeper 9 9 0;sleeper 0 300 0;door 0 1 1;door 0 2 1;dreamer 0 1;dreamer 1 5;",
            "if there 0[to 2;];");
        worse.keep(4);
        due("the other one, who is lost else", worse.help(), 1);
    }

    private static void stranded() {
        says("STRANDED in a MINUTE: ROOMS THERE from which, from it on, one can't be in any ROOM in MINUTE 300.");
        StreetDreams x = on(CHAIN);
        due("none is there in 300", x.stranded(0), 255);
        due("in 299", x.stranded(299), 255);
        due("in 300", x.stranded(300), 0);
        x.keep(128);
        due("seven doors by 293", x.stranded(293), 0);
        due("not from 0 by 294", x.stranded(294), 1);
        due("from 6 in 299", x.stranded(299), 63);
        due("in 300", x.stranded(300), 0);
        x.keep(255);
        due("all are kept", x.stranded(0) + x.stranded(299) + x.stranded(300), 0);
        says("STRANDED, as bits.");
        StreetDreams shut = on(SHUT + "noise 300 0;dreamer 0 5;", "call 0;");
        shut.keep(1);
        due("opened in 300, when it is gone: out of it as it goes", shut.stranded(299), 0);
        StreetDreams early = on(SHUT + "noise 7 0;noise 9 0;");
        early.keep(1);
        due("open in 7 and 8: in 7", early.stranded(7), 0);
        due("in 8 it is too late", early.stranded(8), 2);
        due("calls open nothing", on(SHUT + "dreamer 0 5;", "call 0;").stranded(5), 3);
        StreetDreams gone = on("sleeper 0 9 0;sleeper 5 8 0;");
        gone.keep(1);
        due("a room that is not there is not stranded", gone.stranded(4), 0);
        due("there in 5", gone.stranded(5), 2);
        due("there in 7", gone.stranded(7), 2);
        due("gone in 8", gone.stranded(8), 0);
        due("no sleepers", new StreetDreams().stranded(0), 0);
    }
}

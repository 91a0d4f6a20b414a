/** The edges of changes, of what undoes them, of images and of what is counted. Promises 44 to 51. */
final class ChangeEdges extends Checks {
    private static final String ROOM = "sleeper 3 9 0;sleeper 0 300 0;door 0 1 0;turns 2 0;turns 5 0;";
    private static final String ELEVEN = ROOM + times(11, "noise 9 1;");

    static void all() {
        make();
        makeBehindThose();
        makeTwentyChanges();
        hush();
        hushTwentyChanges();
        sleep();
        sleepTwentyChanges();
        undo();
        undoAll();
        undoneIsNoMore();
        images();
        whatAnImageHolds();
        restore();
        restoreOverChanges();
        count();
        asksAnew();
        nightsAnew();
    }

    /** So many changes, none of which is seen in the noises. */
    private static void change(StreetDreams x, int many) {
        for (int i = 0; i < many; i++) {
            due("change " + i, x.sleep(1, i, 300), 1);
        }
    }

    private static String noises(StreetDreams x) {
        StringBuilder b = new StringBuilder();
        for (int i = 0; i < x.told(2); i++) {
            b.append(x.noise(i, 0)).append(' ').append(x.noise(i, 1)).append(';');
        }
        return b.toString();
    }

    // ---- promise 44

    private static void make() {
        says("One NOISE more in a MINUTE (behind those told of it): how many NOISES; -1: there are 12, or 20 changes.");
        StreetDreams x = on(ELEVEN);
        due("the twelfth", x.make(300, 5), 12);
        due("it is the last", x.noise(11, 0) * 10 + x.noise(11, 1), 3005);
        String state = state(x);
        due("there are 12", x.make(0, 0), -1);
        due("there are 12 still", x.make(300, 5), -1);
        due("nothing is done", state(x), state);
        due("one change", x.count(2), 1);
        due("undone", x.undo(), 0);
        due("there is place again", x.make(0, 0), 12);
        due("one left out", x.hush(3), 11);
        due("there is place again", x.make(0, 0), 12);
        StreetDreams none = new StreetDreams();
        due("the first of all", none.make(0, 0), 1);
        due("the second", none.make(0, 0), 2);
        says("IllegalArgumentException: MINUTE, SORT.");
        String before = state(x);
        refuses("minute, though there are 12", ARGUMENT, () -> x.make(301, 0));
        refuses("minute", ARGUMENT, () -> x.make(-1, 0));
        refuses("sort", ARGUMENT, () -> x.make(0, 6));
        refuses("sort", ARGUMENT, () -> x.make(300, -1));
        due("nothing is done", state(x), before);
        due("counted", x.status(2), 4);
    }

    private static void makeBehindThose() {
        says("(behind those told of it)");
        StreetDreams x = on(ROOM + "noise 20 0;noise 30 2;noise 20 1;");
        due("a fourth", x.make(20, 5), 4);
        due("behind all of minute 20", noises(x), "20 0;30 2;20 1;20 5;");
        due("it turns the door in 20", row(m -> x.open(0, m), 19, 31), "0111111111100");
        due("so it is told", x.told(2) * 1000 + x.quiet(), 4299);
        due("not counted again by the same minute", x.make(20, 2), 5);
        due("quiet minutes", x.quiet(), 299);
        due("turned twice in 20", row(m -> x.open(0, m), 19, 31), "0000000000011");
        StreetDreams ends = on(ROOM);
        ends.make(0, 2);
        ends.make(300, 5);
        due("in 0 and 300", row(m -> ends.open(0, m), 0, 1) + row(m -> ends.open(0, m), 299, 300), "1110");
    }

    private static void makeTwentyChanges() {
        says("-1: there are 12, or 20 changes.");
        StreetDreams x = on(ROOM);
        change(x, 19);
        due("the twentieth change", x.make(5, 2), 1);
        due("twenty", x.count(2), 20);
        String state = state(x);
        due("no more", x.make(6, 2), -1);
        due("nothing is done", state(x), state);
        due("undone", x.undo(), 19);
        due("one more", x.make(6, 2), 1);
        due("the later one", noises(x), "6 2;");
        refuses("sort, though there are 20 changes", ARGUMENT, () -> x.make(6, 6));
        due("a new street", street(x, ROOM), 2);
        due("none any more", x.count(2), 0);
        due("one", x.make(5, 2), 1);
    }

    // ---- promise 45

    private static void hush() {
        says("The i-th NOISE is left out: how many are left; -1: none such, or 20 changes (nothing is done).");
        StreetDreams x = on(ROOM + "noise 1 1;noise 2 2;noise 3 3;noise 4 4;");
        String state = state(x);
        int[] none = {4, -1, 12, Integer.MIN_VALUE, Integer.MAX_VALUE};
        for (int i : none) {
            due("none such: " + i, x.hush(i), -1);
        }
        due("nothing is done", state(x), state);
        due("no refusal", x.status(2) + x.status(0), 0);
        due("the last", x.hush(3), 3);
        due("the others", noises(x), "1 1;2 2;3 3;");
        due("none such any more", x.hush(3), -1);
        due("the first", x.hush(0), 2);
        due("the others", noises(x), "2 2;3 3;");
        due("the second", x.hush(1), 1);
        due("the other", noises(x), "2 2;");
        due("the only one", x.hush(0), 0);
        due("none is left", x.hush(0), -1);
        due("four changes", x.count(2), 4);
        due("no noise at all", on(ROOM).hush(0), -1);
        StreetDreams full = on(ROOM + times(11, "noise 9 1;") + "noise 300 5;");
        due("the twelfth", full.hush(11), 11);
        due("it is gone", full.noise(10, 0), 9);
        StreetDreams made = on(ROOM);
        made.make(7, 2);
        due("a made one", made.hush(0), 0);
        due("the door stays shut", made.open(0, 300), false);
    }

    private static void hushTwentyChanges() {
        says("-1: none such, or 20 changes (nothing is done)");
        StreetDreams x = on(ROOM + "noise 5 2;noise 6 2;");
        change(x, 19);
        due("the twentieth change", x.hush(0), 1);
        String state = state(x);
        due("no more", x.hush(0), -1);
        due("nor none such", x.hush(1), -1);
        due("nothing is done", state(x), state);
        due("undone", x.undo(), 19);
        due("both are back", noises(x), "5 2;6 2;");
        due("the other one then", x.hush(1), 1);
        due("left", noises(x), "5 2;");
    }

    // ---- promise 46

    private static void sleep() {
        says("A SLEEPER sleeps from and to other MINUTES (as F and T): 1; 0: 20 changes. IllegalArgumentException: F, T.");
        StreetDreams x = on(ROOM + "milk 299;");
        due("as F and T", x.sleep(0, 20, 25), 1);
        due("told", x.sleeper(0, 0) * 100 + x.sleeper(0, 1), 2025);
        due("he sleeps", row(m -> x.sleeps(0, m), 18, 26), "001111100");
        due("not as he did", row(m -> x.sleeps(0, m), 0, 17).indexOf('1'), -1);
        due("0 to 0", x.sleep(0, 0, 0), 1);
        due("never", x.sleeps(0, 0), false);
        due("300 to 300", x.sleep(0, 300, 300), 1);
        due("never", x.sleeps(0, 299) || x.sleeps(0, 300), false);
        due("0 to 300", x.sleep(0, 0, 300), 1);
        due("the milkman still wakes him", row(m -> x.sleeps(0, m), 297, 300), "1100");
        due("the same once more is a change", x.sleep(0, 0, 300), 1);
        due("five", x.count(2), 5);
        String state = state(x);
        refuses("T less than F", ARGUMENT, () -> x.sleep(0, 9, 8));
        refuses("F", ARGUMENT, () -> x.sleep(0, -1, 8));
        refuses("T", ARGUMENT, () -> x.sleep(0, 8, 301));
        refuses("both", ARGUMENT, () -> x.sleep(0, 301, 301));
        refuses("both", ARGUMENT, () -> x.sleep(0, -1, -1));
        due("stays", state(x), state);
        due("counted", x.status(2), 5);
        due("W stays", on("sleeper 0 9 7;").sleep(0, 1, 2), 1);
        StreetDreams odds = on("sleeper 0 9 7;sleeper 0 9 0;twin 0 1;");
        odds.sleep(0, 1, 2);
        due("W and the twin stay", odds.sleeper(0, 2) * 10 + odds.sleeper(0, 3), 71);
    }

    private static void sleepTwentyChanges() {
        says("1; 0: 20 changes.");
        StreetDreams x = on(ROOM);
        change(x, 19);
        due("the twentieth", x.sleep(0, 5, 6), 1);
        String state = state(x);
        due("no more", x.sleep(0, 7, 8), 0);
        due("no more", x.sleep(1, 7, 8), 0);
        due("nothing is done", state(x), state);
        due("twenty", x.count(2), 20);
        refuses("T less than F, though there are 20 changes", ARGUMENT, () -> x.sleep(0, 9, 8));
        refuses("no sleeper, though there are 20 changes", ELEMENT, () -> x.sleep(2, 9, 9));
        due("undone", x.undo(), 19);
        due("as he did", x.sleeper(0, 0) * 10 + x.sleeper(0, 1), 39);
        due("one more", x.sleep(0, 7, 8), 1);
    }

    // ---- promise 47

    private static void undo() {
        says("The latest of these three changes that was not undone is undone: how many are left; -1: there is none.");
        StreetDreams x = on(ROOM + "noise 1 1;noise 2 2;noise 3 3;");
        String told = state(x);
        due("none", x.undo(), -1);
        due("nothing is done", state(x), told);
        x.hush(1);
        String hushed = noises(x);
        x.make(9, 5);
        String made = noises(x);
        x.sleep(0, 5, 6);
        x.hush(2);
        due("two noises", noises(x), hushed);
        due("the second one hushed is back", x.undo() * 10 + x.told(2), 33);
        due("at its place", noises(x), made);
        due("sleep", x.undo(), 2);
        due("as he did", x.sleeper(0, 0) * 10 + x.sleeper(0, 1), 39);
        due("make", x.undo(), 1);
        due("without it", noises(x), hushed);
        due("hush", x.undo(), 0);
        due("all is as told", state(x), told);
        due("none", x.undo(), -1);
        due("nothing is done", state(x), told);
        due("no refusal", x.status(0) + x.status(1) + x.status(2) + x.status(3), 0);
    }

    private static void undoAll() {
        says("is undone: how many are left");
        StreetDreams x = on(ELEVEN);
        String told = noises(x);
        for (int i = 0; i < 20; i++) {
            due("change " + i, i % 4 == 0 ? x.hush(i % 11) : i % 4 == 2 ? x.make(i, i % 6) : x.sleep(i / 2 % 2, i, i + 5),
                i % 4 == 0 ? 10 : i % 4 == 2 ? 11 : 1);
        }
        due("no twenty-first", x.sleep(0, 0, 0), 0);
        for (int i = 19; i >= 0; i--) {
            due("left", x.undo(), i);
            due("so it is counted", x.count(2), i);
        }
        due("none", x.undo(), -1);
        due("the noises", noises(x), told);
        due("the first sleeper", x.sleeper(0, 0) * 10 + x.sleeper(0, 1), 39);
        due("the second", x.sleeper(1, 0) * 1000 + x.sleeper(1, 1), 300);
        StreetDreams first = on(ROOM + times(12, "noise 9 1;"));
        first.hush(0);
        due("the first of twelve is back", first.undo() * 100 + first.told(2), 12);
        StreetDreams two = on(ROOM + "noise 9 1;noise 8 2;");
        two.hush(1);
        two.hush(0);
        two.undo();
        due("the first alone", noises(two), "9 1;");
        two.undo();
        due("the last behind it", noises(two), "9 1;8 2;");
    }

    private static void undoneIsNoMore() {
        says("The latest of these three changes that was not undone");
        StreetDreams x = on(ROOM);
        x.make(1, 2);
        x.make(2, 2);
        due("2 is undone", x.undo(), 1);
        x.make(3, 2);
        due("1 and 3", noises(x), "1 2;3 2;");
        due("3 is undone", x.undo() * 10 + x.told(2), 11);
        due("then 1, not 2 once more", x.undo() * 10 + x.told(2), 0);
        due("then none", x.undo(), -1);
        x.keep(3);
        due("keep is no change", x.undo(), -1);
        due("those kept stay", x.told(6), 3);
        x.sleep(0, 4, 8);
        x.keep(1);
        due("the change ahead of it", x.undo(), 0);
        due("those kept stay", x.told(6), 1);
        StreetDreams y = on(ROOM + "dreamer 0 5;");
        will(y, 0, "call 2;");
        book(y, "seen 5;");
        due("wills and the book are no changes", y.undo(), -1);
        y.make(5, 5);
        y.make(300, 5);
        due("refused ones are none", y.count(2), 2);
        refuses("a refused one", ARGUMENT, () -> y.make(5, 6));
        due("two still", y.count(2), 2);
    }

    // ---- promises 48 and 49

    private static void images() {
        says("An IMAGE of NOISES, SLEEPERS' MINUTES, KEPT, changes that can be undone (not of WILLS, the BOOK): "
            + "how many there are; -1: there are 3.");
        StreetDreams x = on(ROOM);
        due("none", x.count(0), 0);
        for (int i = 1; i <= 3; i++) {
            x.keep(i);
            due("image " + i, x.image(), i);
            due("so many are counted", x.count(0), i);
        }
        x.keep(0);
        due("there are 3", x.image(), -1);
        due("there are 3 still", x.image() * 10 + x.count(0), -7);
        due("the third was not taken again", x.restore() * 10 + x.told(6), 23);
        due("there is place again", x.image(), 3);
        due("no refusal", x.status(0) + x.status(1) + x.status(2) + x.status(3), 0);
        StreetDreams none = new StreetDreams();
        due("of a new object", none.image(), 1);
        due("and back", none.restore(), 0);
        due("a street forgets them", none.image() * 10 + none.street(0), 10);
        due("none", none.count(0), 0);
        due("one again", none.image(), 1);
    }

    private static void whatAnImageHolds() {
        says("(not of WILLS, the BOOK)");
        StreetDreams x = on(ROOM + "noise 1 1;noise 2 2;dreamer 1 5;", "call 0;");
        book(x, "seen 5;");
        x.make(7, 3);
        x.keep(1);
        String held = state(x);
        x.image();
        x.hush(0);
        x.hush(0);
        x.sleep(0, 1, 2);
        x.sleep(1, 3, 4);
        x.make(9, 4);
        x.keep(2);
        x.feed(0, 0, 0, 0, 0);
        refuses("a refused call", ARGUMENT, () -> x.asleep(-1));
        due("back", x.restore(), 0);
        due("noises", noises(x), "1 1;2 2;7 3;");
        due("all that it held", state(x).replaceAll(" \\d+ \\d+$", ""), held.replaceAll(" \\d+ \\d+$", ""));
        due("changes that can be undone", x.count(2), 1);
        due("the tape is not of it", x.count(1), 20);
        due("nor what is counted", x.status(2), 1);
        due("the change is undone", x.undo() * 10 + x.told(2), 2);
        StreetDreams y = on(ROOM + "dreamer 1 5;", "call 0;");
        book(y, "seen 5;");
        y.image();
        will(y, 0, "call 0;call 0;");
        book(y, "gone 5;gone 6;");
        y.restore();
        due("the later will stays", y.night(0, 3), 2);
        due("the later book stays", y.told(7), 2);
    }

    private static void restore() {
        says("All is as in the latest IMAGE, which is gone: how many are left; -1: there is none.");
        StreetDreams x = on(ROOM);
        String told = state(x);
        due("there is none", x.restore(), -1);
        due("nothing is done", state(x), told);
        for (int i = 1; i <= 3; i++) {
            x.sleep(0, i, 9);
            x.make(i, 1);
            x.keep(i);
            x.image();
        }
        x.keep(0);
        for (int i = 3; i >= 1; i--) {
            due("left", x.restore(), i - 1);
            due("so many are counted", x.count(0), i - 1);
            due("kept", x.told(6), i);
            due("noises", x.told(2), i);
            due("F", x.sleeper(0, 0), i);
            due("changes", x.count(2), 2 * i);
        }
        String state = state(x);
        due("there is none any more", x.restore(), -1);
        due("nothing is done", state(x), state);
        due("no refusal", x.status(0) + x.status(1) + x.status(2) + x.status(3), 0);
        due("a fault leaves images", x.image() * 100 + street(x, "milk"), 91);
        due("there it is", x.restore(), 0);
        x.image();
        due("a street does not", street(x, ROOM), 2);
        due("there is none", x.restore(), -1);
    }

    private static void restoreOverChanges() {
        says("changes that can be undone");
        StreetDreams x = on(ROOM);
        change(x, 20);
        x.image();
        due("undone", x.undo(), 19);
        due("undone", x.undo(), 18);
        due("back", x.restore() * 100 + x.count(2), 20);
        due("twenty again", x.sleep(0, 0, 0), 0);
        for (int i = 19; i >= 0; i--) {
            due("left", x.undo(), i);
        }
        due("as told", x.sleeper(1, 0), 0);
        StreetDreams z = on(ROOM + "noise 1 1;noise 2 2;");
        z.sleep(0, 4, 8);
        z.hush(1);
        z.image();
        z.undo();
        z.undo();
        z.sleep(1, 5, 6);
        z.hush(0);
        due("back", z.restore(), 0);
        due("the hushed one of the image is back", z.undo() * 100 + z.noise(1, 0) * 10 + z.noise(1, 1), 122);
        due("F and T as ahead of the image's change", z.undo() * 100 + z.sleeper(0, 0) * 10 + z.sleeper(0, 1), 39);
        StreetDreams y = on(ROOM + "noise 1 1;");
        y.image();
        y.hush(0);
        y.make(5, 5);
        due("another change at the image's place", y.restore() * 10 + y.count(2), 0);
        due("nothing to undo", y.undo(), -1);
        due("as told", noises(y), "1 1;");
        y.make(2, 2);
        y.image();
        y.undo();
        y.hush(0);
        y.restore();
        due("the made one is undone, not the hushed one", y.undo() * 10 + y.told(2), 1);
        due("as told", noises(y), "1 1;");
    }

    // ---- promise 51

    private static void count() {
        says("0 IMAGES, 1 bytes of the TAPE, 2 changes that can be undone; NONE for others");
        StreetDreams x = on(ROOM);
        for (int what = 0; what < 3; what++) {
            due("count(" + what + ")", x.count(what), 0);
        }
        x.image();
        x.image();
        x.image();
        change(x, 20);
        for (int i = 0; i < 30; i++) {
            x.feed(i, i, i, i, i);
        }
        due("three", x.count(0), 3);
        due("600", x.count(1), 600);
        due("twenty", x.count(2), 20);
        int[] others = {3, -1, 4, Integer.MIN_VALUE, Integer.MAX_VALUE};
        for (int what : others) {
            due("count(" + what + ")", x.count(what), -1);
        }
        due("no refusals", x.status(0) + x.status(1) + x.status(2) + x.status(3), 0);
    }

    /** What was worked out ahead of a change is not answered behind it. */
    private static void asksAnew() {
        says("from now on");
        StreetDreams x = on("sleeper 0 20 0;sleeper 0 20 0;door 0 1 0;turns 2 0;dreamer 0 5;", "until open 0[wait 1;];to 1;");
        due("lost in 20", x.night(0, 0) * 10 + x.where(0, 15), 200);
        x.make(9, 2);
        due("he goes in 9", path(x, 0, 8, 10), "011");
        x.undo();
        due("he stays", path(x, 0, 8, 10), "000");
        x.sleep(0, 0, 7);
        due("lost in 7", x.night(0, 0), 7);
        x.keep(1);
        due("not lost", x.lost(), 0);
        x.keep(0);
        due("lost", x.lost(), 1);
        x.image();
        x.undo();
        due("in 20", x.night(0, 0), 20);
        x.restore();
        due("in 7", x.night(0, 0), 7);
        x.undo();
        x.make(9, 2);
        due("made", x.soonest(0, 5, 1) * 10 + x.where(0, 9), 91);
        x.hush(0);
        due("hushed", x.soonest(0, 5, 1) * 10 + x.where(0, 9), -10);
        will(x, 0, "call 2;to 1;");
        due("another will", path(x, 0, 5, 8), "0011");
        will(x, 0, "");
        due("no will", path(x, 0, 5, 8), "0000");
        will(x, 0, "call 2;to 1;");
        will(x, 0, "call 2;to 2;");
        due("a fault leaves the will", path(x, 0, 5, 8), "0011");
        street(x, "sleeper 0 20 0;dreamer 0 6;");
        due("another street", path(x, 0, 5, 8), ".000");
    }

    /** A night that is gone through once more counts nothing twice, and nobody goes on with what he did in the one ahead. */
    private static void nightsAnew() {
        says("from now on");
        String street = "sleeper 0 20 0;sleeper 0 20 0;door 0 1 1;turns 2 0;dreamer 0 5;dreamer 0 5;";
        String first = "to 1;to 1;to 0;call 4;call 4;until not met[];";
        String second = "wait 20;call 4;";
        StreetDreams x = on(street, first, second);
        String all = nights(x);
        due("the first, the other", all, "20 2 1 2 13 1 ; 20 0 0 0 13 0 ; ");
        x.make(300, 5);
        due("the same once more", nights(x), all);
        x.undo();
        due("and once more", nights(x), all);
        x.keep(3);
        StreetDreams kept = on(street, first, second);
        kept.keep(3);
        due("who was lost as he waited begins anew", nights(x), nights(kept));
        due("he calls in 26", x.night(1, 3), 1);
        will(x, 0, "until after 9[wait 1;];to 1;");
        due("who had too many turns has them no more", x.night(0, 5) * 100 + x.night(0, 1) * 10 + x.where(0, 10), 11);
    }

    private static String nights(StreetDreams x) {
        StringBuilder b = new StringBuilder();
        for (int d = 0; d < x.told(4); d++) {
            for (int what = 0; what <= 5; what++) {
                b.append(x.night(d, what)).append(' ');
            }
            b.append("; ");
        }
        return b.toString();
    }
}

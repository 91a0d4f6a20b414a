import java.lang.reflect.Method;
import java.lang.reflect.Modifier;
import java.nio.file.Files;
import java.nio.file.Path;
import java.util.Arrays;
import java.util.Set;
import java.util.TreeSet;
import java.util.regex.Matcher;
import java.util.regex.Pattern;

/** The public face, and of each of its calls the least and the greatest that is taken, what is refused, and in which order. */
final class RefusalEdges extends Checks {
    /** Six rooms, ten doors, four dreamers; and of each but the rooms as many as can be. */
    private static final String FULL = times(6, "sleeper 0 300 3;") + times(10, "door 0 1 1;") + "turns 0 0;"
        + "noise 7 0;" + times(4, "dreamer 0 5;") + "twin 4 5;milk 200;";
    private static final String EIGHT = times(8, "sleeper 0 300 3;") + "door 0 7 1;dreamer 7 5;";
    private static final String ONE = "sleeper 0 300 3;dreamer 0 5;";

    /** A call of the face of which all is fixed but one argument. */
    private interface Call {
        long of(StreetDreams x, int argument);
    }

    static void all() throws Exception {
        face();
        whats();
        owners();
        minutes();
        rooms();
        sleepersAsBits();
        doorsAsBits();
        otherNumbers();
        aheadOfOthers();
        roomsAheadOfOthers();
        notRefused();
        counted();
        manyCalls();
    }

    // ---- means

    /** This street, and a will of the first dreamer if there is one. */
    private static StreetDreams begun(String street) {
        return street.contains("dreamer") ? on(street, "call 0;") : on(street);
    }

    /** A call takes what lies from the least to the greatest; all others are refused, and leave all as it was. */
    private static void takes(String street, String call, int least, int greatest, Class<?> refusal, Call made) {
        StreetDreams x = begun(street);
        int[] taken = {least, greatest};
        for (int v : taken) {
            String got = "an answer";
            try {
                made.of(x, v);
            } catch (RuntimeException e) {
                got = e.getClass().getSimpleName();
            }
            due(call + " of " + v, got, "an answer");
        }
        StreetDreams y = begun(street);
        feed(y, "milk 5;");
        String state = state(y);
        int fault = y.fault();
        int place = refusal == INDEX ? 0 : refusal == ELEMENT ? 1 : 2;
        int[] others = {least - 1, greatest + 1, Integer.MIN_VALUE, Integer.MAX_VALUE};
        for (int i = 0; i < others.length; i++) {
            int v = others[i];
            refuses(call + " of " + v, refusal, () -> made.of(y, v));
            due("refused " + call, y.status(place), i + 1);
        }
        due("counted once each, " + call, y.status(0) + y.status(1) + y.status(2) + y.status(3), others.length);
        due("stays behind " + call, state(y), state);
        due("the tape behind " + call, y.count(1), 20);
        due("the fault behind " + call, y.fault(), fault);
    }

    private static void takesWhat(String call, int greatest, Call made) {
        takes(FULL, call, 0, greatest, ARGUMENT, made);
    }

    // ---- the face

    private static String signature(String kind, String name, String arguments, String thrown) {
        return kind + " " + name + "(" + arguments + ")" + thrown;
    }

    /** The signatures that the document's section of Java tells. */
    private static Set<String> toldFace() throws Exception {
        String section = Files.readString(Path.of("../shared/DOC.md")).split("```java")[1].split("```")[0];
        Matcher m = Pattern.compile("public (\\w+) (\\w+)\\(([^)]*)\\)( throws [\\w, ]+)?;").matcher(section);
        Set<String> told = new TreeSet<>();
        while (m.find()) {
            String arguments = m.group(3).replaceAll("(\\w+) \\w+", "$1").replace(" ", "");
            Set<String> thrown = new TreeSet<>();
            if (m.group(4) != null) {
                thrown.addAll(Arrays.asList(m.group(4).replace(" throws ", "").split(", ")));
            }
            told.add(signature(m.group(1), m.group(2), arguments, thrown.toString()));
        }
        return told;
    }

    private static void face() throws Exception {
        says("public static final int NONE = -1;");
        Set<String> made = new TreeSet<>();
        for (Method m : StreetDreams.class.getDeclaredMethods()) {
            if (Modifier.isPublic(m.getModifiers()) && !Modifier.isStatic(m.getModifiers())) {
                StringBuilder arguments = new StringBuilder();
                for (Class<?> c : m.getParameterTypes()) {
                    arguments.append(arguments.length() == 0 ? "" : ",").append(c.getSimpleName());
                }
                Set<String> thrown = new TreeSet<>();
                for (Class<?> c : m.getExceptionTypes()) {
                    thrown.add(c.getSimpleName());
                }
                made.add(signature(m.getReturnType().getSimpleName(), m.getName(), arguments.toString(), thrown.toString()));
            } else if (!Modifier.isPrivate(m.getModifiers())) {
                bad("a method that the face does not have: " + m);
            }
        }
        Set<String> told = toldFace();
        due("methods told", told.size(), 50);
        due("the face", made.toString(), told.toString());
        due("public fields", StreetDreams.class.getFields().length, 1);
        due("NONE", StreetDreams.NONE, -1);
        due("constructors", StreetDreams.class.getConstructors().length, 1);
        due("of no arguments", StreetDreams.class.getConstructors()[0].getParameterCount(), 0);
        due("final", Modifier.isFinal(StreetDreams.class.getModifiers()), true);
    }

    // ---- one argument

    private static void whats() {
        says("IllegalArgumentException: another what (so below)");
        takesWhat("told", 7, (x, v) -> x.told(v));
        takesWhat("sleeper", 3, (x, v) -> x.sleeper(0, v));
        takesWhat("door", 3, (x, v) -> x.door(0, v));
        takesWhat("noise", 1, (x, v) -> x.noise(0, v));
        takesWhat("night", 5, (x, v) -> x.night(0, v));
        takesWhat("order", 1, (x, v) -> x.order(0, 0, v));
        takesWhat("want", 1, (x, v) -> x.want(1, v));
        takesWhat("surest", 3, (x, v) -> x.surest(0, 1, v));
        takesWhat("drawn", 2, (x, v) -> x.drawn(1, v));
        takesWhat("span", 2, (x, v) -> x.span(1, 1, v));
        takesWhat("round", 1, (x, v) -> x.round(v));
        takesWhat("lasting", 1, (x, v) -> x.lasting(0, v));
        takesWhat("crowd", 1, (x, v) -> x.crowd(v));
    }

    private static void owners() {
        says("NoSuchElementException: no such SLEEPER, DOOR, DREAMER (so below)");
        takes(EIGHT, "sleeper", 0, 7, ELEMENT, (x, v) -> x.sleeper(v, 0));
        takes(FULL, "sleeper of six", 0, 5, ELEMENT, (x, v) -> x.sleeper(v, 3));
        takes(ONE, "sleeper of one", 0, 0, ELEMENT, (x, v) -> x.sleeper(v, 1));
        takes(FULL, "door", 0, 9, ELEMENT, (x, v) -> x.door(v, 0));
        takes(EIGHT, "door of one", 0, 0, ELEMENT, (x, v) -> x.door(v, 3));
        takes(EIGHT, "sleeps", 0, 7, ELEMENT, (x, v) -> x.sleeps(v, 0) ? 1 : 0);
        takes(FULL, "open", 0, 9, ELEMENT, (x, v) -> x.open(v, 0) ? 1 : 0);
        takes(FULL, "where", 0, 3, ELEMENT, (x, v) -> x.where(v, 0));
        takes(FULL, "night", 0, 3, ELEMENT, (x, v) -> x.night(v, 0));
        takes(ONE, "where of one", 0, 0, ELEMENT, (x, v) -> x.where(v, 300));
        takes(ONE, "night of one", 0, 0, ELEMENT, (x, v) -> x.night(v, 5));
        takes(FULL, "often", 0, 9, ELEMENT, (x, v) -> x.often(v));
        takes(EIGHT, "sleep", 0, 7, ELEMENT, (x, v) -> x.sleep(v, 0, 1));
        takes(ONE, "sleep of one", 0, 0, ELEMENT, (x, v) -> x.sleep(v, 0, 1));
        takes(FULL, "will", 0, 3, ELEMENT, (x, v) -> x.will(v, 0));
        StreetDreams none = new StreetDreams();
        refuses("sleeper 0 of none", ELEMENT, () -> none.sleeper(0, 0));
        refuses("door 0 of none", ELEMENT, () -> none.door(0, 0));
        refuses("sleeps 0 of none", ELEMENT, () -> none.sleeps(0, 0) ? 1 : 0);
        refuses("open 0 of none", ELEMENT, () -> none.open(0, 0) ? 1 : 0);
        refuses("where 0 of none", ELEMENT, () -> none.where(0, 0));
        refuses("night 0 of none", ELEMENT, () -> none.night(0, 0));
        refuses("often 0 of none", ELEMENT, () -> none.often(0));
        refuses("sleep 0 of none", ELEMENT, () -> none.sleep(0, 0, 0));
        refuses("will 0 of none", ELEMENT, () -> none.will(0, 0));
        due("counted", none.status(1) * 10 + none.status(0) + none.status(2) + none.status(3), 90);
    }

    private static void takesMinute(String call, Call made) {
        takes(FULL, call, 0, 300, ARGUMENT, made);
    }

    private static void minutes() {
        says("MINUTES 0 to 300.");
        says("Whether a SLEEPER sleeps in a MINUTE. IllegalArgumentException: no such MINUTE (0 to 300; so below).");
        takesMinute("sleeps", (x, v) -> x.sleeps(0, v) ? 1 : 0);
        takesMinute("there", (x, v) -> x.there(0, v) ? 1 : 0);
        takesMinute("open", (x, v) -> x.open(0, v) ? 1 : 0);
        takesMinute("where", (x, v) -> x.where(0, v));
        takesMinute("cut", (x, v) -> x.cut(0, v));
        takesMinute("soonest", (x, v) -> x.soonest(0, v, 1));
        takesMinute("way", (x, v) -> x.way(0, v, 1, 7));
        takesMinute("way's t", (x, v) -> x.way(0, 7, 1, v));
        takesMinute("latest", (x, v) -> x.latest(0, 1, v));
        takesMinute("fewest", (x, v) -> x.fewest(0, v, 1));
        takesMinute("meet", (x, v) -> x.meet(0, 1, v));
        takesMinute("met", (x, v) -> x.met(0, 1, v));
        takesMinute("asleep", (x, v) -> x.asleep(v));
        takesMinute("rooms", (x, v) -> x.rooms(v));
        takes(FULL, "reach's first", 0, 300, ARGUMENT, (x, v) -> x.reach(0, v, 300));
        takes(FULL, "reach's second", 0, 300, ARGUMENT, (x, v) -> x.reach(0, 0, v));
        takesMinute("stranded", (x, v) -> x.stranded(v));
        takesMinute("make", (x, v) -> x.make(v, 0));
        takes(FULL, "sleep's F", 0, 300, ARGUMENT, (x, v) -> x.sleep(0, v, 300));
        takes(FULL, "sleep's T", 0, 300, ARGUMENT, (x, v) -> x.sleep(0, 0, v));
        takes(FULL, "sleep's T no less than F", 150, 300, ARGUMENT, (x, v) -> x.sleep(0, 150, v));
        takes(FULL, "sleep's F no more than T", 0, 150, ARGUMENT, (x, v) -> x.sleep(0, v, 150));
    }

    private static void rooms() {
        says("IndexOutOfBoundsException: no such ROOM (so below, ahead of others)");
        Call[] calls = {(x, v) -> x.there(v, 5) ? 1 : 0, (x, v) -> x.cut(v, 5), (x, v) -> x.soonest(v, 5, 0),
            (x, v) -> x.soonest(0, 5, v), (x, v) -> x.way(v, 5, 0, 6), (x, v) -> x.way(0, 5, v, 6),
            (x, v) -> x.latest(v, 0, 5), (x, v) -> x.latest(0, v, 5), (x, v) -> x.fewest(v, 5, 0),
            (x, v) -> x.fewest(0, 5, v), (x, v) -> x.meet(v, 0, 5), (x, v) -> x.meet(0, v, 5), (x, v) -> x.met(v, 0, 5),
            (x, v) -> x.met(0, v, 5), (x, v) -> x.surest(v, 0, 0), (x, v) -> x.surest(0, v, 0),
            (x, v) -> x.lasting(v, 0), (x, v) -> x.reach(v, 5, 6), (x, v) -> x.far(v, 0), (x, v) -> x.far(0, v),
            (x, v) -> x.lonely(v)};
        StreetDreams none = new StreetDreams();
        for (int i = 0; i < calls.length; i++) {
            Call call = calls[i];
            takes(EIGHT, "room call " + i + " of eight", 0, 7, INDEX, call);
            takes(FULL, "room call " + i + " of six", 0, 5, INDEX, call);
            takes(ONE, "room call " + i + " of one", 0, 0, INDEX, call);
            refuses("room call " + i + " of none", INDEX, () -> call.of(none, 0));
        }
        due("counted", none.status(0), calls.length);
    }

    private static void sleepersAsBits() {
        says("KEPT are SLEEPERS (bits) from now on: what it was. IllegalArgumentException: bits of no SLEEPERS (so below).");
        takes(EIGHT, "keep", 0, 255, ARGUMENT, (x, v) -> x.keep(v));
        takes(FULL, "keep of six", 0, 63, ARGUMENT, (x, v) -> x.keep(v));
        takes(ONE, "keep of one", 0, 1, ARGUMENT, (x, v) -> x.keep(v));
        takes("noise 7 0;", "keep of none", 0, 0, ARGUMENT, (x, v) -> x.keep(v));
        StreetDreams x = on(FULL);
        due("the first", x.keep(63), 0);
        refuses("one bit too many beside all others", ARGUMENT, () -> x.keep(127));
        refuses("one bit too many alone", ARGUMENT, () -> x.keep(64));
        refuses("the bit of the sign", ARGUMENT, () -> x.keep(Integer.MIN_VALUE | 1));
        due("those ahead stay", x.told(6), 63);
        due("and are what it was", x.keep(0), 63);
        due("nobody", x.keep(0), 0);
    }

    private static void doorsAsBits() {
        says("IllegalArgumentException: bits of no DOORS, one in both, what.");
        takes(FULL, "order's open", 0, 1023, ARGUMENT, (x, v) -> x.order(v, 0, 0));
        takes(FULL, "order's shut", 0, 1023, ARGUMENT, (x, v) -> x.order(0, v, 0));
        takes(EIGHT, "order's open of one", 0, 1, ARGUMENT, (x, v) -> x.order(v, 0, 1));
        takes(EIGHT, "order's shut of one", 0, 1, ARGUMENT, (x, v) -> x.order(0, v, 1));
        takes(ONE, "order's open of none", 0, 0, ARGUMENT, (x, v) -> x.order(v, 0, 0));
        takes(ONE, "order's shut of none", 0, 0, ARGUMENT, (x, v) -> x.order(0, v, 0));
        StreetDreams x = on(FULL);
        for (int d = 0; d < 10; d++) {
            int door = 1 << d;
            refuses("door " + d + " in both", ARGUMENT, () -> x.order(door, door, 0));
            refuses("door " + d + " in both, beside others", ARGUMENT, () -> x.order(1023, door, 1));
        }
        due("none in both", x.order(682, 341, 0), -1);
        due("counted", x.status(2), 20);
    }

    private static void otherNumbers() {
        says("WANT (n 0 to 8)");
        takes(FULL, "want", 0, 8, ARGUMENT, (x, v) -> x.want(v, 0));
        says("Of so many SEEDS (1 to 20;");
        takes(FULL, "span", 1, 20, ARGUMENT, (x, v) -> x.span(0, v, 0));
        says("IllegalArgumentException: MINUTE, SORT.");
        takes(FULL, "make", 0, 5, ARGUMENT, (x, v) -> x.make(7, v));
        says("IllegalArgumentException: MINUTES, the second one less.");
        takes(FULL, "reach from 150", 150, 300, ARGUMENT, (x, v) -> x.reach(0, 150, v));
        takes(FULL, "reach to 150", 0, 150, ARGUMENT, (x, v) -> x.reach(0, v, 150));
    }

    // ---- which refusal comes first

    private static void aheadOfOthers() {
        says("NoSuchElementException: no such DREAMER (so below, ahead of others; the TAPE stays)");
        StreetDreams x = feed(on(FULL), "milk 5;");
        refuses("will", ELEMENT, () -> x.will(4, 21));
        refuses("will", ELEMENT, () -> x.will(-1, -1));
        refuses("sleeper", ELEMENT, () -> x.sleeper(6, 4));
        refuses("door", ELEMENT, () -> x.door(10, 4));
        refuses("sleeps", ELEMENT, () -> x.sleeps(6, 301) ? 1 : 0);
        refuses("open", ELEMENT, () -> x.open(10, -1) ? 1 : 0);
        refuses("where", ELEMENT, () -> x.where(4, 301));
        refuses("night", ELEMENT, () -> x.night(4, 6));
        refuses("sleep", ELEMENT, () -> x.sleep(6, 9, 8));
        refuses("sleep", ELEMENT, () -> x.sleep(-1, 0, 301));
        due("counted", x.status(1) * 10 + x.status(2), 100);
        due("the tape stays", x.count(1), 20);
    }

    private static void roomsAheadOfOthers() {
        says("no such ROOM (so below, ahead of others)");
        StreetDreams x = on(FULL);
        refuses("there", INDEX, () -> x.there(6, 301) ? 1 : 0);
        refuses("cut", INDEX, () -> x.cut(-1, -1));
        refuses("soonest's a", INDEX, () -> x.soonest(6, 301, 0));
        refuses("soonest's b", INDEX, () -> x.soonest(0, 301, 6));
        refuses("way's a", INDEX, () -> x.way(6, 301, 0, 0));
        refuses("way's b", INDEX, () -> x.way(0, 0, 6, 301));
        refuses("latest's a", INDEX, () -> x.latest(6, 0, 301));
        refuses("latest's b", INDEX, () -> x.latest(0, 6, -1));
        refuses("fewest's a", INDEX, () -> x.fewest(6, 301, 0));
        refuses("fewest's b", INDEX, () -> x.fewest(0, -1, -1));
        refuses("meet's a", INDEX, () -> x.meet(6, 0, 301));
        refuses("meet's b", INDEX, () -> x.meet(0, 6, 301));
        refuses("met's a", INDEX, () -> x.met(6, 0, 301));
        refuses("met's b", INDEX, () -> x.met(0, 6, 301));
        refuses("surest's a", INDEX, () -> x.surest(6, 0, 4));
        refuses("surest's b", INDEX, () -> x.surest(0, 6, -1));
        refuses("lasting", INDEX, () -> x.lasting(6, 2));
        refuses("reach", INDEX, () -> x.reach(6, 5, 4));
        refuses("reach", INDEX, () -> x.reach(-1, -1, 301));
        due("counted", x.status(0) * 10 + x.status(2), 190);
    }

    /** Calls of the face that have no refusal answer something for all arguments. */
    private static void notRefused() {
        says("`int hush(int i)`: The i-th NOISE is left out");
        StreetDreams x = on(FULL);
        int[] all = {Integer.MIN_VALUE, -2, -1, 4, 12, 20, 301, Integer.MAX_VALUE};
        for (int v : all) {
            due("hush(" + v + ")", x.hush(v), -1);
            due("noise(" + v + ", 0)", x.noise(v, 0), -1);
            due("status(" + v + ")", x.status(v), -1);
            due("count(" + v + ")", x.count(v), v == 1 ? 0 : -1);
            due("a seed of " + v, x.drawn(v, 2) >= 0, true);
            due("seeds of " + v, x.span(v, 20, 2) >= 0, true);
            x.feed(v, v, v, v, v);
        }
        due("no refusals", x.status(0) + x.status(1) + x.status(2) + x.status(3), 0);
    }

    private static void counted() {
        says("How many calls were refused: 0 IndexOutOfBoundsException, 1 NoSuchElementException, "
            + "2 IllegalArgumentException, 3 IllegalStateException; NONE for others. (No IMAGE keeps it.)");
        StreetDreams x = on(EIGHT);
        refuses("room", INDEX, () -> x.far(8, 8));
        x.image();
        refuses("room", INDEX, () -> x.lonely(8));
        refuses("element", ELEMENT, () -> x.often(1));
        for (int i = 0; i < 3; i++) {
            refuses("argument", ARGUMENT, () -> x.asleep(301));
        }
        for (int i = 0; i < 4; i++) {
            refuses("state", STATE, () -> x.round(0));
        }
        int[] many = {2, 1, 3, 4};
        for (int what = 0; what < 4; what++) {
            due("status(" + what + ")", x.status(what), many[what]);
        }
        due("an image", x.restore(), 0);
        for (int what = 0; what < 4; what++) {
            due("no image keeps status(" + what + ")", x.status(what), many[what]);
        }
        due("a new street", street(x, ONE), 1);
        due("another fault", street(x, "milk"), -9);
        x.undo();
        for (int what = 0; what < 4; what++) {
            due("nor a street, nor undo: status(" + what + ")", x.status(what), many[what]);
        }
        due("less than 0", x.status(-1), -1);
        due("more than 3", x.status(4), -1);
        due("least", x.status(Integer.MIN_VALUE), -1);
        due("greatest", x.status(Integer.MAX_VALUE), -1);
        due("asked, it counts nothing", x.status(2), 3);
    }

    private static void manyCalls() {
        says("An object is used for at most 512 calls after it has been made");
        StreetDreams x = new StreetDreams();
        for (int i = 1; i <= 508; i++) {
            x.asleep(i % 301);
        }
        refuses("the 509th", ARGUMENT, () -> x.asleep(301));
        due("the 510th", feedOnce(x), 20);
        due("the 511th", x.street(16), 1);
        due("the 512th", x.asleep(299), 1);
    }

    /** "sleeper 0 300 0;" and four blanks. */
    private static int feedOnce(StreetDreams x) {
        return x.feed(0x736c6565, 0x70657220, 0x30203330, 0x3020303b, 0x20202020);
    }
}

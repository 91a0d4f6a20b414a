import java.lang.reflect.InvocationTargetException;
import java.lang.reflect.Method;
import java.util.ArrayList;
import java.util.Arrays;
import java.util.List;
import java.util.Map;
import java.util.Random;
import java.util.TreeMap;

/** Holds StreetDreams against Model over runs of calls drawn by a fixed seed. Arguments: first seed, how many. */
public final class ModelTest {
    private static final Map<String, Method> REAL = new TreeMap<>();
    private static final Map<String, Method> PLAIN = new TreeMap<>();
    private static final List<String> NAMES = new ArrayList<>();
    private static final Map<String, Integer> ANSWERED = new TreeMap<>();
    private static final Map<String, Integer> FAULTS = new TreeMap<>();
    private static int wrong;

    private final Random random;
    private final StreetDreams real = new StreetDreams();
    private final Model plain = new Model();
    private final List<String> log = new ArrayList<>();
    private int calls;
    private boolean broken;

    private ModelTest(long seed) {
        random = new Random(seed);
    }

    public static void main(String[] args) throws Exception {
        if (args.length == 0) {
            Checks.watch();
        }
        long first = args.length > 0 ? Long.parseLong(args[0]) : 1;
        long many = args.length > 1 ? Long.parseLong(args[1]) : 150;
        for (Method m : StreetDreams.class.getDeclaredMethods()) {
            if (java.lang.reflect.Modifier.isPublic(m.getModifiers())) {
                REAL.put(m.getName(), m);
                Method p = Model.class.getDeclaredMethod(m.getName(), m.getParameterTypes());
                p.setAccessible(true);
                PLAIN.put(m.getName(), p);
            }
        }
        NAMES.addAll(REAL.keySet());
        if (NAMES.size() != 50) {
            wrong++;
            System.out.println("the face has " + NAMES.size() + " methods, due are 50");
        }
        for (long seed = first; seed < first + many && wrong < 5; seed++) {
            new ModelTest(seed).run(seed);
        }
        if (args.length > 2) {
            System.out.println("answers: " + ANSWERED);
            System.out.println("faults: " + FAULTS);
        }
        System.out.println(wrong == 0 ? "the class answers as the model" : wrong + " runs went apart");
        System.exit(wrong == 0 ? 0 : 1);
    }

    private void run(long seed) throws Exception {
        int episodes = 1 + random.nextInt(4);
        for (int i = 0; i < episodes && !broken; i++) {
            tell("street", -1, pick(12) ? spoil(streetText(true)) : pick(6) ? spoil(streetText(false)) : streetText(false));
            int queries = 20 + random.nextInt(100);
            for (int q = 0; q < queries && calls < 480 && !broken; q++) {
                query();
            }
        }
        if (broken) {
            wrong++;
            System.out.println("seed " + seed + ":");
            for (String line : log) {
                System.out.println("  " + line);
            }
        }
    }

    private boolean pick(int of) {
        return random.nextInt(of) == 0;
    }

    // ---- calls of both

    private void call(String name, int... args) throws Exception {
        if (broken) {
            return;
        }
        Object[] boxed = new Object[args.length];
        for (int i = 0; i < args.length; i++) {
            boxed[i] = args[i];
        }
        String due = answer(PLAIN.get(name), plain, boxed);
        String got = answer(REAL.get(name), real, boxed);
        calls++;
        log.add(name + Arrays.toString(args) + " = " + got);
        String kind = due.startsWith("throws") ? " throws" : due.equals("-1") ? " NONE" : "";
        ANSWERED.merge(name + kind, 1, Integer::sum);
        if (!got.equals(due)) {
            log.add("   due is " + due);
            broken = true;
        }
    }

    private static String answer(Method m, Object of, Object[] args) throws Exception {
        try {
            return String.valueOf(m.invoke(of, args));
        } catch (InvocationTargetException e) {
            if (e.getCause() instanceof ArrayIndexOutOfBoundsException || e.getCause() instanceof Error) {
                throw e;
            }
            return "throws." + e.getCause().getClass().getSimpleName();
        }
    }

    private void tell(String name, int dreamer, String text) throws Exception {
        int n = text.length();
        for (int i = 0; i < n; i += 20) {
            int[] numbers = new int[5];
            for (int k = 0; k < 20; k++) {
                int c = i + k < n ? text.charAt(i + k) : random.nextInt(256);
                numbers[k / 4] = numbers[k / 4] << 8 | c;
            }
            call("feed", numbers);
        }
        int length = pick(40) ? random.nextInt(700) - 20 : n;
        log.add("   \"" + text + "\"");
        if (name.equals("will")) {
            call(name, dreamer, length);
        } else {
            call(name, length);
        }
        String told = log.get(log.size() - 1).replaceAll(".* = ", "").replaceAll("^[0-9]+$", "fine");
        call("fault");
        FAULTS.merge(name + " " + told, 1, Integer::sum);
    }

    // ---- texts

    private String gap() {
        return pick(12) ? "  " : "";
    }

    private String num(int n) {
        return pick(25) ? " 000" + n : " " + n;
    }

    private int minute() {
        return pick(8) ? random.nextInt(301) : pick(10) ? 300 : random.nextInt(60);
    }

    private String streetText(boolean crowded) {
        StringBuilder b = new StringBuilder();
        boolean lively = pick(2);
        int sleepers = crowded ? 8 : pick(15) ? 0 : 1 + random.nextInt(8);
        int doors = sleepers < 2 ? 0 : crowded ? 10 : random.nextInt(11);
        for (int i = 0; i < sleepers; i++) {
            int f = pick(5) ? minute() : random.nextInt(8);
            int t = Math.max(f, lively ? 150 + random.nextInt(151) : pick(4) ? 300 : minute());
            b.append(gap()).append("sleeper").append(num(f)).append(num(t)).append(num(random.nextInt(16))).append(gap()).append(';');
        }
        for (int i = 0; i < doors; i++) {
            int a = random.nextInt(sleepers);
            int c = (a + 1 + random.nextInt(sleepers - 1)) % sleepers;
            b.append("door").append(num(a)).append(num(c)).append(num(random.nextInt(2))).append(';');
        }
        int turns = doors == 0 ? 0 : random.nextInt(12);
        for (int i = 0; i < turns; i++) {
            b.append("turns").append(num(random.nextInt(6))).append(num(random.nextInt(doors))).append(';');
        }
        int noises = crowded ? 12 : random.nextInt(9);
        for (int i = 0; i < noises; i++) {
            b.append("noise").append(num(minute())).append(num(random.nextInt(6))).append(';');
        }
        List<Integer> rooms = new ArrayList<>();
        for (int i = 0; i < sleepers; i++) {
            rooms.add(i);
        }
        java.util.Collections.shuffle(rooms, random);
        int twins = random.nextInt(Math.min(3, sleepers / 2) + 1);
        for (int i = 0; i < twins; i++) {
            b.append("twin").append(num(rooms.get(2 * i))).append(num(rooms.get(2 * i + 1))).append(gap()).append(';');
        }
        int dreamers = sleepers == 0 ? 0 : crowded ? 4 : random.nextInt(5);
        for (int i = 0; i < dreamers; i++) {
            b.append("dreamer").append(num(random.nextInt(sleepers))).append(num(random.nextInt(pick(4) ? 301 : 20))).append(';');
        }
        if (!lively && !pick(3) || pick(5)) {
            b.append("milk").append(num(minute())).append(';');
        }
        if (pick(30)) {
            while (b.length() < 560) {
                b.append("milk5;");
            }
        }
        b.append(gap());
        return b.length() > 600 ? b.substring(0, 600) : b.toString();
    }

    private int room() {
        return plain.told(0) == 0 ? 0 : random.nextInt(plain.told(0));
    }

    private int oneDoor() {
        return plain.told(1) == 0 ? 0 : random.nextInt(plain.told(1));
    }

    private String ask() {
        StringBuilder b = new StringBuilder();
        int nots = pick(4) ? 1 + random.nextInt(3) : 0;
        for (int i = 0; i < nots; i++) {
            b.append(" not");
        }
        switch (random.nextInt(5)) {
            case 0 -> b.append(" in").append(num(room()));
            case 1 -> {
                if (plain.told(1) > 0) {
                    b.append(" open").append(num(oneDoor()));
                } else {
                    b.append(" met");
                }
            }
            case 2 -> b.append(" there").append(num(room()));
            case 3 -> b.append(" met");
            default -> b.append(" after").append(num(minute()));
        }
        return b.toString();
    }

    private String steps(int depth, int most) {
        StringBuilder b = new StringBuilder();
        int many = random.nextInt(most + 1);
        for (int i = 0; i < many; i++) {
            int kind = random.nextInt(depth > 3 ? 3 : 7);
            switch (kind) {
                case 0, 6 -> b.append("to").append(num(room()));
                case 1 -> b.append("wait").append(num(pick(6) ? 1 + random.nextInt(99) : 1 + random.nextInt(4)));
                case 2 -> b.append("call").append(num(random.nextInt(6)));
                case 3 -> b.append("again").append(num(random.nextInt(pick(3) ? 21 : 6))).append(block(depth));
                case 4 -> b.append("until").append(ask()).append(block(depth));
                default -> {
                    b.append("if").append(ask()).append(block(depth));
                    if (pick(2)) {
                        b.append(gap()).append("else").append(block(depth));
                    }
                }
            }
            b.append(gap()).append(';');
        }
        return b.toString();
    }

    private String block(int depth) {
        return gap() + "[" + steps(depth + 1, 3) + gap() + "]";
    }

    private String willText() {
        if (pick(25)) {
            StringBuilder b = new StringBuilder();
            int deep = 5 + random.nextInt(4);
            for (int i = 0; i < deep; i++) {
                b.append(pick(2) ? "again 2[" : "if met[");
            }
            b.append("wait 1;");
            for (int i = 0; i < deep; i++) {
                b.append("];");
            }
            return b.toString();
        }
        if (pick(25)) {
            int nots = 4 + random.nextInt(5);
            return "if" + " not".repeat(nots) + " met [call 1;];";
        }
        for (int i = 0; i < 20; i++) {
            String s = steps(0, 5);
            if (s.length() <= 150) {
                return s;
            }
        }
        return "wait 3;";
    }

    private String bookText() {
        StringBuilder b = new StringBuilder();
        int many = pick(8) ? 13 : pick(8) ? 12 : random.nextInt(4);
        for (int i = 0; i < many; i++) {
            b.append(pick(2) ? "seen " : "gone ").append(minute()).append(gap()).append(';');
        }
        return b.length() > 150 ? b.substring(0, 150) : b.toString();
    }

    private String spoil(String text) {
        StringBuilder b = new StringBuilder(text);
        int many = 1 + random.nextInt(2);
        for (int i = 0; i < many && b.length() > 0; i++) {
            int at = random.nextInt(b.length());
            switch (random.nextInt(6)) {
                case 0 -> b.deleteCharAt(at);
                case 1 -> b.setCharAt(at, (char) random.nextInt(256));
                case 2 -> b.insert(at, random.nextInt(400));
                case 3 -> b.insert(at, " ");
                case 4 -> b.setLength(at);
                default -> b.insert(at, (char) ('0' + random.nextInt(10)));
            }
        }
        return b.toString();
    }

    // ---- queries

    private void query() throws Exception {
        int dreamers = plain.told(4);
        if (pick(12) && dreamers > 0) {
            tell("will", random.nextInt(dreamers), pick(6) ? spoil(willText()) : willText());
            return;
        }
        if (pick(40)) {
            tell("book", -1, pick(6) ? spoil(bookText()) : bookText());
            return;
        }
        if (pick(25)) {
            int n = plain.told(0);
            call("keep", pick(5) ? random.nextInt(300) - 5 : random.nextInt(1 << n) & random.nextInt(1 << n));
            return;
        }
        if (pick(150)) {
            for (int i = 0; i < 22; i++) {
                String change = new String[] {"make", "hush", "sleep", "hush"}[random.nextInt(4)];
                call(change, arguments(change));
            }
            return;
        }
        String name = NAMES.get(random.nextInt(NAMES.size()));
        switch (name) {
            case "street", "will", "book", "feed" -> {
                if (pick(20)) {
                    int[] args = new int[REAL.get(name).getParameterCount()];
                    for (int i = 0; i < args.length; i++) {
                        args[i] = random.nextInt(160) - 5;
                    }
                    call(name, args);
                }
            }
            default -> call(name, arguments(name));
        }
    }

    private int what(int most) {
        return pick(15) ? random.nextInt(12) - 3 : random.nextInt(most + 1);
    }

    private int anyRoom() {
        return pick(30) ? random.nextInt(12) - 2 : room();
    }

    private int anyMinute() {
        return pick(30) ? 299 + random.nextInt(4) : pick(30) ? -1 : minute();
    }

    private int anyOf(int many) {
        return pick(30) || many == 0 ? random.nextInt(12) - 2 : random.nextInt(many);
    }

    private int[] arguments(String name) {
        int sleepers = plain.told(0);
        int doors = plain.told(1);
        int dreamers = plain.told(4);
        return switch (name) {
            case "told" -> new int[] {what(7)};
            case "sleeper" -> new int[] {anyOf(sleepers), what(3)};
            case "door" -> new int[] {anyOf(doors), what(3)};
            case "noise" -> new int[] {random.nextInt(14) - 1, what(1)};
            case "sleeps" -> new int[] {anyOf(sleepers), anyMinute()};
            case "there", "cut" -> new int[] {anyRoom(), anyMinute()};
            case "open" -> new int[] {anyOf(doors), anyMinute()};
            case "where" -> new int[] {anyOf(dreamers), anyMinute()};
            case "night" -> new int[] {anyOf(dreamers), what(5)};
            case "soonest", "fewest" -> new int[] {anyRoom(), anyMinute(), anyRoom()};
            case "way" -> new int[] {anyRoom(), anyMinute(), anyRoom(), anyMinute()};
            case "latest", "meet", "met" -> new int[] {anyRoom(), anyRoom(), anyMinute()};
            case "order" -> {
                int open = random.nextInt(1 << doors);
                int shut = random.nextInt(1 << doors) & ~open;
                yield new int[] {pick(20) ? random.nextInt() : open, pick(20) ? random.nextInt(2048) : shut, what(1)};
            }
            case "want" -> new int[] {pick(15) ? 9 : random.nextInt(9), what(1)};
            case "surest" -> new int[] {anyRoom(), anyRoom(), what(3)};
            case "drawn" -> new int[] {random.nextInt(), what(2)};
            case "span" -> new int[] {pick(9) ? Integer.MAX_VALUE - 3 : random.nextInt(), random.nextInt(22), what(2)};
            case "round", "crowd" -> new int[] {what(1)};
            case "asleep", "rooms", "stranded" -> new int[] {anyMinute()};
            case "lasting" -> new int[] {anyRoom(), what(1)};
            case "reach" -> {
                int m = anyMinute();
                yield new int[] {anyRoom(), m, pick(8) ? anyMinute() : Math.min(300, m + random.nextInt(40))};
            }
            case "far" -> new int[] {anyRoom(), anyRoom()};
            case "lonely" -> new int[] {anyRoom()};
            case "often" -> new int[] {anyOf(doors)};
            case "make" -> new int[] {anyMinute(), pick(15) ? 6 : random.nextInt(6)};
            case "hush" -> new int[] {random.nextInt(14) - 1};
            case "sleep" -> {
                int f = anyMinute();
                yield new int[] {anyOf(sleepers), f, pick(8) ? anyMinute() : Math.min(300, f + random.nextInt(100))};
            }
            case "keep" -> new int[] {random.nextInt(1 << sleepers)};
            case "status", "count" -> new int[] {random.nextInt(7) - 2};
            default -> new int[0];
        };
    }
}

import java.math.BigInteger;
import java.util.ArrayList;
import java.util.Arrays;
import java.util.Collections;
import java.util.HashSet;
import java.util.List;
import java.util.NoSuchElementException;
import java.util.Set;

/**
 * The document once more, written for plainness and in another way than the class: wills as trees,
 * minutes asked one by one, sets tried one by one. ModelTest holds the two against each other.
 */
final class Model {
    static final class Fault extends Exception {
        private static final long serialVersionUID = 1;
        final int kind;
        final int place;

        Fault(int kind, int place) {
            this.kind = kind;
            this.place = place;
        }
    }

    /** A piece of a text: a word, a number or a single sign; the last one is the end. */
    static final class Piece {
        String text;
        int place;
        char kind;
    }

    static final class Ask {
        String what;
        int number;
        boolean turned;
    }

    static final class Step {
        String what;
        int number;
        Ask ask;
        List<Step> block;
        List<Step> otherwise;
    }

    static final class Sleeper implements Cloneable {
        int f, t, w;

        Sleeper copy() {
            Sleeper s = new Sleeper();
            s.f = f;
            s.t = t;
            s.w = w;
            return s;
        }
    }

    /** What images and undoing bring back. */
    static final class Held {
        List<Sleeper> sleepers = new ArrayList<>();
        List<int[]> noises = new ArrayList<>();
        int kept;
        List<Held> before = new ArrayList<>();

        Held copy() {
            Held h = new Held();
            for (Sleeper s : sleepers) {
                h.sleepers.add(s.copy());
            }
            for (int[] n : noises) {
                h.noises.add(n.clone());
            }
            h.kept = kept;
            h.before = new ArrayList<>(before);
            return h;
        }
    }

    static final class World {
        Held held = new Held();
        List<int[]> doors = new ArrayList<>();
        List<Set<Integer>> turners = new ArrayList<>();
        List<int[]> twins = new ArrayList<>();
        List<int[]> dreamers = new ArrayList<>();
        int milk = -1;
    }

    final List<Byte> tape = new ArrayList<>();
    World world = new World();
    List<List<Step>> wills = new ArrayList<>();
    List<int[]> book = new ArrayList<>();
    List<Held> images = new ArrayList<>();
    int faultPlace = -1;
    final int[] refused = new int[4];

    // ---- refusals

    private RuntimeException index() {
        refused[0]++;
        return new IndexOutOfBoundsException();
    }

    private RuntimeException element() {
        refused[1]++;
        return new NoSuchElementException();
    }

    private RuntimeException argument() {
        refused[2]++;
        return new IllegalArgumentException();
    }

    private void room(int... rooms) {
        for (int r : rooms) {
            if (r < 0 || r >= world.held.sleepers.size()) {
                throw index();
            }
        }
    }

    private void one(int i, int many) {
        if (i < 0 || i >= many) {
            throw element();
        }
    }

    private void range(int value, int least, int most) {
        if (value < least || value > most) {
            throw argument();
        }
    }

    // ---- texts

    int feed(int a, int b, int c, int d, int e) {
        int[] numbers = {a, b, c, d, e};
        if (tape.size() + 20 > 600) {
            return -1;
        }
        for (int n : numbers) {
            for (int i = 3; i >= 0; i--) {
                tape.add((byte) (n >>> (8 * i)));
            }
        }
        return tape.size();
    }

    private static boolean small(int c) {
        return c >= 'a' && c <= 'z';
    }

    private static boolean digit(int c) {
        return c >= '0' && c <= '9';
    }

    private List<Piece> pieces(int n) {
        List<Piece> all = new ArrayList<>();
        int i = 0;
        while (i < n) {
            int c = tape.get(i) & 255;
            if (c == 32) {
                i++;
                continue;
            }
            Piece p = new Piece();
            p.place = i;
            StringBuilder b = new StringBuilder();
            if (small(c)) {
                p.kind = 'w';
                while (i < n && small(tape.get(i) & 255)) {
                    b.append((char) (byte) tape.get(i++));
                }
            } else if (digit(c)) {
                p.kind = 'n';
                while (i < n && digit(tape.get(i) & 255)) {
                    b.append((char) (byte) tape.get(i++));
                }
            } else {
                p.kind = 's';
                b.append((char) c);
                i++;
            }
            p.text = b.toString();
            all.add(p);
        }
        Piece end = new Piece();
        end.place = n;
        end.kind = 'e';
        end.text = "";
        all.add(end);
        return all;
    }

    private List<Piece> now;
    private int at;

    private Piece peek() {
        return now.get(at);
    }

    private boolean ended() {
        return peek().kind == 'e';
    }

    private Piece word(String... allowed) throws Fault {
        Piece p = peek();
        if (p.kind != 'w' || !Arrays.asList(allowed).contains(p.text)) {
            throw new Fault(1, p.place);
        }
        at++;
        return p;
    }

    private int lastPlace;

    private int number(int least, int most) throws Fault {
        Piece p = peek();
        if (p.kind != 'n') {
            throw new Fault(1, p.place);
        }
        BigInteger v = new BigInteger(p.text);
        if (v.compareTo(BigInteger.valueOf(least)) < 0 || v.compareTo(BigInteger.valueOf(most)) > 0) {
            throw new Fault(2, p.place);
        }
        lastPlace = p.place;
        at++;
        return v.intValue();
    }

    private void sign(String s) throws Fault {
        if (peek().kind != 's' || !peek().text.equals(s)) {
            throw new Fault(1, peek().place);
        }
        at++;
    }

    int street(int n) {
        range(n, 0, tape.size());
        now = pieces(n);
        at = 0;
        tape.clear();
        faultPlace = -1;
        World w = new World();
        try {
            for (int clauses = 1; !ended(); clauses++) {
                clause(w, clauses);
            }
        } catch (Fault f) {
            faultPlace = f.place;
            return f.kind - 10;
        }
        world = w;
        wills = new ArrayList<>();
        for (int i = 0; i < w.dreamers.size(); i++) {
            wills.add(new ArrayList<>());
        }
        book = new ArrayList<>();
        images = new ArrayList<>();
        return w.held.sleepers.size();
    }

    private static void most(Piece p, int have, int most) throws Fault {
        if (have >= most) {
            throw new Fault(3, p.place);
        }
    }

    private void clause(World w, int clauses) throws Fault {
        Piece p = word("sleeper", "door", "turns", "noise", "twin", "dreamer", "milk");
        most(p, clauses, 61);
        int rooms = w.held.sleepers.size();
        switch (p.text) {
            case "sleeper" -> {
                most(p, rooms, 8);
                Sleeper s = new Sleeper();
                s.f = number(0, 300);
                s.t = number(s.f, 300);
                s.w = number(0, 15);
                w.held.sleepers.add(s);
            }
            case "door" -> {
                most(p, w.doors.size(), 10);
                int a = number(0, rooms - 1);
                int b = number(0, rooms - 1);
                if (a == b) {
                    throw new Fault(2, lastPlace);
                }
                w.doors.add(new int[] {a, b, number(0, 1)});
                w.turners.add(new HashSet<>());
            }
            case "turns" -> {
                int k = number(0, 5);
                w.turners.get(number(0, w.doors.size() - 1)).add(k);
            }
            case "noise" -> {
                most(p, w.held.noises.size(), 12);
                w.held.noises.add(new int[] {number(0, 300), number(0, 5)});
            }
            case "twin" -> {
                most(p, w.twins.size(), 3);
                int a = single(w);
                int b = single(w);
                if (a == b) {
                    throw new Fault(2, lastPlace);
                }
                w.twins.add(new int[] {a, b});
            }
            case "dreamer" -> {
                most(p, w.dreamers.size(), 4);
                w.dreamers.add(new int[] {number(0, rooms - 1), number(0, 300)});
            }
            default -> w.milk = number(0, 300);
        }
        sign(";");
    }

    private int single(World w) throws Fault {
        int r = number(0, w.held.sleepers.size() - 1);
        for (int[] t : w.twins) {
            if (t[0] == r || t[1] == r) {
                throw new Fault(2, lastPlace);
            }
        }
        return r;
    }

    private int steps;

    int will(int dreamer, int n) {
        one(dreamer, world.dreamers.size());
        range(n, 0, Math.min(150, tape.size()));
        now = pieces(n);
        at = 0;
        tape.clear();
        faultPlace = -1;
        steps = 0;
        try {
            List<Step> top = new ArrayList<>();
            while (!ended()) {
                top.add(step(0));
            }
            wills.set(dreamer, top);
            return steps;
        } catch (Fault f) {
            faultPlace = f.place;
            return f.kind - 10;
        }
    }

    private Step step(int open) throws Fault {
        Step s = new Step();
        s.what = word("to", "wait", "call", "again", "until", "if").text;
        steps++;
        switch (s.what) {
            case "to" -> s.number = number(0, world.held.sleepers.size() - 1);
            case "wait" -> s.number = number(1, 99);
            case "call" -> s.number = number(0, 5);
            case "again" -> {
                s.number = number(0, 20);
                s.block = block(open);
            }
            case "until" -> {
                s.ask = ask();
                s.block = block(open);
            }
            default -> {
                s.ask = ask();
                s.block = block(open);
                s.otherwise = new ArrayList<>();
                if (peek().text.equals("else")) {
                    at++;
                    s.otherwise = block(open);
                }
            }
        }
        sign(";");
        return s;
    }

    private List<Step> block(int open) throws Fault {
        int place = peek().place;
        sign("[");
        if (open == 6) {
            throw new Fault(3, place);
        }
        List<Step> b = new ArrayList<>();
        while (!peek().text.equals("]")) {
            b.add(step(open + 1));
        }
        at++;
        return b;
    }

    private Ask ask() throws Fault {
        Ask a = new Ask();
        for (int nots = 1; ; nots++) {
            Piece p = word("not", "in", "open", "there", "met", "after");
            a.what = p.text;
            if (!p.text.equals("not")) {
                break;
            }
            if (nots == 7) {
                throw new Fault(3, p.place);
            }
            a.turned = !a.turned;
        }
        switch (a.what) {
            case "in", "there" -> a.number = number(0, world.held.sleepers.size() - 1);
            case "open" -> a.number = number(0, world.doors.size() - 1);
            case "after" -> a.number = number(0, 300);
            default -> { }
        }
        return a;
    }

    int book(int n) {
        range(n, 0, Math.min(150, tape.size()));
        now = pieces(n);
        at = 0;
        tape.clear();
        faultPlace = -1;
        try {
            List<int[]> lines = new ArrayList<>();
            while (!ended()) {
                Piece p = word("seen", "gone");
                most(p, lines.size(), 12);
                lines.add(new int[] {p.text.equals("seen") ? 1 : 0, number(0, 300)});
                sign(";");
            }
            book = lines;
            return lines.size();
        } catch (Fault f) {
            faultPlace = f.place;
            return f.kind - 10;
        }
    }

    int fault() {
        return faultPlace;
    }

    // ---- what was told

    int told(int what) {
        range(what, 0, 7);
        int[] all = {world.held.sleepers.size(), world.doors.size(), world.held.noises.size(), world.twins.size(),
            world.dreamers.size(), world.milk, world.held.kept, book.size()};
        return all[what];
    }

    int sleeper(int k, int what) {
        one(k, world.held.sleepers.size());
        range(what, 0, 3);
        Sleeper s = world.held.sleepers.get(k);
        return new int[] {s.f, s.t, s.w, twin(k)}[what];
    }

    private int twin(int k) {
        for (int[] t : world.twins) {
            if (t[0] == k) {
                return t[1];
            }
            if (t[1] == k) {
                return t[0];
            }
        }
        return -1;
    }

    int door(int d, int what) {
        one(d, world.doors.size());
        range(what, 0, 3);
        if (what < 3) {
            return world.doors.get(d)[what];
        }
        int bits = 0;
        for (int k : world.turners.get(d)) {
            bits += 1 << k;
        }
        return bits;
    }

    int noise(int i, int what) {
        range(what, 0, 1);
        return i < 0 || i >= world.held.noises.size() ? -1 : world.held.noises.get(i)[what];
    }

    // ---- who sleeps

    /** Who is there and when, of some night: kept ones, the milkman's minute of each, and a row of draws. */
    final class Night {
        int kept = world.held.kept;
        int[] milkAt = new int[8];
        int[] drawnAt = new int[8];

        Night() {
            for (int k = 0; k < 8; k++) {
                milkAt[k] = world.milk < 0 ? 1000 : world.milk + k;
                drawnAt[k] = 1000;
            }
        }

        boolean sleeps(int k, int m) {
            if ((kept >> k & 1) == 1) {
                return true;
            }
            Sleeper s = world.held.sleepers.get(k);
            return m >= s.f && m < s.t && m < milkAt[k] && m < drawnAt[k];
        }

        boolean there(int r, int m) {
            return sleeps(r, m) || twin(r) >= 0 && sleeps(twin(r), m);
        }

        void draw(int seed) {
            long x = seed & 0xffffffffL;
            for (int m = 0; m <= 300; m++) {
                for (int k = 0; k < world.held.sleepers.size(); k++) {
                    if ((kept >> k & 1) == 1 || !sleeps(k, m)) {
                        continue;
                    }
                    x = (x * 1103515245L + 12345L) & 0xffffffffL;
                    if ((x / 65536) % 1024 < world.held.sleepers.get(k).w) {
                        drawnAt[k] = m;
                    }
                }
            }
        }

        // ---- the night gone through

        final class Frame {
            List<Step> steps;
            int at;
            Step owner;
            int left;
        }

        final class Dreamer {
            int room = -1;
            int lost = -1;
            int went, failed, called, company;
            boolean stuck;
            int waits;
            int turns;
            List<Frame> stack = new ArrayList<>();
        }

        List<Dreamer> dreamers = new ArrayList<>();
        boolean[] open = new boolean[world.doors.size()];
        int[][] where = new int[301][];
        boolean[][] opened = new boolean[301][];

        void turn(int sort) {
            for (int d = 0; d < open.length; d++) {
                if (world.turners.get(d).contains(sort)) {
                    open[d] = !open[d];
                }
            }
        }

        void push(Dreamer d, List<Step> steps, Step owner, int left) {
            Frame f = new Frame();
            f.steps = steps;
            f.owner = owner;
            f.left = left;
            d.stack.add(f);
        }

        Night play() {
            for (int d = 0; d < open.length; d++) {
                open[d] = world.doors.get(d)[2] == 1;
            }
            for (int i = 0; i < world.dreamers.size(); i++) {
                Dreamer d = new Dreamer();
                push(d, wills.get(i), null, 0);
                dreamers.add(d);
            }
            for (int m = 0; m <= 300; m++) {
                minute(m);
                where[m] = new int[dreamers.size()];
                for (int i = 0; i < dreamers.size(); i++) {
                    where[m][i] = dreamers.get(i).room;
                }
                opened[m] = open.clone();
                for (Dreamer d : dreamers) {
                    d.company += met(d) ? 1 : 0;
                }
            }
            return this;
        }

        boolean met(Dreamer d) {
            for (Dreamer o : dreamers) {
                if (o != d && d.room >= 0 && o.room == d.room) {
                    return true;
                }
            }
            return false;
        }

        void minute(int m) {
            for (int[] n : world.held.noises) {
                if (n[0] == m) {
                    turn(n[1]);
                }
            }
            for (Dreamer d : dreamers) {
                if (d.room >= 0 && !there(d.room, m)) {
                    d.room = -1;
                    d.lost = m;
                }
            }
            for (int i = 0; i < dreamers.size(); i++) {
                if (world.dreamers.get(i)[1] == m) {
                    if (there(world.dreamers.get(i)[0], m)) {
                        dreamers.get(i).room = world.dreamers.get(i)[0];
                    } else {
                        dreamers.get(i).lost = m;
                    }
                }
            }
            for (int i = 0; i < dreamers.size(); i++) {
                Dreamer d = dreamers.get(i);
                if (d.room >= 0 && world.dreamers.get(i)[1] < m && !d.stuck) {
                    d.turns = 0;
                    act(d, m);
                }
            }
        }

        boolean counts(Dreamer d) {
            d.turns++;
            if (d.turns == 61) {
                d.stuck = true;
            }
            return !d.stuck;
        }

        void act(Dreamer d, int m) {
            if (d.waits > 0) {
                d.waits--;
                return;
            }
            while (!d.stack.isEmpty()) {
                Frame f = d.stack.get(d.stack.size() - 1);
                if (f.at == f.steps.size()) {
                    if (!leave(d, f)) {
                        return;
                    }
                    continue;
                }
                Step s = f.steps.get(f.at);
                switch (s.what) {
                    case "to" -> {
                        f.at++;
                        to(d, s.number, m);
                        return;
                    }
                    case "wait" -> {
                        f.at++;
                        d.waits = s.number - 1;
                        return;
                    }
                    case "call" -> {
                        f.at++;
                        d.called++;
                        turn(s.number);
                        return;
                    }
                    default -> {
                        if (!counts(d)) {
                            return;
                        }
                        enter(d, f, s, m);
                    }
                }
            }
        }

        /** At the end of a block: whether he goes on. */
        boolean leave(Dreamer d, Frame f) {
            if (f.owner != null && f.owner.what.equals("again")) {
                if (!counts(d)) {
                    return false;
                }
                if (f.left > 1) {
                    f.left--;
                    f.at = 0;
                    return true;
                }
            }
            d.stack.remove(d.stack.size() - 1);
            return true;
        }

        void enter(Dreamer d, Frame f, Step s, int m) {
            switch (s.what) {
                case "again" -> {
                    f.at++;
                    if (s.number > 0) {
                        push(d, s.block, s, s.number);
                    }
                }
                case "until" -> {
                    if (so(d, s.ask, m)) {
                        f.at++;
                    } else {
                        push(d, s.block, s, 0);
                    }
                }
                default -> {
                    f.at++;
                    push(d, so(d, s.ask, m) ? s.block : s.otherwise, s, 0);
                }
            }
        }

        boolean so(Dreamer d, Ask a, int m) {
            boolean is = switch (a.what) {
                case "in" -> d.room == a.number;
                case "open" -> open[a.number];
                case "there" -> there(a.number, m);
                case "met" -> met(d);
                default -> m >= a.number;
            };
            return a.turned ? !is : is;
        }

        void to(Dreamer d, int room, int m) {
            for (int i = 0; i < open.length; i++) {
                int[] door = world.doors.get(i);
                boolean joins = door[0] == d.room && door[1] == room || door[1] == d.room && door[0] == room;
                if (open[i] && joins && there(d.room, m) && there(room, m)) {
                    d.room = room;
                    d.went++;
                    return;
                }
            }
            d.failed++;
        }

        int lost() {
            int bits = 0;
            for (int i = 0; i < dreamers.size(); i++) {
                bits |= dreamers.get(i).lost >= 0 ? 1 << i : 0;
            }
            return bits;
        }

        int howManyLost() {
            return Integer.bitCount(lost());
        }

        // ---- ways

        boolean doorOpen(int d, int m) {
            int turns = 0;
            for (int[] n : world.held.noises) {
                if (n[0] <= m && world.turners.get(d).contains(n[1])) {
                    turns++;
                }
            }
            return (world.doors.get(d)[2] + turns) % 2 == 1;
        }

        boolean[][] joined(int m) {
            int n = world.held.sleepers.size();
            boolean[][] j = new boolean[n][n];
            for (int d = 0; d < world.doors.size(); d++) {
                if (doorOpen(d, m)) {
                    int[] door = world.doors.get(d);
                    j[door[0]][door[1]] = true;
                    j[door[1]][door[0]] = true;
                }
            }
            return j;
        }

        /** By minute and room, whether one who is in a room in a minute can be there. */
        boolean[][] can(int a, int minute) {
            int n = world.held.sleepers.size();
            boolean[][] c = new boolean[301][n];
            c[minute][a] = there(a, minute);
            for (int m = minute + 1; m <= 300; m++) {
                boolean[][] j = joined(m);
                for (int r = 0; r < n; r++) {
                    for (int q = 0; q < n; q++) {
                        if (c[m - 1][q] && (q == r || j[q][r]) && there(r, m)) {
                            c[m][r] = true;
                        }
                    }
                }
            }
            return c;
        }

        int soonest(int a, int minute, int b) {
            boolean[][] c = can(a, minute);
            for (int m = minute; m <= 300; m++) {
                if (c[m][b]) {
                    return m;
                }
            }
            return -1;
        }

        int met(int a, int b, int minute) {
            boolean[][] one = can(a, minute);
            boolean[][] other = can(b, minute);
            for (int m = minute; m <= 300; m++) {
                for (int r = 0; r < world.held.sleepers.size(); r++) {
                    if (one[m][r] && other[m][r]) {
                        return m;
                    }
                }
            }
            return -1;
        }
    }

    private Night tellNight() {
        return new Night().play();
    }

    boolean sleeps(int k, int m) {
        one(k, world.held.sleepers.size());
        range(m, 0, 300);
        return new Night().sleeps(k, m);
    }

    boolean there(int r, int m) {
        room(r);
        range(m, 0, 300);
        return new Night().there(r, m);
    }

    boolean open(int d, int m) {
        one(d, world.doors.size());
        range(m, 0, 300);
        return tellNight().opened[m][d];
    }

    int where(int d, int m) {
        one(d, world.dreamers.size());
        range(m, 0, 300);
        return tellNight().where[m][d];
    }

    int night(int d, int what) {
        one(d, world.dreamers.size());
        range(what, 0, 5);
        Night.Dreamer x = tellNight().dreamers.get(d);
        return new int[] {x.lost, x.went, x.failed, x.called, x.company, x.stuck ? 1 : 0}[what];
    }

    int lost() {
        return tellNight().lost();
    }

    int cut(int r, int m) {
        room(r);
        range(m, 0, 300);
        Night n = new Night();
        Set<Integer> seen = new HashSet<>();
        flood(n, n.joined(m), r, m, seen);
        int bits = 0;
        for (int q = 0; q < world.held.sleepers.size(); q++) {
            if (n.there(q, m) && !seen.contains(q)) {
                bits |= 1 << q;
            }
        }
        return bits;
    }

    private void flood(Night n, boolean[][] j, int r, int m, Set<Integer> seen) {
        if (!n.there(r, m) || !seen.add(r)) {
            return;
        }
        for (int q = 0; q < j.length; q++) {
            if (j[r][q]) {
                flood(n, j, q, m, seen);
            }
        }
    }

    int soonest(int a, int minute, int b) {
        room(a, b);
        range(minute, 0, 300);
        return new Night().soonest(a, minute, b);
    }

    int way(int a, int minute, int b, int t) {
        room(a, b);
        range(minute, 0, 300);
        range(t, 0, 300);
        Night n = new Night();
        int end = n.soonest(a, minute, b);
        if (end < 0 || t < minute) {
            return -1;
        }
        if (t > end) {
            return b;
        }
        int at = a;
        for (int m = minute; m < t; m++) {
            boolean[][] j = n.joined(m + 1);
            int next = -1;
            for (int r = 0; r < j.length && next < 0; r++) {
                if ((r == at || j[at][r]) && n.there(r, m + 1)) {
                    if (n.soonest(r, m + 1, b) == end) {
                        next = r;
                    }
                }
            }
            at = next;
        }
        return at;
    }

    int latest(int a, int b, int minute) {
        room(a, b);
        range(minute, 0, 300);
        Night n = new Night();
        for (int m = minute; m >= 0; m--) {
            if (n.there(a, m)) {
                int s = n.soonest(a, m, b);
                if (s >= 0 && s <= minute) {
                    return m;
                }
            }
        }
        return -1;
    }

    int keep(int bits) {
        if (bits < 0 || bits >= 1 << world.held.sleepers.size()) {
            throw argument();
        }
        int old = world.held.kept;
        world.held.kept = bits;
        return old;
    }

    private List<Integer> setsBySize() {
        List<Integer> sets = new ArrayList<>();
        for (int s = 0; s < 1 << world.held.sleepers.size(); s++) {
            if ((s & world.held.kept) == world.held.kept) {
                sets.add(s);
            }
        }
        sets.sort((x, y) -> Integer.bitCount(x) != Integer.bitCount(y)
            ? Integer.compare(Integer.bitCount(x), Integer.bitCount(y)) : Integer.compare(x, y));
        return sets;
    }

    int fewest(int a, int minute, int b) {
        room(a, b);
        range(minute, 0, 300);
        for (int s : setsBySize()) {
            Night n = new Night();
            n.kept = s;
            if (n.soonest(a, minute, b) >= 0) {
                return s;
            }
        }
        return -1;
    }

    int meet(int a, int b, int minute) {
        room(a, b);
        range(minute, 0, 300);
        for (int s : setsBySize()) {
            Night n = new Night();
            n.kept = s;
            if (n.met(a, b, minute) >= 0) {
                return s;
            }
        }
        return -1;
    }

    int met(int a, int b, int minute) {
        room(a, b);
        range(minute, 0, 300);
        return new Night().met(a, b, minute);
    }

    // ---- noises, lines, odds

    private List<Integer> usefulSorts() {
        List<Integer> sorts = new ArrayList<>();
        for (int k = 0; k < 6; k++) {
            for (Set<Integer> t : world.turners) {
                if (t.contains(k)) {
                    sorts.add(k);
                    break;
                }
            }
        }
        return sorts;
    }

    private int firstDoors() {
        int bits = 0;
        for (int d = 0; d < world.doors.size(); d++) {
            bits |= world.doors.get(d)[2] << d;
        }
        return bits;
    }

    private int turned(int doors, int sort) {
        int bits = doors;
        for (int d = 0; d < world.doors.size(); d++) {
            if (world.turners.get(d).contains(sort)) {
                bits ^= 1 << d;
            }
        }
        return bits;
    }

    int order(int open, int shut, int what) {
        int many = 1 << world.doors.size();
        if (open < 0 || open >= many || shut < 0 || shut >= many || (open & shut) != 0) {
            throw argument();
        }
        range(what, 0, 1);
        for (int length = 0; length <= 6; length++) {
            int row = firstRow(firstDoors(), open, shut, length, 0);
            if (row >= 0) {
                return what == 0 ? length : row;
            }
        }
        return -1;
    }

    private int firstRow(int doors, int open, int shut, int length, int row) {
        if (length == 0) {
            return (doors & open) == open && (doors & shut) == 0 ? row : -1;
        }
        for (int k : usefulSorts()) {
            int found = firstRow(turned(doors, k), open, shut, length - 1, row * 10 + k);
            if (found >= 0) {
                return found;
            }
        }
        return -1;
    }

    int whose() {
        int bits = 0;
        for (int k = 0; k < world.held.sleepers.size(); k++) {
            boolean right = true;
            for (int[] line : book) {
                right &= new Night().there(k, line[1]) == (line[0] == 1);
            }
            bits |= right ? 1 << k : 0;
        }
        return bits;
    }

    int want(int n, int what) {
        range(n, 0, 8);
        range(what, 0, 1);
        List<Integer> sorts = usefulSorts();
        int[] memo = new int[9 * 1024];
        Arrays.fill(memo, -1);
        if (what == 0) {
            return value(firstDoors(), n, true, sorts, memo);
        }
        int best = -1;
        int bestValue = -1;
        if (n > 0) {
            for (int k : sorts) {
                int v = value(turned(firstDoors(), k), n - 1, false, sorts, memo);
                if (v > bestValue) {
                    bestValue = v;
                    best = k;
                }
            }
        }
        return best;
    }

    private int value(int doors, int left, boolean first, List<Integer> sorts, int[] memo) {
        if (left == 0 || sorts.isEmpty()) {
            return Integer.bitCount(doors);
        }
        if (memo[left * 1024 + doors] >= 0) {
            return memo[left * 1024 + doors];
        }
        int best = first ? -1 : 100;
        for (int k : sorts) {
            int v = value(turned(doors, k), left - 1, !first, sorts, memo);
            best = first ? Math.max(best, v) : Math.min(best, v);
        }
        memo[left * 1024 + doors] = best;
        return best;
    }

    private List<Integer> bestWalk;

    long surest(int a, int b, int what) {
        room(a, b);
        range(what, 0, 3);
        bestWalk = null;
        List<Integer> walk = new ArrayList<>();
        walk.add(a);
        walkOn(walk, b);
        if (bestWalk == null) {
            return -1;
        }
        BigInteger above = product(bestWalk);
        BigInteger below = BigInteger.valueOf(16).pow(bestWalk.size());
        BigInteger g = above.gcd(below);
        long digits = 0;
        for (int r : bestWalk) {
            digits = digits * 10 + r;
        }
        return new long[] {above.divide(g).longValue(), below.divide(g).longValue(), bestWalk.size(), digits}[what];
    }

    private BigInteger product(List<Integer> walk) {
        BigInteger p = BigInteger.ONE;
        for (int r : walk) {
            p = p.multiply(BigInteger.valueOf(16 - world.held.sleepers.get(r).w));
        }
        return p;
    }

    private void walkOn(List<Integer> walk, int b) {
        int at = walk.get(walk.size() - 1);
        if (at == b) {
            if (bestWalk == null || ahead(walk, bestWalk)) {
                bestWalk = new ArrayList<>(walk);
            }
            return;
        }
        for (int[] d : world.doors) {
            int next = d[0] == at ? d[1] : d[1] == at ? d[0] : -1;
            if (d[2] == 1 && next >= 0 && !walk.contains(next)) {
                walk.add(next);
                walkOn(walk, b);
                walk.remove(walk.size() - 1);
            }
        }
    }

    private boolean ahead(List<Integer> x, List<Integer> y) {
        BigInteger sixteen = BigInteger.valueOf(16);
        int c = product(x).multiply(sixteen.pow(y.size())).compareTo(product(y).multiply(sixteen.pow(x.size())));
        if (c != 0) {
            return c > 0;
        }
        if (x.size() != y.size()) {
            return x.size() < y.size();
        }
        for (int i = 0; i < x.size(); i++) {
            if (!x.get(i).equals(y.get(i))) {
                return x.get(i) < y.get(i);
            }
        }
        return false;
    }

    int drawn(int seed, int what) {
        range(what, 0, 2);
        Night n = new Night();
        n.draw(seed);
        if (what == 0) {
            return n.play().lost();
        }
        if (what == 1) {
            for (int m = 300; m >= 0; m--) {
                for (int r = 0; r < world.held.sleepers.size(); r++) {
                    if (n.there(r, m)) {
                        return m + 1;
                    }
                }
            }
            return 0;
        }
        int many = 0;
        for (int k = 0; k < world.held.sleepers.size(); k++) {
            many += n.drawnAt[k] == 1000 ? 1 : 0;
        }
        return many;
    }

    int span(int seed, int many, int what) {
        range(many, 1, 20);
        range(what, 0, 2);
        List<Integer> lost = new ArrayList<>();
        for (int i = 0; i < many; i++) {
            Night n = new Night();
            n.draw(seed + i);
            lost.add(n.play().howManyLost());
        }
        return what == 0 ? Collections.min(lost) : what == 1 ? Collections.max(lost) : Collections.frequency(lost, 0);
    }

    int round(int what) {
        range(what, 0, 1);
        if (world.held.sleepers.size() > 6) {
            refused[3]++;
            throw new IllegalStateException();
        }
        int[] best = {99, 0};
        orders(new ArrayList<>(), best);
        return best[what];
    }

    private void orders(List<Integer> order, int[] best) {
        int n = world.held.sleepers.size();
        if (order.size() < n) {
            for (int k = 0; k < n; k++) {
                if (!order.contains(k)) {
                    order.add(k);
                    orders(order, best);
                    order.remove(order.size() - 1);
                }
            }
            return;
        }
        Night night = new Night();
        int digits = 0;
        for (int i = 0; i < n; i++) {
            digits = digits * 10 + order.get(i);
            if (world.milk >= 0) {
                night.milkAt[order.get(i)] = world.milk + i;
            }
        }
        int lost = night.play().howManyLost();
        if (lost < best[0]) {
            best[0] = lost;
            best[1] = digits;
        }
    }

    // ---- counts over the night

    int asleep(int m) {
        range(m, 0, 300);
        int bits = 0;
        for (int k = 0; k < world.held.sleepers.size(); k++) {
            bits |= new Night().sleeps(k, m) ? 1 << k : 0;
        }
        return bits;
    }

    int rooms(int m) {
        range(m, 0, 300);
        int bits = 0;
        for (int k = 0; k < world.held.sleepers.size(); k++) {
            bits |= new Night().there(k, m) ? 1 << k : 0;
        }
        return bits;
    }

    int lasting(int r, int what) {
        room(r);
        range(what, 0, 1);
        Night n = new Night();
        int longest = 0;
        int first = -1;
        for (int m = 0; m <= 300; m++) {
            int e = m;
            while (e <= 300 && n.there(r, e)) {
                e++;
            }
            if (e - m > longest) {
                longest = e - m;
                first = m;
            }
        }
        return what == 0 ? longest : first;
    }

    int reach(int r, int minute, int to) {
        room(r);
        range(minute, 0, 300);
        range(to, minute, 300);
        int bits = 0;
        boolean[] c = new Night().can(r, minute)[to];
        for (int q = 0; q < c.length; q++) {
            bits |= c[q] ? 1 << q : 0;
        }
        return bits;
    }

    int far(int a, int b) {
        room(a, b);
        int n = world.held.sleepers.size();
        int[] d = new int[n];
        Arrays.fill(d, 1000);
        d[a] = 0;
        for (int i = 0; i < n; i++) {
            for (int[] x : world.doors) {
                if (x[2] == 1) {
                    d[x[0]] = Math.min(d[x[0]], d[x[1]] + 1);
                    d[x[1]] = Math.min(d[x[1]], d[x[0]] + 1);
                }
            }
        }
        return d[b] >= 1000 ? -1 : d[b];
    }

    int quiet() {
        Set<Integer> minutes = new HashSet<>();
        for (int[] n : world.held.noises) {
            minutes.add(n[0]);
        }
        return 301 - minutes.size();
    }

    int lonely(int r) {
        room(r);
        Night n = tellNight();
        int many = 0;
        for (int m = 0; m <= 300; m++) {
            boolean anyone = false;
            for (int x : n.where[m]) {
                anyone |= x == r;
            }
            many += n.there(r, m) && !anyone ? 1 : 0;
        }
        return many;
    }

    int ends() {
        for (int m = 300; m >= 0; m--) {
            if (rooms(m) != 0) {
                return m;
            }
        }
        return -1;
    }

    int crowd(int what) {
        range(what, 0, 1);
        Night n = tellNight();
        int most = 0;
        int first = -1;
        for (int m = 0; m <= 300; m++) {
            int[] in = new int[8];
            for (int x : n.where[m]) {
                if (x >= 0 && ++in[x] > most) {
                    most = in[x];
                    first = m;
                }
            }
        }
        return what == 0 ? most : first;
    }

    int often(int d) {
        one(d, world.doors.size());
        int many = 0;
        for (int m = 0; m <= 300; m++) {
            many += new Night().doorOpen(d, m) ? 1 : 0;
        }
        return many;
    }

    int help() {
        int best = -1;
        int least = 99;
        for (int k = 0; k < world.held.sleepers.size(); k++) {
            if ((world.held.kept >> k & 1) == 0) {
                Night n = new Night();
                n.kept |= 1 << k;
                int lost = n.play().howManyLost();
                if (lost < least) {
                    least = lost;
                    best = k;
                }
            }
        }
        return best;
    }

    int stranded(int m) {
        range(m, 0, 300);
        int bits = 0;
        for (int r = 0; r < world.held.sleepers.size(); r++) {
            if (new Night().there(r, m) && reach(r, m, 300) == 0) {
                bits |= 1 << r;
            }
        }
        return bits;
    }

    // ---- changes and images

    private boolean noteChange() {
        if (world.held.before.size() >= 20) {
            return false;
        }
        List<Held> before = new ArrayList<>(world.held.before);
        before.add(world.held.copy());
        world.held.before = before;
        return true;
    }

    int make(int m, int k) {
        range(m, 0, 300);
        range(k, 0, 5);
        if (world.held.noises.size() >= 12 || !noteChange()) {
            return -1;
        }
        world.held.noises.add(new int[] {m, k});
        return world.held.noises.size();
    }

    int hush(int i) {
        if (i < 0 || i >= world.held.noises.size() || !noteChange()) {
            return -1;
        }
        world.held.noises.remove(i);
        return world.held.noises.size();
    }

    int sleep(int k, int f, int t) {
        one(k, world.held.sleepers.size());
        range(f, 0, 300);
        range(t, f, 300);
        if (!noteChange()) {
            return 0;
        }
        world.held.sleepers.get(k).f = f;
        world.held.sleepers.get(k).t = t;
        return 1;
    }

    int undo() {
        List<Held> before = world.held.before;
        if (before.isEmpty()) {
            return -1;
        }
        int kept = world.held.kept;
        Held old = before.get(before.size() - 1).copy();
        old.kept = kept;
        world.held = old;
        return old.before.size();
    }

    int image() {
        if (images.size() == 3) {
            return -1;
        }
        images.add(world.held.copy());
        return images.size();
    }

    int restore() {
        if (images.isEmpty()) {
            return -1;
        }
        world.held = images.remove(images.size() - 1);
        return images.size();
    }

    int status(int what) {
        return what < 0 || what > 3 ? -1 : refused[what];
    }

    int count(int what) {
        return switch (what) {
            case 0 -> images.size();
            case 1 -> tape.size();
            case 2 -> world.held.before.size();
            default -> -1;
        };
    }
}

import java.nio.file.Files;
import java.nio.file.Path;
import java.util.ArrayList;
import java.util.List;
import java.util.NoSuchElementException;
import java.util.function.LongSupplier;

/** What the tests have in common: calls with the answers that are due, texts put on the tape, the document's words. */
abstract class Checks {
    static final Class<?> INDEX = IndexOutOfBoundsException.class;
    static final Class<?> ELEMENT = NoSuchElementException.class;
    static final Class<?> ARGUMENT = IllegalArgumentException.class;
    static final Class<?> STATE = IllegalStateException.class;

    private static final List<String> SAID = new ArrayList<>();
    private static int wrong;
    private static int made;
    private static String part = "";

    // ---- an end

    /** Ends the run as failed if a call of the class does not end. */
    static void watch() {
        Thread watch = new Thread(() -> {
            try {
                Thread.sleep(120000);
            } catch (InterruptedException e) {
                return;
            }
            System.out.println(part + ": no end");
            Runtime.getRuntime().halt(1);
        });
        watch.setDaemon(true);
        watch.start();
    }

    // ---- answers

    /** Names the promise, or what else the checks behind it are of. */
    static void part(String name) {
        part = name;
    }

    /** The words of the document which the checks behind them hold the class to. */
    static void says(String words) {
        SAID.add(words);
        part = "\"" + words + "\"";
    }

    static void bad(String what) {
        wrong++;
        System.out.println(part + ": " + what);
    }

    static void due(String call, long got, long want) {
        made++;
        if (got != want) {
            bad(call + " answered " + got + ", due is " + want);
        }
    }

    static void due(String call, boolean got, boolean want) {
        due(call, got ? 1 : 0, want ? 1 : 0);
    }

    static void due(String call, String got, String want) {
        made++;
        if (!got.equals(want)) {
            bad(call + " answered " + got + ", due is " + want);
        }
    }

    static void refuses(String call, Class<?> want, LongSupplier asked) {
        String got = "nothing";
        try {
            asked.getAsLong();
        } catch (RuntimeException e) {
            got = e.getClass().getSimpleName();
        }
        due(call + " threw", got, want.getSimpleName());
    }

    /** Tells how it went and ends the run. */
    static void finish(String well) {
        System.out.println(wrong == 0 ? well + " (" + made + " checks)" : wrong + " of " + made + " checks failed");
        System.exit(wrong == 0 ? 0 : 1);
    }

    // ---- texts

    static StreetDreams feed(StreetDreams x, String text) {
        for (int i = 0; i < text.length(); i += 20) {
            int[] n = new int[5];
            for (int k = 0; k < 20; k++) {
                n[k / 4] = n[k / 4] << 8 | (i + k < text.length() ? text.charAt(i + k) & 255 : 0);
            }
            x.feed(n[0], n[1], n[2], n[3], n[4]);
        }
        return x;
    }

    static int street(StreetDreams x, String text) {
        return feed(x, text).street(text.length());
    }

    static int will(StreetDreams x, int dreamer, String text) {
        return feed(x, text).will(dreamer, text.length());
    }

    static int book(StreetDreams x, String text) {
        return feed(x, text).book(text.length());
    }

    /** A new object of which this street and these wills are told. */
    static StreetDreams on(String text, String... wills) {
        StreetDreams x = new StreetDreams();
        int answer = street(x, text);
        if (answer < 0) {
            bad("street \"" + text + "\" answered " + answer + ", fault at " + x.fault());
        }
        for (int i = 0; i < wills.length; i++) {
            answer = will(x, i, wills[i]);
            if (answer < 0) {
                bad("will \"" + wills[i] + "\" answered " + answer + ", fault at " + x.fault());
            }
        }
        return x;
    }

    static String times(int n, String s) {
        return s.repeat(n);
    }

    /** The text, with blanks behind it up to so many bytes. */
    static String padded(String text, int bytes) {
        return text + times(bytes - text.length(), " ");
    }

    /** All that stays behind calls that only ask, and behind refused ones; the tape and the counted refusals are not in it. */
    static String state(StreetDreams x) {
        StringBuilder b = new StringBuilder();
        for (int what = 0; what <= 7; what++) {
            b.append(x.told(what)).append(' ');
        }
        for (int k = 0; k < x.told(0); k++) {
            b.append("s ").append(x.sleeper(k, 0)).append(' ').append(x.sleeper(k, 1)).append(' ');
            b.append(x.sleeper(k, 2)).append(' ').append(x.sleeper(k, 3)).append(' ');
        }
        for (int d = 0; d < x.told(1); d++) {
            b.append("d ").append(x.door(d, 0)).append(' ').append(x.door(d, 1)).append(' ');
            b.append(x.door(d, 2)).append(' ').append(x.door(d, 3)).append(' ');
        }
        for (int i = 0; i < x.told(2); i++) {
            b.append("n ").append(x.noise(i, 0)).append(' ').append(x.noise(i, 1)).append(' ');
        }
        for (int d = 0; d < x.told(4); d++) {
            b.append("w ").append(x.night(d, 0)).append(' ').append(x.night(d, 1)).append(' ');
            b.append(x.night(d, 2)).append(' ').append(x.night(d, 3)).append(' ').append(x.night(d, 5)).append(' ');
        }
        return b.append(x.whose()).append(' ').append(x.count(0)).append(' ').append(x.count(2)).toString();
    }

    /** Where a dreamer is from one minute to another: a sign a minute, '.' for NONE. */
    static String path(StreetDreams x, int dreamer, int from, int to) {
        StringBuilder b = new StringBuilder();
        for (int m = from; m <= to; m++) {
            int room = x.where(dreamer, m);
            b.append(room < 0 ? "." : String.valueOf(room));
        }
        return b.toString();
    }

    /** In which minutes, from one to another, a yes-or-no question is answered yes: '1', else '0'. */
    interface InMinute {
        boolean asked(int minute);
    }

    static String row(InMinute question, int from, int to) {
        StringBuilder b = new StringBuilder();
        for (int m = from; m <= to; m++) {
            b.append(question.asked(m) ? '1' : '0');
        }
        return b.toString();
    }

    // ---- the document

    static String document() throws java.io.IOException {
        return plain(Files.readString(Path.of("../shared/DOC.md")));
    }

    /** The words of the document's terms and promises which were never said, but for headings and the calls' own lines. */
    private static String leftOf(String document) {
        String terms = document.substring(document.indexOf("## Terms"), document.indexOf("## Not promised"));
        boolean[] said = new boolean[terms.length()];
        for (String words : SAID) {
            for (int i = terms.indexOf(words); i >= 0; i = terms.indexOf(words, i + 1)) {
                java.util.Arrays.fill(said, i, i + words.length(), true);
            }
        }
        StringBuilder left = new StringBuilder();
        for (int i = 0; i < said.length; i++) {
            left.append(said[i] ? '~' : terms.charAt(i));
        }
        return left.toString().replaceAll("~+", "~").replaceAll("```(text)?|==== \\d\\.|## Terms|## Promise \\d+: [A-Za-z ]+", " ")
            .replaceAll("`[^`]*`:?", " ").replaceAll("\\bor\\b|[~ .,:;)]", "");
    }

    static String plain(String text) {
        return text.replaceAll("\\s+", " ");
    }

    /** Holds what was said against the document: its own words, and at least some of each promise. */
    static void heldAgainst(String document) {
        part = "the document";
        for (String words : SAID) {
            due("its words \"" + words + "\"", document.contains(words), true);
        }
        String[] promises = document.split("## Promise ");
        for (int p = 1; p < promises.length; p++) {
            String promise = promises[p].split("## ")[0];
            due("some words of promise " + p, SAID.stream().anyMatch(promise::contains), true);
        }
        due("promises", promises.length - 1, 51);
        due("what of its terms and promises no check is headed by", leftOf(document), "");
    }
}

import java.io.IOException;
import java.nio.charset.StandardCharsets;
import java.nio.file.Files;
import java.nio.file.Path;
import java.util.ArrayList;
import java.util.Arrays;
import java.util.HashSet;
import java.util.List;
import java.util.Set;
import java.util.TreeSet;
import java.util.function.ToLongFunction;
import java.util.regex.Matcher;
import java.util.regex.Pattern;

/** One test for each sentence of the document that names an edge: it names the promise and quotes the sentence. */
abstract class Edges {
    static final int LEAST = Integer.MIN_VALUE;
    static final int GREATEST = Integer.MAX_VALUE;
    static final long LONG_REFUSAL = 4000000000000000000L;
    private static final int PROMISES = 51;
    private static final Path DOC = Path.of("..", "shared", "DOC.md");

    private static final List<String> failed = new ArrayList<>();
    private static final Set<String> names = new HashSet<>();
    // Promise and number of each refusal, and of each -9, that some test has asked for.
    private static final Set<String> asked = new TreeSet<>();
    private static final String doc = readDoc();
    // Of each letter of the document, whether some test quotes it.
    private static final boolean[] quoted = new boolean[doc.length()];
    // What tells no promise: headings, fences, how a call is written, the numbers of the parts.
    private static final Pattern NO_SENTENCE = Pattern.compile("(?m)^## .*$|```(?:text)?|^`[^`]*`|==== [IV]+\\.");
    private static int tests = 0;
    private static int promise = 0;
    private static String name = "";
    private static int checks = 0;
    private static int wrong = 0;

    /** One test: of a promise, a sentence of the document that names an edge, what of it is looked at, and the calls. */
    static void edge(int itsPromise, String sentence, String title, Runnable calls) {
        tests++;
        promise = itsPromise;
        name = "promise " + itsPromise + ", \"" + sentence + "\" [" + title + "]";
        checks = 0;
        wrong = 0;
        if (!names.add(name)) {
            fail("there are two tests of that name");
        }
        if (!stands(sentence)) {
            fail("the document has no such sentence there");
        }
        try {
            calls.run();
        } catch (RuntimeException | Error e) {
            fail("threw " + e);
        }
        if (checks == 0) {
            fail("nothing was checked");
        }
        if (wrong > 0) {
            failed.add(name);
        }
    }

    /** The answers that came, and behind them as many that were due. */
    static void due(long... gotThenDue) {
        int half = gotThenDue.length / 2;
        if (half == 0 || gotThenDue.length % 2 != 0) {
            fail("answers and what is due are not as many");
            return;
        }
        for (int k = 0; k < half; k++) {
            checks++;
            if (gotThenDue[k] != gotThenDue[half + k]) {
                fail("check " + checks + " answered " + gotThenDue[k] + ", due is " + gotThenDue[half + k]);
            }
        }
    }

    /** Each of these answers is to be -9. */
    static void none(long... answers) {
        asked.add(promise + " -9");
        for (long answer : answers) {
            due(answer, -9);
        }
    }

    /** The call answers the refusal's number, and nothing that can be seen is changed but how many of these there were. */
    static void refuses(HandbagLady x, int number, ToLongFunction<HandbagLady> call) {
        asked.add(promise + " " + number);
        String before = look(x);
        int[] countsBefore = refusals(x);
        long answer = call.applyAsLong(x);
        long least = LONG_REFUSAL / 2;
        due(answer > least ? LONG_REFUSAL - answer : answer, number);
        String after = look(x);
        checks++;
        if (!before.equals(after)) {
            fail("a refused call changed " + before + " to " + after);
        }
        int[] countsAfter = refusals(x);
        for (int k = 1; k <= 6; k++) {
            due(countsAfter[k], countsBefore[k] + (k == -number ? 1 : 0));
        }
    }

    /** One test: each of these calls is refused so, each by a new object with a letter, a row, an image and something to take back. */
    @SafeVarargs
    static void refused(int itsPromise, String sentence, String title, int number, String letters, ToLongFunction<HandbagLady>... calls) {
        edge(itsPromise, sentence, title, () -> {
            for (ToLongFunction<HandbagLady> call : calls) {
                refuses(loaded(letters), number, call);
            }
        });
    }

    static HandbagLady loaded(String letters) {
        HandbagLady x = of(letters);
        x.image();
        x.feed('c');
        x.row(0);
        x.colonel(x.count(3));
        return x;
    }

    /** A new object behind a bequest. */
    static HandbagLady of(String letters) {
        HandbagLady x = new HandbagLady();
        if (!letters.isEmpty()) {
            int answer = told(x, letters);
            if (answer < 1) {
                fail(letters + " was answered " + answer);
            }
        }
        return x;
    }

    static int told(HandbagLady x, String letters) {
        for (int k = 0; k < letters.length(); k++) {
            x.feed(letters.charAt(k));
        }
        return x.bequest();
    }

    static HandbagLady withRow(String letters, int... numbers) {
        HandbagLady x = of(letters);
        for (int v : numbers) {
            x.row(v);
        }
        return x;
    }

    /** All that can be seen of an object but its refusals. */
    static String look(HandbagLady x) {
        StringBuilder seen = new StringBuilder();
        for (int what = 0; what <= 9; what++) {
            seen.append(x.count(what)).append(' ');
        }
        for (int b = 0; b < x.count(0); b++) {
            for (int what = 0; what <= 6; what++) {
                seen.append(what == 0 ? "bag " : "").append(x.bagOf(b, what)).append(' ');
            }
        }
        for (int l = 0; l < x.count(1); l++) {
            for (int what = 0; what <= 5; what++) {
                seen.append(what == 0 ? "bearer " : "").append(x.bearerOf(l, what)).append(' ');
            }
        }
        return seen.toString();
    }

    /** That both objects look alike. */
    static void alike(HandbagLady x, HandbagLady y) {
        checks++;
        if (!look(x).equals(look(y))) {
            fail(look(x) + " is not as " + look(y));
        }
    }

    /** How many refusals -1 .. -6 there were, by their numbers without the sign. */
    static int[] refusals(HandbagLady x) {
        int[] counts = new int[7];
        for (int k = 1; k <= 6; k++) {
            counts[k] = x.count(10 + k);
        }
        return counts;
    }

    /** Tells how many failed; whether none did. */
    static boolean allHeld() {
        System.out.println(tests + " edges, " + failed.size() + " failed");
        return failed.isEmpty();
    }

    /** That every refusal and every -9 of every promise has been asked for. */
    static void everyRefusal() {
        if (doc.isEmpty()) {
            return;
        }
        for (int k = 1; k <= PROMISES; k++) {
            // What stands for a number that is given, not for an answer, goes first.
            String section = section(k).replaceAll("(below|bearer|i|REFUSALS) -1", "").replaceAll("\\.\\. -6", "");
            Matcher number = Pattern.compile("-\\d").matcher(section);
            while (number.find()) {
                if (!asked.contains(k + " " + number.group())) {
                    name = "promise " + k + ", " + number.group();
                    fail("no test asks for it");
                    failed.add(name);
                }
            }
        }
    }

    private static void fail(String why) {
        wrong++;
        System.out.println(name + ": " + why);
    }

    /** That every sentence of the document, from "Terms" on, is quoted by some test. */
    static void everySentence() {
        Matcher other = NO_SENTENCE.matcher(doc);
        while (other.find()) {
            Arrays.fill(quoted, other.start(), other.end(), true);
        }
        int from = Math.max(0, doc.indexOf("## Terms"));
        int to = Math.max(from, doc.indexOf("## Not promised"));
        StringBuilder rest = new StringBuilder();
        for (int k = from; k < to; k++) {
            rest.append(quoted[k] ? '\n' : doc.charAt(k));
        }
        for (String words : rest.toString().split("\n")) {
            if (words.matches(".*\\w.*")) {
                name = "\"" + words.trim() + "\"";
                fail("no test quotes it");
                failed.add(name);
            }
        }
    }

    private static boolean stands(String sentence) {
        boolean there = quote(sentence, section(promise), begins(promise));
        return quote(sentence, section(0), 0) || there || doc.isEmpty();
    }

    /** Whether it stands in this part, which begins at a place of the document; notes which letters it quotes. */
    private static boolean quote(String sentence, String part, int begins) {
        int found = sentence.isEmpty() ? -1 : part.indexOf(sentence);
        for (int k = found; k >= 0; k = part.indexOf(sentence, k + 1)) {
            Arrays.fill(quoted, begins + k, begins + k + sentence.length(), true);
        }
        return found >= 0;
    }

    private static int begins(int number) {
        return number == 0 ? 0 : doc.indexOf("## Promise " + number + ":");
    }

    /** A promise's part of the document; 0: all ahead of the promises. */
    private static String section(int number) {
        int from = begins(number);
        int to = begins(number + 1);
        return from < 0 ? "" : doc.substring(from, to < 0 ? doc.indexOf("## Not promised") : to);
    }

    private static String readDoc() {
        try {
            return Files.readString(DOC, StandardCharsets.UTF_8);
        } catch (IOException e) {
            System.out.println("no " + DOC + ": sentences are not looked up");
            return "";
        }
    }
}

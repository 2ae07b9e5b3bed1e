import java.io.IOException;
import java.nio.file.Files;
import java.nio.file.Path;
import java.util.HashSet;
import java.util.Set;

/**
 * Answers, looked at under one sentence of the document at a time. The words of a sentence are
 * quoted; where they stand in the document no more, that is told, so that a test does not
 * outlive unseen what it tests.
 */
final class Sentences {
    static final int BAD = -1, NO = -2, FULL = -3, NONE = -4;
    static final int HIGH = 0, LOW = 1, TURN = 2;
    static final long LAST = 1000000000000L;
    /** TIDES of 20 minutes: 0 turn, 1 to 9 HIGH, 10 turn, 11 to 19 LOW. */
    static final String PLAIN = "t20,1,1,2;";
    static final String ACT = "a0,1,1,55,55;";

    private final String document;
    private final Set<String> quoted = new HashSet<>();
    private String sentence = "";
    private int answers, answersHere, wrong;

    Sentences() {
        document = readDocument();
    }

    private static String readDocument() {
        Path path = Path.of("../shared/DOC.md");
        if (!Files.isReadable(path)) return null;
        try {
            return plainly(Files.readString(path).replace("```text", " ").replace("```", " "));
        } catch (IOException e) {
            return null;
        }
    }

    private static String plainly(String text) {
        return text.replaceAll("\\s+", " ").trim();
    }

    /** From here on answers stand under this sentence; a promise's number, or 0 for what all of them use. */
    void of(int promise, String words) {
        endSentence();
        sentence = (promise == 0 ? "Terms" : "Promise " + promise) + ": \"" + words + "\"";
        if (!quoted.add(sentence)) tell("is quoted twice");
        // No fault of the class, so told alone: a new wording must not keep good work from landing.
        if (document != null && !document.contains(plainly(words))) {
            System.out.println(sentence + " does not stand in the document");
        }
    }

    void due(String call, long got, long want) {
        answers++;
        answersHere++;
        if (got != want) tell(call + " answered " + got + ", due is " + want);
    }

    void due(String call, String got, String want) {
        answers++;
        answersHere++;
        if (!got.equals(want)) tell(call + " answered " + got + ", due is " + want);
    }

    private void tell(String what) {
        wrong++;
        System.out.println(sentence + " " + what);
    }

    private void endSentence() {
        if (!sentence.isEmpty() && answersHere == 0) tell("has no test");
        answersHere = 0;
    }

    void end() {
        endSentence();
        System.out.println(quoted.size() + " sentences, " + answers + " answers looked at, " + wrong + " wrong");
        if (wrong != 0) System.exit(1);
    }

    /** Puts a text behind THE TEXT, eight bytes a call. */
    static void put(TwoKings x, String text) {
        for (int i = 0; i < text.length(); i += 8) {
            String part = text.substring(i, Math.min(i + 8, text.length()));
            long v = 0;
            for (int k = 0; k < part.length(); k++) v = v << 8 | part.charAt(k);
            x.write(part.length(), v);
        }
    }

    static TwoKings withText(String text) {
        TwoKings x = new TwoKings();
        put(x, text);
        return x;
    }

    TwoKings island(String text) {
        TwoKings x = withText(text);
        if (x.lay() < 1) tell("has an island that can't be LAID: " + text);
        return x;
    }

    int faultOf(String text) {
        return withText(text).fault();
    }

    /** Who rules the minutes from m on, a sign each: H, L, T. */
    static String rulers(TwoKings x, long m, int n) {
        StringBuilder signs = new StringBuilder();
        for (int i = 0; i < n; i++) {
            int r = x.rules(m + i);
            signs.append(r == HIGH ? 'H' : r == LOW ? 'L' : r == TURN ? 'T' : '?');
        }
        return signs.toString();
    }
}

import java.io.IOException;
import java.io.UncheckedIOException;
import java.nio.file.Files;
import java.nio.file.Path;
import java.util.HashMap;
import java.util.Map;
import java.util.function.ToIntFunction;

/**
 * Tests that go by the document's sentences. Each names the words that it is for, which must stand in the document's
 * section, and begins with a new object; at the end no word of a section may be left without a test.
 */
final class Sentences {
    static final int LEAST = Integer.MIN_VALUE;
    static final int MOST = Integer.MAX_VALUE;
    private static final Path DOCUMENT = Path.of("../shared/DOC.md");
    private static final boolean THERE = Files.exists(DOCUMENT);
    /** Of the sheets of a busy object; the last one is lost. */
    private static final int[] FORM = {0, 1, 2, 0};
    private static final int[][] ITEMS = {{2, 1, 0, 1, 0}, {7, -8, 9}, {LEAST, 100000}, {}};

    private final String name;
    private final Check check = new Check();
    private final Map<String, String> sections = new HashMap<>();
    private final Map<String, boolean[]> quoted = new HashMap<>();
    private String sentence = "";

    Sentences(String name) {
        this.name = name;
        for (String part : documentText().split("(?m)^(?=## )")) {
            if (!part.startsWith("## ")) continue;
            int end = part.indexOf('\n');
            String heading = part.substring(3, end).replaceAll("^Promise (\\d+):.*", "$1").strip();
            // Neither a promise's signature nor what is a heading in the interface is a sentence.
            String text = part.substring(end).replaceAll("(?m)^`.*?`: |^Ahead of .*---- [^:\n]*(: |$)|^```.*$", "");
            sections.put(heading, text.replaceAll("\\s+", " "));
        }
        sections.forEach((heading, text) -> quoted.put(heading, new boolean[text.length()]));
    }

    /** Where there is no document, its words can't be looked for; what is due can be tested there too. */
    private static String documentText() {
        if (!THERE) {
            System.out.println("there is no " + DOCUMENT + ": the tests' sentences are not compared with it");
            return "";
        }
        try {
            return Files.readString(DOCUMENT);
        } catch (IOException e) {
            throw new UncheckedIOException(e);
        }
    }

    /** Begins the test of a sentence of a section (a promise's number, or a heading). */
    QuarterMasks of(String section, String words) {
        sentence = section + " \"" + words + "\": ";
        if (!THERE) return new QuarterMasks();
        String text = sections.getOrDefault(section, "");
        int at = text.indexOf(words);
        check.holds(sentence + "these words stand in the document", at >= 0);
        for (; at >= 0; at = text.indexOf(words, at + 1)) {
            for (int i = 0; i < words.length(); i++) quoted.get(section)[at + i] = true;
        }
        return new QuarterMasks();
    }

    void due(String call, long got, long want) {
        check.due(sentence + call, got, want);
    }

    void holds(String what, boolean holds) {
        check.holds(sentence + what, holds);
    }

    /** An edge that is still within: a call that tells no refusal. */
    void taken(String call, int got) {
        check.holds(sentence + call + " answered " + got + ", a refusal", got >= 0);
    }

    /** Four masks that hold 6, 6 dark, sheets of all forms and a lost one, more changes than are known, a finding. */
    static QuarterMasks busy(int finding) {
        QuarterMasks q = new QuarterMasks();
        for (int i = 0; i < 41; i++) q.fill(i % 4, i % 16, i / 4, 1, 1, 1);
        for (int m = 0; m < 4; m++) q.fill(m, 0, 0, 16, 16, m == 3 ? 1 : 0);
        q.fill(0, 4, 4, 4, 4, 1);
        q.fill(1, 0, 0, 8, 8, 1);
        q.fill(2, 6, 6, 1, 1, 1);
        q.fill(3, 9, 1, 1, 1, 0);
        for (int s = 0; s < 3; s++) {
            layAll(q, s, FORM[s], ITEMS[s]);
        }
        if (finding == 5) q.sheet(3, 0, -1);
        if (finding == 1) q.lose(3);
        return q;
    }

    static void layAll(QuarterMasks q, int s, int form, int... items) {
        q.sheet(s, form, items.length);
        for (int i = 0; i < items.length; i++) q.lay(s, form, i, items[i]);
    }

    /** Every square but a cell is mixed, no dark cell is a neighbour of another, the first is dark; mask 3 ends light. */
    static void chequer(QuarterMasks q, int mask) {
        q.fill(mask, 0, 0, 16, 16, 0);
        for (int x = 0; x < 16; x += 2) q.fill(mask, x, 0, 1, 1, 1);
        q.move(mask, 1, 1, 3);
        q.join(0, mask, 3, mask);
        for (int down = 2; down < 16; down *= 2) {
            q.move(mask, 0, down, 3);
            q.join(0, mask, 3, mask);
        }
        q.fill(3, 0, 0, 16, 16, 0);
    }

    /** The lots of 256 that a seed gives, by numbers that do not wrap. */
    static int[] lots(long seed, int n) {
        int[] cells = new int[n];
        long lot = seed;
        for (int i = 0; i < n; i++) {
            lot = Math.floorMod(1103515245L * lot + 12345, 1L << 32);
            cells[i] = (int) (lot / 65536 % 256);
        }
        return cells;
    }

    /** All that can be seen of a busy object but for the latest finding: masks, sheets, then each change undone. */
    private static String seen(QuarterMasks q) {
        StringBuilder told = new StringBuilder();
        told.append(q.digest());
        for (int s = 0; s < 4; s++) {
            for (int i = 0; i <= ITEMS[s].length; i++) told.append(' ').append(q.get(s, FORM[s], i));
            told.append(' ').append(q.lose(s));
        }
        for (int i = 0; i <= 41; i++) told.append(' ').append(q.back()).append(' ').append(q.digest());
        return told.toString();
    }

    /** A refusal that is no finding: a busy object is as it was, its latest finding too. */
    void refused(String call, ToIntFunction<QuarterMasks> act, int answer) {
        leaves(call, act, answer, 5, 5);
    }

    /** A finding: a busy object is as it was, but for count(8). */
    void found(String call, ToIntFunction<QuarterMasks> act, int answer, int finding) {
        leaves(call, act, answer, finding == 5 ? 1 : 5, finding);
    }

    private void leaves(String call, ToIntFunction<QuarterMasks> act, int answer, int before, int after) {
        QuarterMasks acted = busy(before);
        due(call + ": count(8) before it", acted.count(8), before);
        due(call, act.applyAsInt(acted), answer);
        due(call + ": count(8) after it", acted.count(8), after);
        check.holds(sentence + call + " changed something", seen(acted).equals(seen(busy(before))));
    }

    /** The words of these sections that no test has named are told, and count as wrong. */
    void end(String... covered) {
        for (String section : THERE ? covered : new String[0]) {
            String text = sections.getOrDefault(section, "");
            check.holds(section + " is a section of the document", !text.isEmpty());
            StringBuilder left = new StringBuilder();
            for (int i = 0; i < text.length(); i++) {
                boolean open = !quoted.get(section)[i] && Character.isLetterOrDigit(text.charAt(i));
                left.append(open ? text.charAt(i) : ' ');
            }
            String words = left.toString().replaceAll("\\s+", " ").strip();
            check.holds(section + " has words without a test: " + words, words.isEmpty());
        }
        check.end(name);
    }
}

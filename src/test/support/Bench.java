import java.io.IOException;
import java.nio.file.Files;
import java.nio.file.Path;
import java.util.ArrayList;
import java.util.List;
import java.util.function.Consumer;
import java.util.function.Supplier;

/** What the tests share: checks that say the promise's number, texts and ideals in one line, and the document's sentences. */
abstract class Bench {
    static final int NONE = -1;
    static final int NOTHING = 0;
    static final int INDEX = 1;
    static final int ARGUMENT = 2;
    static final int STATE = 3;
    static final int LEAST = Integer.MIN_VALUE;
    static final int MOST = Integer.MAX_VALUE;
    static final int[] HIGHEST = {0, 30, 12, 7, 5};
    static final int[] NO_POLYNOMIALS = {-1, 16, LEAST, MOST};
    static final int[] NO_IDEALS = {-1, 4, LEAST, MOST};

    private static final Path DOCUMENT = Path.of("../shared/DOC.md");
    private static final String SENTENCE_END = "(?<=[^. ]\\.|\\.\\))\\s+(?=[A-Z(])";

    static int promise = 0;
    private static int wrong = 0;
    private static String words = "";
    private static final List<String> quoted = new ArrayList<>();

    interface Act {
        void go();
    }

    // ---- checks ----

    static void check(boolean fine, String what) {
        if (!fine) {
            wrong++;
            System.out.println("promise " + promise + (words.isEmpty() ? "" : " (" + words + ")") + ": " + what);
        }
    }

    static void due(String what, long got, long want) {
        check(got == want, what + " answered " + got + ", due is " + want);
    }

    static void due(String what, boolean got, boolean want) {
        check(got == want, what + " answered " + got + ", due is " + want);
    }

    static void due(String what, String got, String want) {
        check(got.equals(want), what + " answered " + got + ", due is " + want);
    }

    /** Only these very classes count, so that what the machine throws (a class below one of them) is always wrong. */
    static void refused(String what, int want, Act call) {
        int got = NOTHING;
        try {
            call.go();
        } catch (RuntimeException e) {
            Class<?> c = e.getClass();
            got = c == IndexOutOfBoundsException.class ? INDEX : c == IllegalArgumentException.class ? ARGUMENT
                : c == IllegalStateException.class ? STATE : 4;
        }
        due(what + " (0 nothing, 1 Index, 2 Argument, 3 State, 4 another)", got, want);
    }

    /** The call is refused, and the object tells all the same as one that was never asked. */
    static void refusedInVain(String what, int want, Supplier<IdealWorks> make, Consumer<IdealWorks> call) {
        IdealWorks asked = make.get();
        refused(what, want, () -> call.accept(asked));
        due("what all calls tell behind a refused " + what, everything(asked), everything(make.get()));
    }

    /** What fails in the body is told with the promise's number and the document's words. */
    static void sentence(int number, String documentWords, Act body) {
        promise = number;
        words = documentWords;
        quoted.add(number + ":" + plain(documentWords));
        try {
            body.go();
        } catch (RuntimeException e) {
            check(false, "a call threw " + e + " unasked");
        }
        words = "";
    }

    static void finish(String fine) {
        System.out.println(wrong == 0 ? fine : wrong + " answers are not as due");
        if (wrong != 0) {
            System.exit(1);
        }
    }

    // ---- the document's sentences ----

    private static String plain(String s) {
        return s.replaceAll("\\s+", " ").trim();
    }

    private static String section(String document, String heading) {
        int at = document.indexOf("\n## " + heading);
        int from = at < 0 ? at : document.indexOf("\n", at + 1);
        int to = from < 0 ? from : document.indexOf("\n## ", from);
        return from < 0 ? "" : document.substring(from, to < 0 ? document.length() : to);
    }

    private static String document() {
        try {
            return Files.readString(DOCUMENT);
        } catch (IOException e) {
            check(false, "the document is not at " + DOCUMENT);
            return "";
        }
    }

    /** Each sentence of the promises from .. to has a test that quotes it, and each quotation stands in the document. */
    static void everyPromiseIsQuoted(int from, int to) {
        String document = document();
        for (int k = from; k <= to; k++) {
            promise = k;
            everySentenceIsQuoted(section(document, "Promise " + k + ":").replaceFirst("`[^`]*`: ", ""), k + ":");
        }
        everyQuotationStands(document);
    }

    static void everyTermIsQuoted() {
        String document = document();
        promise = 0;
        everySentenceIsQuoted(section(document, "Terms").replaceAll("```\\w*", " "), "");
        everyQuotationStands(document);
    }

    private static void everySentenceIsQuoted(String section, String number) {
        check(!section.isEmpty(), "the document has no such section");
        for (String sentence : plain(section).split(SENTENCE_END)) {
            boolean found = false;
            for (String q : quoted) {
                String quotation = q.substring(q.indexOf(':') + 1);
                found = found || (q.startsWith(number) && (sentence.contains(quotation) || quotation.contains(sentence)));
            }
            check(found, "no test of its own for: " + sentence);
        }
    }

    private static void everyQuotationStands(String document) {
        String terms = plain(section(document, "Terms"));
        for (String q : quoted) {
            promise = Integer.parseInt(q.substring(0, q.indexOf(':')));
            String quotation = q.substring(q.indexOf(':') + 1);
            String own = plain(section(document, "Promise " + promise + ":"));
            check(own.contains(quotation) || terms.contains(quotation), "the document does not say: " + quotation);
        }
    }

    // ---- objects ----

    static IdealWorks works(int p, int n, int order) {
        IdealWorks x = new IdealWorks();
        x.field(p, n, order);
        return x;
    }

    /** The bytes of s, at most twenty, are ready. */
    static void ready(IdealWorks x, String s) {
        int[] w = new int[5];
        for (int k = 0; k < s.length() && k < 20; k++) {
            w[k / 4] |= (s.charAt(k) & 255) << (24 - k % 4 * 8);
        }
        x.feed(w[0], w[1], w[2], w[3], w[4]);
    }

    static void text(IdealWorks x, String s) {
        for (int at = 0; at < s.length(); at += 20) {
            String part = s.substring(at, Math.min(s.length(), at + 20));
            ready(x, part);
            x.end(part.length());
        }
    }

    static void poly(IdealWorks x, int k, String s) {
        text(x, s);
        x.read(k);
    }

    static String output(IdealWorks x) {
        StringBuilder s = new StringBuilder();
        for (int i = 0; i < 3000 && x.output(i) != NONE; i++) {
            s.append((char) x.output(i));
        }
        return s.toString();
    }

    static String shown(IdealWorks x, int k) {
        x.print(k);
        return output(x);
    }

    /** Polynomial 15 is lost. */
    static void generate(IdealWorks x, int i, String... generators) {
        x.clear(i);
        for (String g : generators) {
            poly(x, 15, g);
            x.join(i, 15);
        }
    }

    /** Polynomial 14 is lost. */
    static String element(IdealWorks x, int i, int k) {
        x.element(i, k, 14);
        return shown(x, 14);
    }

    /** Polynomial 14 is lost. */
    static String elements(IdealWorks x, int i) {
        StringBuilder s = new StringBuilder();
        for (int k = 0; k < x.ideal(i, 1); k++) {
            s.append(k > 0 ? ", " : "").append(element(x, i, k));
        }
        return s.toString();
    }

    /** How many generators, told by joining one more: polynomial 15 is lost, and the ideal has one more unless it was full. */
    static int generators(IdealWorks x, int i) {
        poly(x, 15, "1");
        try {
            return x.join(i, 15) - 1;
        } catch (IllegalStateException e) {
            return 8;
        }
    }

    static String entries(IdealWorks x, int k) {
        StringBuilder s = new StringBuilder();
        for (int j = 0; x.entry(k, j, 4) != NONE && j < 50; j++) {
            s.append(x.entry(k, j, 4)).append(':');
            s.append(x.entry(k, j, 0)).append(',').append(x.entry(k, j, 1)).append(',');
            s.append(x.entry(k, j, 2)).append(',').append(x.entry(k, j, 3)).append(' ');
        }
        return s.toString();
    }

    static String point(IdealWorks x, int k, int n) {
        StringBuilder s = new StringBuilder();
        for (int v = 0; v < n; v++) {
            s.append(v > 0 ? "," : "").append(x.zero(k, v));
        }
        return s.toString();
    }

    /**
     * An object with something in every place: a fault, a proof, a dictionary, two zeros, polynomials, an output,
     * ideal 0 with a basis, ideal 1 without one, ideal 2 full, ideal 3 empty with a basis, a byte in hand and two ready.
     */
    static IdealWorks rich(int p, int n, int order) {
        IdealWorks x = works(7, 2, 0);
        generate(x, 0, "x^2-4", "y-3*x");
        x.zeros(0);
        x.basis(0, 2);
        x.dictionary(0);
        x.remainder(0, 15, 14);
        x.field(p, n, order);
        generate(x, 0, "x^2+3*y", "y^2-1");
        x.basis(0, 3);
        generate(x, 1, "x^" + HIGHEST[n], "y+2");
        generate(x, 2, "x", "x+1", "y", "x", "x", "x", "x", "x*y");
        x.basis(3, 1);
        poly(x, 0, "x^" + HIGHEST[n] + "+1");
        poly(x, 1, "x*y+5*y");
        poly(x, 2, "x+y+1");
        text(x, "x+$");
        try {
            x.read(3);
        } catch (IllegalArgumentException e) {
            x.print(1);
        }
        text(x, "x");
        ready(x, "+y");
        return x;
    }

    /** All that the calls tell, in fewer than 512 of them; it takes the text in hand and joins to the ideals on its way. */
    static String everything(IdealWorks x) {
        StringBuilder s = new StringBuilder();
        s.append(x.fault(0)).append(' ').append(x.fault(1)).append(' ').append(x.proved()).append(' ').append(output(x));
        for (int k = 0; k < 16; k++) {
            for (int i = 0; i < x.about(k, 0); i++) {
                s.append(" p").append(k);
                for (int what = 0; what <= 4; what++) {
                    s.append(' ').append(x.term(k, i, what));
                }
            }
        }
        for (int i = 0; i < 4; i++) {
            s.append(" i").append(i);
            for (int what = 0; what <= 3; what++) {
                s.append(' ').append(x.ideal(i, what)).append(' ').append(x.standard(i, what));
            }
        }
        for (int k = 0; k < 3; k++) {
            s.append(" d ").append(entries(x, k)).append(" z ").append(point(x, k, 3));
        }
        s.append(" b ").append(elements(x, 0)).append(" t ").append(x.end(2)).append(' ');
        s.append(x.read(13)).append(' ').append(shown(x, 13)).append(" g");
        for (int i = 0; i < 4; i++) {
            s.append(' ').append(x.basis(i, 2)).append(' ').append(x.standard(i, 1)).append(' ').append(x.standard(i, 2));
            s.append(' ').append(generators(x, i));
        }
        return s.append(" f ").append(fieldOf(x)).toString();
    }

    /** P - 1, the variables that are there, and how the order puts two monomials that tell which it is. */
    private static String fieldOf(IdealWorks x) {
        poly(x, 12, "-1");
        String s = shown(x, 12);
        for (int v = 0; v < 4; v++) {
            try {
                x.derive(12, v, 11);
                s += " " + v;
            } catch (IndexOutOfBoundsException e) {
                return s;
            }
        }
        poly(x, 12, "x*z+y^2");
        return s + " " + shown(x, 12);
    }
}

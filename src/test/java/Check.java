import java.io.IOException;
import java.io.UncheckedIOException;
import java.nio.file.Files;
import java.nio.file.Path;

/** Compares answers with those that are due, prints each that differs, and ends the test. */
final class Check {
    private static final Path DOCUMENT = Path.of("../shared/DOC.md");

    private final String test;
    private String document = "";
    private String part = "";
    private int all;
    private int wrong;

    Check(String test) {
        this.test = test;
    }

    void part(String name) {
        part = name;
    }

    /** What follows tests this sentence (or part of one), which must stand in the document as it is quoted. */
    void sentence(String quoted) {
        part = "\"" + quoted + "\"";
        holds("the quotation", document().contains(quoted));
    }

    /** Likewise, for words that stand in several places: a heading tells which one is meant. */
    void sentence(String heading, String quoted) {
        int from = document().indexOf(heading);
        int to = document().indexOf(" ## ", Math.max(0, from));
        part = "\"" + heading + "\": \"" + quoted + "\"";
        holds("the quotation", from >= 0 && document().substring(from, to).contains(quoted));
    }

    private String document() {
        try {
            document = document.isEmpty() ? Files.readString(DOCUMENT).replaceAll("\\s+", " ") : document;
            return document;
        } catch (IOException e) {
            throw new UncheckedIOException(e);
        }
    }

    void due(String call, long got, long want) {
        all++;
        if (got != want) {
            wrong++;
            System.out.println(part + ": " + call + " answered " + got + ", due is " + want);
        }
    }

    void holds(String what, boolean is) {
        all++;
        if (!is) {
            wrong++;
            System.out.println(part + ": " + what + " does not hold");
        }
    }

    void end() {
        System.out.println(test + ": " + (all - wrong) + " of " + all + " answers are as due");
        if (wrong != 0 || all == 0) {
            System.exit(1);
        }
    }
}

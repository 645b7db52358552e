import java.util.ArrayList;
import java.util.List;

/** The sentences of ../shared/DOC.md, each with its boundary cases. */
final class Sentences {
    private final List<Case> cases = new ArrayList<>();

    private Sentences() { }

    static List<Case> all() {
        Sentences s = new Sentences();
        SentencesOfTheWeb.tell(s);
        SentencesOfTexts.tell(s);
        SentencesOfOdds.tell(s);
        SentencesOfCutOff.tell(s);
        SentencesOfOrders.tell(s);
        SentencesOfDraws.tell(s);
        SentencesOfSheets.tell(s);
        return s.cases;
    }

    /** The words are the document's own, of that promise or of its Terms; the edge is one that they name. */
    Case of(int promise, String words, String edge, Runnable test) {
        Case c = new Case(promise, words, edge, test);
        cases.add(c);
        return c;
    }

    /** How many answers were wrong; one that threw is wrong as well. */
    static int wrongOf(Case c) {
        int before = Check.wrong();
        Check.under(c + ": ");
        try {
            c.test.run();
        } catch (RuntimeException | StackOverflowError e) {
            Check.that("threw " + (e.getCause() == null ? e : e.getCause()), false);
        }
        Check.under("");
        return Check.wrong() - before;
    }

    /** For BrokenTest, in a class loader whose FindingsWeb is broken. */
    static int wrongOfBroken(int number) {
        Check.beQuiet();
        return wrongOf(all().get(number));
    }

    /** A boundary case: what names it, what shows that it holds, what would break it alone. */
    static final class Case {
        final int promise;
        final String words;
        final String edge;
        final Runnable test;
        /** Ways to break the class: an anchor, and what stands behind it, and what would stand there. */
        final List<String[]> broken = new ArrayList<>();

        Case(int promise, String words, String edge, Runnable test) {
            this.promise = promise;
            this.words = words;
            this.edge = edge;
            this.test = test;
        }

        /** The test must notice, if behind anchor the first such words of the class's source become others. */
        Case breaks(String anchor, String words, String others) {
            broken.add(new String[] {anchor, words, others});
            return this;
        }

        @Override
        public String toString() {
            return "promise " + promise + ", \"" + words + "\", " + edge;
        }
    }
}

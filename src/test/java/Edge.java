import java.util.ArrayList;
import java.util.List;

/** The boundary cases of the document: a promise's number, words of one sentence, and the test of that sentence. */
final class Edge {
    interface Body {
        void look();
    }

    private static final class Quote {
        final int promise;
        final String words;

        Quote(int promise, String words) {
            this.promise = promise;
            this.words = words;
        }
    }

    private static final List<Quote> QUOTES = new ArrayList<>();

    private Edge() {
    }

    static void of(int promise, String words, Body body) {
        QUOTES.add(new Quote(promise, words));
        Check.about("promise " + promise + ", '" + words + "': ");
        int before = Check.checks();
        try {
            body.look();
        } catch (RuntimeException e) {
            Check.due("a call", "throws." + e.getClass().getSimpleName(), "an answer");
        }
        Check.due("the test looks at something", Check.checks() > before, true);
        Check.about("");
    }

    /** Every quote stands in the document, and every sentence of the document that can be tested is quoted. */
    static void compareWith(Document document) {
        for (Quote quote : QUOTES) {
            Check.due("the document has, for promise " + quote.promise + ", the words '" + quote.words + "'",
                    document.has(quote.promise, quote.words), true);
        }
        for (Document.Sentence sentence : document.sentences()) {
            boolean quoted = false;
            for (Quote quote : QUOTES) {
                quoted = quoted || sentence.isOf(quote.promise) && sentence.text.contains(quote.words);
            }
            Check.due("a test quotes '" + sentence.text + "' (" + sentence.section + ")", quoted, true);
        }
        for (String range : document.ranges()) {
            boolean quoted = false;
            for (Quote quote : QUOTES) {
                quoted = quoted || quote.words.contains(range);
            }
            Check.due("a test quotes '" + range + "'", quoted, true);
        }
    }

    static int count() {
        return QUOTES.size();
    }
}

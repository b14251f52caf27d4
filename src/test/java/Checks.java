/**
 * Collects the calls whose answer is not the one that is due. Where it is made for a text of the
 * document, each test quotes the sentence that it is for, and every word must be quoted by one.
 */
final class Checks {
    /** A test of one sentence. */
    interface Test {
        void run(Checks checks);
    }

    private static final int MOST_TOLD = 20;

    private final String name;
    private final String text;
    private final boolean[] quoted;
    private String sentence = "";
    private int made;
    private int wrong;

    private Checks(String name, String text) {
        this.name = name;
        this.text = text;
        this.quoted = new boolean[text.length()];
    }

    static Checks ofPromise(int number) {
        return new Checks("promise " + number, Document.inOneLine(Document.promise(number)));
    }

    static Checks ofTerm(String opening) {
        return new Checks("term " + opening, Document.term(opening));
    }

    static Checks of(String name) {
        return new Checks(name, "");
    }

    void sentence(String quote, Test test) {
        sentence = quote;
        markQuoted(quote);
        test.run(this);
        sentence = "";
    }

    Store store(int segments) {
        return new Store(this, segments);
    }

    Store closedStore(int segments) {
        Store x = store(segments);
        x.crash(0).due(0);
        return x;
    }

    void due(String what, long got, long want) {
        made++;
        if (got != want) {
            tell(what + " answered " + got + ", due is " + want);
        }
    }

    void tell(String what) {
        wrong++;
        if (wrong <= MOST_TOLD) {
            System.out.println(name + ", \"" + sentence + "\": " + what);
        }
    }

    boolean anyWrong() {
        return wrong != 0;
    }

    /** Ends the test's program with exit code 1 if there was a wrong answer. */
    void end() {
        tellWhatIsNotQuoted();
        System.out.println(name + ": " + made + " answers, " + wrong + " not as due");
        if (wrong != 0) {
            System.exit(1);
        }
    }

    private void markQuoted(String quote) {
        int at = text.indexOf(quote);
        if (at < 0) {
            tell("this does not stand in the document");
        }
        while (at >= 0) {
            for (int i = at; i < at + quote.length(); i++) {
                quoted[i] = true;
            }
            at = text.indexOf(quote, at + 1);
        }
    }

    private void tellWhatIsNotQuoted() {
        StringBuilder left = new StringBuilder();
        for (int i = 0; i < text.length(); i++) {
            left.append(quoted[i] ? ' ' : text.charAt(i));
        }
        if (left.chars().anyMatch(Character::isLetterOrDigit)) {
            tell("no test is for these words: " + Document.inOneLine(left.toString()));
        }
    }
}

import java.util.Set;

/**
 * Tests named by the sentences of ../shared/DOC.md that name a boundary case: each is told by its own words, which
 * must stand in the document, and by the promise at which it is looked at.
 */
final class Edges {
    private static final Set<String> WITHOUT_EDGES = Set.of("", "What it is", "The public face", "Not promised");

    private final Check c;
    private final Document document = new Document();
    private String section = "";
    private String words = "";
    private int sentences;
    private int tests;

    private Edges(Check check) {
        c = check;
    }

    static void run(Check check) {
        Edges edges = new Edges(check);
        ViewEdges.tell(edges);
        TapeEdges.tell(edges);
        VisitEdges.tell(edges);
        OutcomeEdges.tell(edges);
        ShelfEdges.tell(edges);
        PromiseEdges.tell(edges);
        edges.lookForGaps();
        System.out.println(edges.sentences + " sentences of DOC.md name a boundary case, " + edges.tests + " tests hold them");
    }

    void section(String name) {
        section = name;
    }

    void promise(int number) {
        section = "Promise " + number;
    }

    /** A sentence that names a boundary case; the tests that follow are named by it. */
    void sentence(String quoted) {
        words = quoted;
        sentences++;
        quote(quoted);
    }

    /** A sentence that names none. */
    void plain(String quoted) {
        quote(quoted);
    }

    void at(int promise, String... lines) {
        tests++;
        String call = document.callOf(promise);
        c.test(section + ": \"" + words + "\" at promise " + promise + " (" + call + ")", () -> {
            Script script = new Script(c, String.join("\n", lines));
            c.holds("the test looks at " + call, script.names().contains(call));
            script.play();
        });
    }

    /** A sentence of a promise's own section, and its test. */
    void edge(String quoted, String... lines) {
        sentence(quoted);
        at(Integer.parseInt(section.substring("Promise ".length())), lines);
    }

    private void quote(String quoted) {
        if (!document.quote(section, quoted)) {
            c.test(section + ": \"" + quoted + "\" stands once in DOC.md", () -> c.holds(quoted, false));
        }
    }

    private void lookForGaps() {
        c.test("no sentence of DOC.md is left out", () -> {
            c.due("promises", document.promises(), 61);
            for (String name : document.sections()) {
                if (!WITHOUT_EDGES.contains(name)) {
                    c.holds(name + ": somebody quotes \"" + document.unquoted(name) + "\"", document.unquoted(name).isEmpty());
                }
            }
        });
    }
}

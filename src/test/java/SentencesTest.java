import java.nio.file.Files;
import java.util.ArrayList;
import java.util.List;

/** Promises 1 to 35: a test for each sentence of the document, and a look whether a sentence has none. */
public final class SentencesTest {
    private static final Class<?>[] EDGES = {Edges01To10.class, Edges11To17.class, Edges18To28.class, Edges29To35.class};
    private static final Class<?>[] SENTENCES = {
        Sentences01To10.class, Sentences11To17.class, Sentences18To28.class, Sentences29To35.class, Changes.class};
    /** Which call stands below which heading. */
    private static final String[] HEADINGS = {
        "==== 1", "==== 2", "==== 3",
        "Ahead of the calls cow, taster, milk, at, of, notices, type, herd, count the interface says: ---- 1 cows, tasters.",
        "Ahead of the calls answer, drink, forget, bear, drift, undo, seed the interface says: ---- what is done.",
        "Ahead of the calls tells, fewest, next, once, halves, likely, noticed, single, share, image, restore the interface says: ----",
        "Ahead of the calls fits, slips, film, sheet, drop, item, copy the interface says: ----"};

    public static void main(String[] args) throws Exception {
        for (Class<?> holder : SENTENCES) {
            Edges.run(holder);
        }
        if (Files.exists(Document.PLACE)) {
            document(new Document());
        }
        Edges.end("SentencesTest");
    }

    private static void document(Document document) {
        List<String> wrong = new ArrayList<>();
        for (Class<?> holder : EDGES) {
            wrong.addAll(document.claimAll(holder));
        }
        for (Class<?> holder : SENTENCES) {
            wrong.addAll(document.claimAll(holder));
        }
        for (String heading : HEADINGS) {
            document.pass(heading);
        }
        for (String words : document.unclaimed()) {
            wrong.add("no test stands for " + words);
        }
        for (String why : wrong) {
            Edges.fail("the document", why);
        }
    }
}

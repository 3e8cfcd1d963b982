import java.io.IOException;
import java.util.List;

/** Each sentence of the document that names a boundary has a test of its own. */
public final class EdgesTest {
    public static void main(String[] args) throws IOException {
        Sentences sentences = new Sentences();
        Checks checks = new Checks();
        List<Edges> chapters = List.of(new TermEdges(sentences, checks), new DayEdges(sentences, checks),
                new SessionEdges(sentences, checks), new FormEdges(sentences, checks), new RecordEdges(sentences, checks),
                new PlanEdges(sentences, checks), new LineEdges(sentences, checks));
        for (Edges chapter : chapters) {
            chapter.test();
        }
        checks.due("sentences without a test", List.of(), sentences::untested);
        checks.end("EdgesTest");
    }
}

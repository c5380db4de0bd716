/** Each boundary case that the document names, told with the sentence that it stands for; "list" prints them all. */
public final class BoundaryTest {
    public static void main(String[] args) throws Exception {
        Boundaries b = new Boundaries(args.length > 0 && args[0].equals("list"));
        new ValleyBoundaries(b).all();
        new RulesBoundaries(b).all();
        new CriesBoundaries(b).all();
        new QuestionsBoundaries(b).all();
        new MorningsBoundaries(b).all();
        new ReportsBoundaries(b).all();
        new HostBoundaries(b).all();
        new ActsBoundaries(b).all();
        b.end();
    }
}

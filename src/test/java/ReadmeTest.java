/** The example of README.md, call by call: what it says there is what comes out. */
public final class ReadmeTest {
    public static void main(String[] args) {
        Check.runAll(ReadmeTest.class);
    }

    static void theExampleAnswersAsItSays() {
        EarlyCut x = new EarlyCut();
        int source = x.file(1L);
        int compile = x.step(~3L, 0L);
        int link = x.step(-1L, 0L);
        Check.due("readsFile", x.readsFile(compile, source), true);
        Check.due("readsPart", x.readsPart(link, compile, 0), true);

        Check.due("first build", x.build(1 << link), 2);
        x.set(source, true, 2L);
        Check.due("second build", x.build(1 << link), 1);
        Check.due("state of link", x.state(link), 1);
        Check.due("cause of compile", x.cause(compile), 2);
        x.set(source, true, 1L);
        Check.due("third build", x.build(1 << link), 0);
        Check.due("state of compile", x.state(compile), 6);

        x.set(source, false, 0L);
        Check.due("fourth build", x.build(1 << link), 1);
        Check.due("state of compile without its file", x.state(compile), 3);
        Check.due("why compile failed", x.failed(compile, 0), 0);
        Check.due("state of link without compile", x.state(link), 5);
        Check.dueThrow("output of compile", () -> x.output(compile, 0), IllegalStateException.class);
        Check.due("output of link", x.output(link, 1), 1055L);
    }
}

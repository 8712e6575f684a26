/** The example of README.md: each call answers what stands beside it there. */
public final class ExampleTest {
    private static final Check CHECK = new Check();

    private ExampleTest() {
    }

    public static void main(String[] args) {
        CHECK.begin("README.md, How to use it");
        SubscriberLines lines = new SubscriberLines(2);
        CHECK.yes("allow(1, 77)", lines.allow(1, 77));
        CHECK.yes("dial(0, 1, 77)", lines.dial(0, 1, 77));
        for (int i = 0; i < 10; i++) {
            lines.tick();
        }
        CHECK.same("state(0)", lines.state(0), 3);
        CHECK.same("address(0)", lines.address(0), 1);
        CHECK.yes("send(0, 1, 55)", lines.send(0, lines.address(0), 55));
        CHECK.yes("core(1, 99)", lines.core(1, 99));
        lines.tick();
        lines.tick();
        CHECK.same("cored(0)", lines.cored(0), 55);
        CHECK.same("source(0)", lines.source(0), 1);
        CHECK.same("heard(0, 0)", lines.heard(0, 0), 99);
        CHECK.yes("hangup(0)", lines.hangup(0));
        CHECK.same("state(0)", lines.state(0), 0);
        CHECK.finish();
    }
}

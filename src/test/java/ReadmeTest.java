import java.nio.file.Files;
import java.nio.file.Path;

/** The example of README.md: its calls, and what its comments say of them. */
public final class ReadmeTest {
    public static void main(String[] args) throws Exception {
        example();
        sameCallsAsTold();
        Check.end();
    }

    private static void example() {
        ChannelNet net = new ChannelNet();
        Check.same("the first channel", net.open(0, 1, 1000, 500), 0);
        Check.same("the second channel", net.open(1, 2, 2000, 0), 1);
        net.fees(1, 10, 10000, 5);
        long lock = net.tell(2, 77L);
        int payment = net.pay(0, 2, 100, lock, 20);
        Check.same("with the fee of node 1", net.route(0, 2, 100), 111);
        while (net.step(payment) != ChannelNet.DONE) { }
        Check.same("what became of it", net.payment(payment, 1), ChannelNet.KEPT);
        Check.same("node 1 has more", net.state(0, net.channel(0, 1), 1), 611);
        net.publish(0, 0, 0);
        Check.same("all the coins of the channel", net.punish(0), 999000);
    }

    private static void sameCallsAsTold() throws Exception {
        String own = Files.readString(Path.of("src/test/java/ReadmeTest.java"));
        String told = Files.readString(Path.of("README.md"));
        int begin = told.indexOf("```java\n") + "```java\n".length();
        int lines = 0;
        for (String line : told.substring(begin, told.indexOf("```", begin)).split("\n")) {
            String call = line.replaceAll("//.*", "").replaceAll(";\\s*$", "").trim();
            Check.yes("README.md tells " + call + ": a test of it", own.contains(call));
            lines++;
        }
        Check.yes("an example in README.md", lines > 3);
    }
}

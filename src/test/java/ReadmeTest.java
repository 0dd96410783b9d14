import java.io.IOException;
import java.nio.file.Files;
import java.nio.file.Path;

/** What README.md says of the use of the class: its example, line by line, and its text of rules. */
final class ReadmeTest {
    public static void main(String[] args) throws IOException {
        String readme = Files.readString(Path.of("README.md"));
        example(readme);
        rules(readme);
        Check.end();
    }

    /** What stands in the first block of this kind. */
    private static String block(String readme, String kind) {
        String begin = "```" + kind + "\n";
        int from = readme.indexOf(begin) + begin.length();
        return readme.substring(from, readme.indexOf("```", from));
    }

    private static void example(String readme) {
        FriendLine line = new FriendLine();
        int ann = line.volunteer(2);
        int ben = line.volunteer(0);
        int basics = line.step(FriendLine.NONE, 30);
        Check.yes("learn", line.learn(ann, basics));
        Check.same("offer of ann", line.offer(ann, 0b000111, 3), 0);
        Check.same("offer of ben", line.offer(ben, 0b000110, 2), 1);
        Check.same("shifts()", line.shifts(), 2);
        Check.same("lacks(0)", line.lacks(0), 0b111001);
        int call = line.call(75, 4, 9, 0, 20);
        Check.same("go()", line.go(), 1);
        int taker = line.told(call, 2);
        Check.same("told(call, 2)", taker, ann);
        Check.yes("clock(1)", line.clock(1));
        Check.same("due(taker)", line.due(taker), 1);
        Check.same("due(ben)", line.due(ben), 0);
        String told = block(readme, "java");
        for (String used : new String[] {"line.volunteer(2);", "line.volunteer(0);", "line.step(FriendLine.NONE, 30);",
            "line.learn(ann, basics);", "line.offer(ann, 0b000111, 3);", "line.offer(ben, 0b000110, 2);",
            "int kept = line.shifts();                 // 2:", "line.call(75, 4, 9, 0, 20);", "line.go();",
            "line.told(call, 2);", "line.clock(1);"}) {
            Check.yes("README has " + used, told.contains(used));
        }
    }

    private static void rules(String readme) {
        FriendLine line = new FriendLine();
        Check.fine(line, block(readme, "text"));
        Check.same("rules of README", line.count(8), 4);
    }
}

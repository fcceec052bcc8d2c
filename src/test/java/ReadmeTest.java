import java.io.IOException;
import java.nio.ByteBuffer;
import java.nio.charset.StandardCharsets;
import java.nio.file.Files;
import java.nio.file.Path;
import java.util.Arrays;

/** The examples of README.md, and that they stand there as they are tried here. */
public final class ReadmeTest {
    private static int wrong;

    public static void main(String[] args) throws IOException {
        JoinedTrees trees = new JoinedTrees();
        changes(trees);
        candidates(trees);
        earlier(trees);
        saves(trees);
        standsHere();
        System.out.println(wrong == 0 ? "the examples of README.md are right" : wrong + " wrong");
        System.exit(wrong == 0 ? 0 : 1);
    }

    private static void due(Object due, Object got) {
        if (!due.equals(got)) {
            wrong++;
            System.out.println("due " + due + ", got " + got);
        }
    }

    static void give(JoinedTrees trees, String... arguments) {
        for (String argument : arguments) {
            byte[] bytes = argument.getBytes(StandardCharsets.ISO_8859_1);
            for (int at = 0; at < bytes.length; at += 20) {
                ByteBuffer twenty = ByteBuffer.wrap(Arrays.copyOfRange(bytes, at, at + 20));
                trees.feed(twenty.getInt(), twenty.getInt(), twenty.getInt(), twenty.getInt(), twenty.getInt());
            }
            trees.end((20 - bytes.length % 20) % 20);
        }
    }

    static String shown(JoinedTrees trees, int replica) {
        int length = trees.text(replica, 0);
        ByteBuffer out = ByteBuffer.allocate(length + 8);
        for (int i = 0; 8 * i < length; i++) {
            out.putLong(trees.out(i));
        }
        return new String(out.array(), 0, length, StandardCharsets.ISO_8859_1);
    }

    private static void changes(JoinedTrees trees) {
        give(trees, "list");
        int list = trees.set(0, 0, 7, 0);
        trees.insert(0, list, 0, 3, 42);
        give(trees, "read", "{ \"a\": [true, null], \"b\": \"c\" }");
        trees.read(0, 0);
        trees.commit(0);
        due(1, trees.join(0, 1));
        due("{\"list\":[42],\"read\":{\"a\":[true,null],\"b\":\"c\"}}", shown(trees, 1));
    }

    private static void candidates(JoinedTrees trees) {
        give(trees, "n");
        trees.set(0, 0, 3, 7);
        give(trees, "n");
        trees.set(1, 0, 3, 8);
        trees.commit(0);
        trees.commit(1);
        trees.join(0, 1);
        trees.join(1, 0);
        give(trees, "n");
        due(2L, trees.candidate(0, 0, -1, 0, 4));
        give(trees, "n");
        due(8L, trees.candidate(0, 0, -1, 0, 2));
        give(trees, "list[0]");
        due(16, trees.find(0));
    }

    private static void earlier(JoinedTrees trees) {
        due(1, trees.look(0, 0, 1));
        due("{\"list\":[42],\"read\":{\"a\":[true,null],\"b\":\"c\"}}", shown(trees, 0));
        due(3, trees.look(0, -1, 0));
    }

    private static void saves(JoinedTrees trees) {
        trees.save(0);
        trees.harm(3, 0);
        try {
            due("no answer", trees.load(2));
        } catch (ArithmeticException e) {
            trees.harm(3, 0);
        }
        due(3, trees.load(2));
        due("{\"list\":[42],\"n\":8,\"read\":{\"a\":[true,null],\"b\":\"c\"}}", shown(trees, 2));
    }

    /** Each line of Java in README.md is one of this file, or a part of one (its answer may be looked at here). */
    private static void standsHere() throws IOException {
        String here = Files.readString(Path.of("src/test/java/ReadmeTest.java"));
        boolean isJava = false;
        for (String line : Files.readAllLines(Path.of("README.md"))) {
            if (line.startsWith("```")) {
                isJava = line.equals("```java");
            } else if (isJava) {
                int comment = line.indexOf("//");
                String code = (comment < 0 ? line : line.substring(0, comment)).strip().replaceFirst(";$", "");
                due(true, here.contains(code) ? (Object) true : code);
            }
        }
    }
}

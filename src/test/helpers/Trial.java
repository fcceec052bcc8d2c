import java.nio.charset.StandardCharsets;
import java.util.NoSuchElementException;

/** What the tests have in common: an object that is tried, answers that are due, and bytes that are given. */
class Trial {
    static final Class<?> BAD = IllegalArgumentException.class;
    static final Class<?> MISSING = NoSuchElementException.class;
    static final Class<?> REFUSED = IllegalStateException.class;
    static final Class<?> FULL = IndexOutOfBoundsException.class;
    static final Class<?> DAMAGED = ArithmeticException.class;

    static JoinedTrees x;
    private static int wrong;
    private static String name;

    interface Call {
        long answer();
    }

    interface Step {
        void run();
    }

    static void test(String named, Step test) {
        name = named;
        x = new JoinedTrees();
        test.run();
    }

    static void conclude(String whenRight) {
        System.out.println(wrong == 0 ? whenRight : wrong + " answers are wrong");
        System.exit(wrong == 0 ? 0 : 1);
    }

    static void due(long due, Call call) {
        check(String.valueOf(due), answerOf(call));
    }

    static void due(Class<?> due, Call call) {
        check("throws " + due.getName(), answerOf(call));
    }

    /** The answer, or what is thrown. */
    static String answerOf(Call call) {
        try {
            return String.valueOf(call.answer());
        } catch (RuntimeException e) {
            return "throws " + e.getClass().getName();
        }
    }

    static void check(String due, String got) {
        if (!due.equals(got)) {
            wrong++;
            System.out.println(name + "," + lines() + ": due " + due + ", got " + got);
        }
    }

    /** The lines of the test that the call stands in, the innermost first. */
    private static String lines() {
        StringBuilder lines = new StringBuilder();
        for (StackTraceElement element : new Throwable().getStackTrace()) {
            String method = element.getMethodName();
            if (!element.getClassName().equals("Trial") && !method.equals("main") && !method.startsWith("lambda")) {
                lines.append(" line ").append(element.getLineNumber());
            }
        }
        return lines.toString();
    }

    static byte[] bytes(String text) {
        return text.getBytes(StandardCharsets.ISO_8859_1);
    }

    static void feedAll(byte[] bytes) {
        for (int fed = 0; fed < bytes.length; fed += 20) {
            int[] five = new int[5];
            for (int i = 0; i < 20 && fed + i < bytes.length; i++) {
                five[i / 4] |= (bytes[fed + i] & 255) << 24 - 8 * (i % 4);
            }
            x.feed(five[0], five[1], five[2], five[3], five[4]);
        }
    }

    static int give(String... texts) {
        int given = 0;
        for (String text : texts) {
            byte[] bytes = bytes(text);
            feedAll(bytes);
            given = x.end((20 - bytes.length % 20) % 20);
        }
        return given;
    }

    static int setAt(int r, int object, String key, int sort, long n) {
        give(key);
        return x.set(r, object, sort, n);
    }

    static int setString(int r, int object, String key, String string) {
        give(key, string);
        return x.set(r, object, 4, 0);
    }

    static int readAt(int r, int object, String key, String json) {
        give(key, json);
        return x.read(r, object);
    }

    static int spliceAt(int r, int object, int i, int n, String string) {
        give(string);
        return x.splice(r, object, i, n);
    }

    static int eraseAt(int r, int object, String key) {
        give(key);
        return x.erase(r, object, -1);
    }

    static int addAt(int r, int object, String key, long n) {
        give(key);
        return x.add(r, object, -1, n);
    }

    static long candidateAt(int r, int object, String key, int c, int what) {
        give(key);
        return x.candidate(r, object, -1, c, what);
    }

    static int findAt(int r, String path) {
        give(path);
        return x.find(r);
    }

    static long harmed(int i, int bit) {
        x.harm(i, bit);
        return 0;
    }

    /** OUT, as far as out shows it. */
    static String outText() {
        StringBuilder text = new StringBuilder();
        int length = Math.min(x.told(6), 8 * 8192);
        for (int i = 0; i < length; i += 8) {
            long eight = x.out(i / 8);
            for (int k = 0; k < 8 && i + k < length; k++) {
                text.append((char) (eight >> 56 - 8 * k & 255));
            }
        }
        return text.toString();
    }

    static void shows(String due, int r, int object) {
        due(due.length(), () -> x.text(r, object));
        check(due, outText());
    }

    /** BYTES of each number. */
    static String bytesText(int... numbers) {
        StringBuilder text = new StringBuilder();
        for (int number : numbers) {
            int rest = number;
            while (rest > 127) {
                text.append((char) (rest & 127 | 128));
                rest >>= 7;
            }
            text.append((char) rest);
        }
        return text.toString();
    }

    /** With the four bytes behind it, by the polynomial's own words. */
    static String withCrc(String body) {
        int crc = -1;
        for (int i = 0; i < body.length(); i++) {
            crc ^= body.charAt(i);
            for (int bit = 0; bit < 8; bit++) {
                crc = (crc & 1) != 0 ? crc >>> 1 ^ 0xEDB88320 : crc >>> 1;
            }
        }
        crc = ~crc;
        return body + (char) (crc >>> 24) + (char) (crc >>> 16 & 255) + (char) (crc >>> 8 & 255) + (char) (crc & 255);
    }

    static void saves(String body, int r) {
        String due = withCrc(body);
        due(due.length(), () -> x.save(r));
        check(due, outText());
        due(1, () -> x.told(7));
    }

    /** Turns bits over till OUT is that. */
    static void forge(String due) {
        String now = outText();
        for (int i = 0; i < now.length(); i++) {
            for (int bit = 0; bit < 8; bit++) {
                if (((now.charAt(i) ^ due.charAt(i)) >> bit & 1) != 0) {
                    x.harm(i, bit);
                }
            }
        }
        check(due, outText());
    }
}

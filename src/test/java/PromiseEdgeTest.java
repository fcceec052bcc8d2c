/** Each sentence of the promises 1 to 29 that names a boundary: the last input within it and the first one beyond it. */
public final class PromiseEdgeTest extends Edges {
    private static final int[] SORTS_BEYOND = {-1, 9, Integer.MIN_VALUE, Integer.MAX_VALUE};
    /** The BYTES of the least long. */
    private static final String LEAST = "\u00ff".repeat(9) + "\u0001";

    public static void main(String[] args) {
        test("1 a new object", PromiseEdgeTest::newObject);
        test("2 feed", PromiseEdgeTest::feed);
        test("3 end", PromiseEdgeTest::end);
        test("4 set", PromiseEdgeTest::set);
        test("5 put", PromiseEdgeTest::put);
        test("6 insert", PromiseEdgeTest::insert);
        test("7 splice", PromiseEdgeTest::splice);
        test("8 erase", PromiseEdgeTest::erase);
        test("9 add", PromiseEdgeTest::add);
        test("10 read, signs", PromiseEdgeTest::readSigns);
        test("10 read, STRINGS and KEYS", PromiseEdgeTest::readStrings);
        test("10 read, depth and number", PromiseEdgeTest::readMuch);
        test("10 read, order", PromiseEdgeTest::readOrder);
        test("10 read, again and again", PromiseEdgeTest::readAgain);
        test("11 commit", PromiseEdgeTest::commit);
        test("12 drop", PromiseEdgeTest::drop);
        test("13 send", PromiseEdgeTest::send);
        test("14 join", PromiseEdgeTest::join);
        test("15 look", PromiseEdgeTest::look);
        test("16 object", PromiseEdgeTest::object);
        test("17 key", PromiseEdgeTest::key);
        test("18 candidate", PromiseEdgeTest::candidate);
        test("19 letter", PromiseEdgeTest::letter);
        test("20 element", PromiseEdgeTest::element);
        test("21 index", PromiseEdgeTest::index);
        test("22 find", PromiseEdgeTest::find);
        test("23 text", PromiseEdgeTest::text);
        test("24 save", PromiseEdgeTest::save);
        test("25 load", PromiseEdgeTest::load);
        test("25 load, numbers of CHANGES", PromiseEdgeTest::loadNumbers);
        test("25 load, other CHANGES", PromiseEdgeTest::forged);
        test("26 harm", PromiseEdgeTest::harm);
        test("27 out", PromiseEdgeTest::out);
        test("28 count", PromiseEdgeTest::count);
        test("29 told", PromiseEdgeTest::told);
        conclude("the edges of the promises hold");
    }

    private static Step sharedWith(String... given) {
        return () -> {
            shared();
            give(given);
        };
    }

    private static void newObject() {
        for (int r = 0; r < 8; r++) {
            int replica = r;
            idle(0, PromiseEdgeTest::nothing, () -> x.count(replica, 0));
            within(8 + r, PromiseEdgeTest::nothing, () -> setAt(replica, 0, "k", 0, 0));
            due(1, () -> x.commit(replica));
        }
        beyondLeaving(BAD, PromiseEdgeTest::nothing, () -> x.count(8, 0));
        beyondLeaving(BAD, PromiseEdgeTest::nothing, () -> x.count(-1, 0));
    }

    // ---------------------------------------------------------------- ARGUMENTS

    private static void feedTimes(int times) {
        for (int i = 0; i < times; i++) {
            x.feed(0x20202020, 0x20202020, 0x20202020, 0x20202020, 0x20202020);
        }
    }

    private static void giveBlanks(int length) {
        give(" ".repeat(length));
    }

    private static void feed() {
        Call more = () -> x.feed(-1, -1, -1, -1, -1);
        within(20, PromiseEdgeTest::nothing, more);
        within(8180, () -> feedTimes(408), more);
        beyondLeaving(FULL, () -> feedTimes(409), more);
        // with ARGUMENTS: 8192 bytes in all, in one, in two
        within(20, () -> giveBlanks(8172), more);
        beyondLeaving(FULL, () -> giveBlanks(8173), more);
        within(20, () -> {
            giveBlanks(4000);
            giveBlanks(4172);
        }, more);
        beyondLeaving(FULL, () -> {
            giveBlanks(4000);
            giveBlanks(4173);
        }, more);
        within(40, () -> {
            giveBlanks(4000);
            giveBlanks(4152);
            feedTimes(1);
        }, more);
        beyondLeaving(FULL, () -> {
            giveBlanks(4000);
            giveBlanks(4153);
            feedTimes(1);
        }, more);
        // the first of two that went, and those that were taken, make room
        within(20, () -> {
            giveBlanks(20);
            giveBlanks(4000);
            giveBlanks(4160);
        }, more);
        within(20, () -> {
            giveBlanks(8180);
            answerOf(() -> x.find(0));
        }, more);
        within(20, () -> {
            giveBlanks(20);
            giveBlanks(8160);
            answerOf(() -> x.find(0));
            giveBlanks(8172);
        }, more);
        // INPUT that was refused more is still what it was
        tell(() -> {
            give("k");
            feedTimes(407);
        });
        due(8160, () -> x.feed('[' << 24 | '1' << 16 | ']' << 8 | ' ', 0x20202020, 0x20202020, 0x20202020, 0x20202020));
        due(8180, () -> x.feed(0x20202020, 0x20202020, 0x20202020, 0x20202020, 0x20202020));
        due(FULL, more);
        due(2, () -> x.end(0));
        due(FULL, more);
        due(8, () -> x.read(0, 0));
        shows("{\"k\":[1]}", 0, 0);
        due(20, more);
    }

    private static void end() {
        Step twenty = () -> x.feed(0x6b6b6b6b, 0x6b6b6b6b, 0x6b6b6b6b, 0x6b6b6b6b, 0x6b6b6b6b);
        Step forty = () -> {
            twenty.run();
            twenty.run();
        };
        for (int n : new int[] {0, 1, 18, 19}) {
            within(1, twenty, () -> x.end(n));
            due(0, () -> x.told(0));
            due(8, () -> x.set(0, 0, 0, 0));
            due(20 - n, () -> x.key(0, 0, 0, -1));
            within(1, forty, () -> x.end(n));
            due(8, () -> x.set(0, 0, 0, 0));
            due(40 - n, () -> x.key(0, 0, 0, -1));
        }
        for (int n : new int[] {-1, 20, 21, Integer.MIN_VALUE, Integer.MAX_VALUE}) {
            beyondLeaving(BAD, twenty, () -> x.end(n));
            beyondLeaving(BAD, forty, () -> x.end(n));
        }
        // as many must be there
        within(1, PromiseEdgeTest::nothing, () -> x.end(0));
        beyondLeaving(BAD, PromiseEdgeTest::nothing, () -> x.end(1));
        beyondLeaving(BAD, () -> give("k", "s"), () -> x.end(1));
        beyondLeaving(BAD, PromiseEdgeTest::nothing, () -> x.end(19));
        // two at most: the first goes, the second is the first then
        within(2, () -> give("a"), () -> x.end(0));
        within(2, () -> give("a", "b"), () -> give("c"));
        due(8, () -> x.set(0, 0, 4, 0));
        shows("{\"b\":\"c\"}", 0, 0);
        within(2, () -> give("a", "b", "c"), () -> give("d"));
        due(8, () -> x.set(0, 0, 4, 0));
        shows("{\"c\":\"d\"}", 0, 0);
    }

    // ---------------------------------------------------------------- what changes the document

    private static void set() {
        for (int sort = 0; sort < 9; sort++) {
            int s = sort;
            Step given = sort == 4 ? sharedWith("k", "str") : sharedWith("k");
            within(NEXT, given, () -> x.set(0, 0, s, Long.MIN_VALUE));
            due(s, () -> candidateAt(0, 0, "k", 0, 0));
            due(s == 3 || s == 5 ? Long.MIN_VALUE : 0, () -> candidateAt(0, 0, "k", 0, 2));
            due(s == 4 ? 3 : 0, () -> candidateAt(0, 0, "k", 0, 3));
            beyond(BAD, sort == 4 ? sharedWith("k") : sharedWith("k", "str"), () -> x.set(0, 0, s, 0));
        }
        for (int sort : SORTS_BEYOND) {
            beyond(BAD, sharedWith("k"), () -> x.set(0, 0, sort, 0));
            beyond(BAD, sharedWith("k", "str"), () -> x.set(0, 0, sort, 0));
        }
        within(NEXT, sharedWith("k"), () -> x.set(0, 0, 5, Long.MAX_VALUE));
        due(Long.MAX_VALUE, () -> candidateAt(0, 0, "k", 0, 2));
    }

    private static void put() {
        for (int sort = 0; sort < 9; sort++) {
            int s = sort;
            for (int object : new int[] {LIST, TEXT}) {
                Step given = sort == 4 ? sharedWith("str") : sharedWith();
                within(NEXT, given, () -> x.put(0, object, 1, s, Long.MAX_VALUE));
                due(s, () -> x.candidate(0, object, 1, 0, 0));
                due(s == 3 || s == 5 ? Long.MAX_VALUE : 0, () -> x.candidate(0, object, 1, 0, 2));
                due(2, () -> x.object(0, object, 1));
                beyond(BAD, sort == 4 ? sharedWith() : sharedWith("str"), () -> x.put(0, object, 1, s, 0));
            }
        }
        for (int sort : SORTS_BEYOND) {
            beyond(BAD, sharedWith(), () -> x.put(0, LIST, 0, sort, 0));
            beyond(BAD, sharedWith("str"), () -> x.put(0, LIST, 0, sort, 0));
        }
    }

    private static void insert() {
        for (int sort = 0; sort < 9; sort++) {
            int s = sort;
            for (int object : new int[] {LIST, TEXT}) {
                Step given = sort == 4 ? sharedWith("str") : sharedWith();
                for (int i : new int[] {0, 1, 2}) {
                    within(NEXT, given, () -> x.insert(0, object, i, s, Long.MIN_VALUE));
                    due(NEXT, () -> x.element(0, object, i));
                    due(s, () -> x.candidate(0, object, i, 0, 0));
                    due(s == 3 || s == 5 ? Long.MIN_VALUE : 0, () -> x.candidate(0, object, i, 0, 2));
                    due(3, () -> x.object(0, object, 1));
                }
                for (int i : new int[] {-1, 3, Integer.MIN_VALUE, Integer.MAX_VALUE}) {
                    beyond(MISSING, given, () -> x.insert(0, object, i, s, 0));
                }
                beyond(BAD, sort == 4 ? sharedWith() : sharedWith("str"), () -> x.insert(0, object, 1, s, 0));
            }
        }
        for (int sort : SORTS_BEYOND) {
            beyond(BAD, sharedWith(), () -> x.insert(0, LIST, 0, sort, 0));
            beyond(BAD, sharedWith("str"), () -> x.insert(0, LIST, 0, sort, 0));
        }
        // in one that has nothing, for 0 at the beginning: also ahead of what isn't there any more
        Step emptied = () -> {
            shared();
            x.erase(0, LIST, 0);
            x.erase(0, LIST, 0);
        };
        within(NEXT + 16, emptied, () -> x.insert(0, LIST, 0, 0, 0));
        due(0, () -> x.index(0, LIST, NEXT + 16));
        due(1, () -> x.index(0, LIST, IN_LIST));
        beyond(MISSING, emptied, () -> x.insert(0, LIST, 1, 0, 0));
        // behind the ELEMENT with the INDEX before: ahead of one without anything that follows it
        tell(() -> {
            shared();
            x.erase(0, LIST, 0);
            x.insert(0, LIST, 1, 3, 9);
        });
        due(2, () -> x.object(0, LIST, 1));
        shows("[2,9]", 0, LIST);
    }

    private static void splice() {
        // i 0 .. how many there are, n 0 .. how many there are from i on
        for (int i = 0; i <= 2; i++) {
            int from = i;
            for (int n = 0; n <= 2 - i; n++) {
                int gone = n;
                for (String string : new String[] {"", "x", "xyz"}) {
                    within(2 - gone + string.length(), sharedWith(string), () -> x.splice(0, TEXT, from, gone));
                    due(11 + gone + string.length(), () -> x.count(0, 4));
                    shows("\"" + "ab".substring(0, from) + string + "ab".substring(from + gone) + "\"", 0, TEXT);
                }
            }
            for (int n : new int[] {3 - i, 4, Integer.MAX_VALUE}) {
                beyond(MISSING, sharedWith("x"), () -> x.splice(0, TEXT, from, n));
                beyond(MISSING, sharedWith(""), () -> x.splice(0, TEXT, from, n));
            }
            for (int n : new int[] {-1, Integer.MIN_VALUE}) {
                beyond(BAD, sharedWith("x"), () -> x.splice(0, TEXT, from, n));
                beyond(BAD, sharedWith("x"), () -> x.splice(0, 7777, from, n));
            }
        }
        for (int i : new int[] {-1, 3, Integer.MIN_VALUE, Integer.MAX_VALUE}) {
            for (int n : new int[] {0, 1, 2, Integer.MAX_VALUE}) {
                beyond(MISSING, sharedWith("x"), () -> x.splice(0, TEXT, i, n));
            }
        }
        // a LIST or a MAP is bad, also where the INDICES would be missing
        for (int object : new int[] {LIST, MAP, 0}) {
            beyond(BAD, sharedWith("x"), () -> x.splice(0, object, 0, 0));
            beyond(BAD, sharedWith("x"), () -> x.splice(0, object, 9, 9));
        }
        // with no OP of its own, it's still REFUSED where VIEW isn't all
        beyond(REFUSED, () -> {
            looking();
            give("");
        }, () -> x.splice(0, TEXT, 0, 0));
        // the first byte stands behind the ELEMENT before, ahead of those that went
        tell(sharedWith("x"));
        x.splice(0, TEXT, 1, 1);
        due(1, () -> x.index(0, TEXT, NEXT + 8));
        due(2, () -> x.index(0, TEXT, IN_TEXT + 8));
    }

    private static void erase() {
        within(NEXT, sharedWith("n"), () -> x.erase(0, 0, -1));
        due(5, () -> x.object(0, 0, 1));
        beyond(MISSING, sharedWith("o"), () -> x.erase(0, 0, -1));
        beyond(MISSING, sharedWith("nn"), () -> x.erase(0, 0, -1));
        beyond(BAD, sharedWith(), () -> x.erase(0, 0, -1));
        beyond(BAD, sharedWith("n"), () -> x.erase(0, 0, 0));
        beyond(BAD, sharedWith("n"), () -> x.erase(0, LIST, 0));
        beyond(BAD, sharedWith(), () -> x.erase(0, LIST, -1));
        beyond(BAD, sharedWith(), () -> x.erase(0, 0, -2));
        within(NEXT, sharedWith(), () -> x.erase(0, LIST, 1));
        due(NEXT + 8, () -> x.erase(0, LIST, 0));
        due(MISSING, () -> x.erase(0, LIST, 0));
        due(0, () -> x.object(0, LIST, 1));
    }

    private static void add() {
        for (long n : new long[] {0, Long.MAX_VALUE, Long.MIN_VALUE}) {
            within(NEXT, sharedWith("c"), () -> x.add(0, 0, -1, n));
            due(5 + n, () -> candidateAt(0, 0, "c", 0, 2));
            within(NEXT, sharedWith(), () -> x.add(0, LIST, 0, n));
            due(1 + n, () -> x.candidate(0, LIST, 0, 0, 2));
        }
        for (String key : new String[] {"m", "l", "t", "n", "s", "zz"}) {
            beyond(MISSING, sharedWith(key), () -> x.add(0, 0, -1, 1));
        }
        beyond(MISSING, sharedWith(), () -> x.add(0, LIST, 1, 1));
        beyond(MISSING, sharedWith(), () -> x.add(0, TEXT, 0, 1));
        beyond(BAD, sharedWith("c"), () -> x.add(0, LIST, 0, 1));
        beyond(BAD, sharedWith(), () -> x.add(0, 0, -1, 1));
        // one counter among the CANDIDATES is enough, even if THE VALUE is none
        Step both = () -> {
            shared();
            setAt(0, 0, "k", 5, 1);
            setAt(1, 0, "k", 3, 1);
            x.commit(0);
            x.commit(1);
            x.join(1, 0);
        };
        tell(both);
        due(NEXT + 8, () -> addAt(0, 0, "k", 2));
        due(1, () -> candidateAt(0, 0, "k", 0, 2));
        due(3, () -> candidateAt(0, 0, "k", 1, 2));
        x.commit(0);
        x.save(0);
        String op = bytesText(0, 10, 1, 'k', 4, 1, NEXT);
        check("has only the counter in PRED", outText().contains(op) ? "has only the counter in PRED" : outText());
        // the counter that went by it is none
        tell(both);
        setAt(0, 0, "k", 3, 1);
        due(MISSING, () -> addAt(0, 0, "k", 2));
    }

    // ---------------------------------------------------------------- read

    /** SYNTAX there; all but WHERE is as before. */
    private static void wrongAt(int where, String json) {
        Step story = () -> {
            setString(0, 0, "k", "old");
            x.text(0, 0);
        };
        tell(story);
        due(BAD, () -> readAt(0, 0, "k", json));
        due(where, () -> x.told(5));
        due(0, () -> x.told(1));
        String after = all();
        tell(story);
        // another text that is wrong at the same byte: blanks up to it
        due(BAD, () -> readAt(0, 0, "k", " ".repeat(where)));
        due(where, () -> x.told(5));
        check(all(), after);
    }

    private static void right(String shown, String json) {
        within(11, () -> give("k", json), () -> x.read(3, 0));
        due(-1, () -> x.told(5));
        shows("{\"k\":" + shown + "}", 3, 0);
    }

    private static void readSigns() {
        for (int b = 0; b < 256; b++) {
            String sign = String.valueOf((char) b);
            boolean isBlank = b == 9 || b == 10 || b == 13 || b == 32;
            boolean isDigit = b >= '0' && b <= '9';
            // ahead of, between and behind signs
            if (isBlank) {
                right("[1,2]", sign + "[" + sign + "1" + sign + "," + sign + "2" + sign + "]" + sign);
                right("{\"a\":1}", sign + "{" + sign + "\"a\"" + sign + ":" + sign + "1" + sign + "}" + sign);
            } else {
                if (b != '-' && !isDigit && "[{\"nft".indexOf(b) < 0) {
                    wrongAt(0, sign + "1");
                    wrongAt(1, "[" + sign.replace("]", "}") + "1]");
                }
                if (!isDigit) {
                    wrongAt(2, "[1" + sign.replace(",", ";").replace("]", "}") + "1]");
                }
                wrongAt(3, "[1]" + sign);
                wrongAt(4, "{\"a\"" + sign.replace(":", "=") + "1}");
            }
            // in a STRING
            if (b >= 32 && b <= 126 && b != '"' && b != '\\') {
                right("\"" + sign + "\"", "\"" + sign + "\"");
            } else if (b != '"' && b != '\\') {
                wrongAt(1, "\"" + sign + "\"");
            }
            // behind a \
            int escaped = "nt\"\\/x".indexOf(b);
            if (escaped < 0) {
                wrongAt(2, "\"\\" + sign + "11\"");
            } else {
                right("\"" + new String[] {"\\n", "\\x09", "\\\"", "\\\\", "/", "\\x1f"}[escaped] + "\"", "\"\\" + sign + (b == 'x' ? "1f\"" : "\""));
            }
            // the digits of \x
            int digit = "0123456789abcdefABCDEF".indexOf(b);
            if (digit < 0) {
                wrongAt(3, "\"\\x" + sign + "0\"");
                wrongAt(4, "\"\\x0" + sign + "\"");
            } else {
                int value = digit < 16 ? digit : digit - 6;
                right("\"\\x" + "89abcdef".charAt(value % 8) + "0123456789abcdef".charAt(value) + "\"",
                        "\"\\x" + "89ABCDEF".charAt(value % 8) + sign + "\"");
            }
        }
        wrongAt(0, "");
        wrongAt(1, " ");
        wrongAt(2, "\"\\");
        wrongAt(3, "\"\\x");
        wrongAt(4, "\"\\x4");
        wrongAt(5, "\"\\x41");
        // digits: no 0 before others, at most 18
        right("0", "0");
        right("0", "-0");
        right("[0,0,10]", "[0,-0,10]");
        wrongAt(1, "00");
        wrongAt(1, "01");
        wrongAt(2, "-00");
        wrongAt(2, "-01");
        wrongAt(1, "-");
        right("999999999999999999", "999999999999999999");
        right("-999999999999999999", "-999999999999999999");
        right("100000000000000000", "100000000000000000");
        wrongAt(18, "1000000000000000000");
        wrongAt(18, "9999999999999999999999");
        wrongAt(19, "-1000000000000000000");
        wrongAt(19, "[1234567890123456789]");
        // words
        for (String word : new String[] {"null", "false", "true"}) {
            right(word, word);
            for (int length = 0; length < word.length(); length++) {
                wrongAt(length, word.substring(0, length));
                if (length > 0) {
                    wrongAt(length, word.substring(0, length) + "X" + word.substring(length + 1));
                }
            }
            wrongAt(word.length(), word + word);
        }
        wrongAt(0, "NULL");
    }

    private static void readStrings() {
        // a STRING of 1024 bytes, as letters, as \n, as \x
        for (String sign : new String[] {"a", "\\n", "\\x41"}) {
            String shown = sign.equals("\\x41") ? "A" : sign;
            right("\"" + shown.repeat(1024) + "\"", "\"" + sign.repeat(1024) + "\"");
            wrongAt(1 + 1024 * sign.length(), "\"" + sign.repeat(1025) + "\"");
            wrongAt(1 + 1024 * sign.length(), "\"" + sign.repeat(1024));
            wrongAt(1 + 1024 * sign.length(), "\"" + sign.repeat(1024) + "\\");
            // a KEY of 64
            right("{\"" + shown.repeat(64) + "\":1}", "{\"" + sign.repeat(64) + "\":1}");
            wrongAt(2 + 64 * sign.length(), "{\"" + sign.repeat(65) + "\":1}");
            wrongAt(2 + 64 * sign.length(), "{\"" + sign.repeat(64));
        }
        right("\"\"", "\"\"");
        right("{\"a\":\"\"}", "{\"a\":\"\"}");
        right("{\"a\":1}", "{\"a\":1}");
        wrongAt(2, "{\"\":1}");
        wrongAt(3, "{ \"\":1}");
        wrongAt(8, "{\"a\":1,\"\":1}");
        wrongAt(2, "{\"");
        // KEYS different in a MAP: wrong at the last quote
        right("{\"a\":1,\"aa\":2,\"b\":3}", "{\"a\":1,\"aa\":2,\"b\":3}");
        right("{\"a\":{\"a\":1,\"b\":{\"a\":2}},\"b\":[{\"a\":1},{\"a\":2}]}", "{\"a\":{\"a\":1,\"b\":{\"a\":2}},\"b\":[{\"a\":1},{\"a\":2}]}");
        wrongAt(9, "{\"a\":1,\"a\":2}");
        wrongAt(9, "{\"a\":1,\"a\"");
        wrongAt(9, "{\"a\":1,\"a");
        wrongAt(12, "{\"a\":1,\"\\x61\":2}");
        wrongAt(18, "{\"a\":{\"b\":[{}]},\"a\":2}");
        wrongAt(15, "{\"a\":1,\"b\":2,\"a\":3}");
        wrongAt(14, "{\"a\":{\"c\":1,\"c\":2}}");
    }

    private static void readMuch() {
        // 20 in one another
        right("[".repeat(20) + "]".repeat(20), "[".repeat(20) + "]".repeat(20));
        right("{\"a\":".repeat(19) + "{}" + "}".repeat(19), "{\"a\":".repeat(19) + "{}" + "}".repeat(19));
        right("[".repeat(20) + "1" + "]".repeat(20), "[".repeat(20) + "1" + "]".repeat(20));
        right("[" + "[".repeat(19) + "]".repeat(19) + "," + "[".repeat(19) + "]".repeat(19) + "]",
                "[" + "[".repeat(19) + "]".repeat(19) + "," + "[".repeat(19) + "]".repeat(19) + "]");
        wrongAt(20, "[".repeat(21) + "]".repeat(21));
        wrongAt(20, "[".repeat(20) + "{}" + "]".repeat(20));
        wrongAt(100, "{\"a\":".repeat(20) + "{}" + "}".repeat(20));
        wrongAt(100, "{\"a\":".repeat(20) + "[]" + "}".repeat(20));
        wrongAt(22, "[".repeat(20) + "1,[]" + "]".repeat(20));
        wrongAt(20, "[".repeat(20));
        // 500 VALUES, what they stand in counted
        String fill = "1" + ",1".repeat(497);
        right("[" + fill + ",1]", "[" + fill + ",1]");
        right("[" + fill + ",[]]", "[" + fill + ",[]]");
        right("[" + fill + ",{}]", "[" + fill + ",{}]");
        int end = fill.length() + 1;
        wrongAt(end + 3, "[" + fill + ",1,1]");
        wrongAt(end + 3, "[" + fill + ",1,[]]");
        wrongAt(end + 4, "[" + fill + ",1, \"a\"]");
        wrongAt(end + 2, "[" + fill + ",[1]]");
        wrongAt(end + 6, "[" + fill + ",{\"a\":1}]");
        wrongAt(end + 3, "[" + fill + ",1,]");
        wrongAt(end + 3, "[" + fill + ",1,");
        wrongAt(end + 2, "[" + fill + ",1");
        // 500 OPS of one call
        within(8, () -> give("k", "[" + fill + ",1]"), () -> x.read(0, 0));
        due(500, () -> x.told(2));
        due(8 * 500, () -> x.element(0, 8, 498));
        due(1, () -> x.told(4));
    }

    private static void readAgain() {
        // what one text left behind, right or wrong, is nothing to the next one
        String[] right = {"[1,[2,\"a\"],{\"b\":{}}]", "{\"a\":[],\"b\":\"c\"}", "\"str\"", "[]", "{}", "-12", "null", "[[1],[2],[3]]"};
        String[] wrong = {"[".repeat(21), "[[[[1,", "{\"a\":{\"b\":[", "\"abc", "{\"a\":1,\"a\":2}", "-", "[1", "{\"a\""};
        for (String before : wrong) {
            for (String first : right) {
                for (String second : right) {
                    x = new JoinedTrees();
                    due(8, () -> readAt(0, 0, "k", first));
                    due(BAD, () -> readAt(0, 0, "k", before));
                    due(8 * x.count(0, 5) + 8, () -> readAt(0, 0, "l", second));
                    shows("{\"k\":" + first + ",\"l\":" + second + "}", 0, 0);
                }
            }
        }
        right("[" + "[],".repeat(40) + "{}]", "[" + "[],".repeat(40) + "{}]");
        right("[" + "{},".repeat(40) + "[]]", "[" + "{},".repeat(40) + "[]]");
        right("[" + "[[[]]],".repeat(40) + "{}]", "[" + "[[[]]],".repeat(40) + "{}]");
        // as many bytes in all as may be made, text by text
        x = new JoinedTrees();
        for (int i = 1; i < 24; i++) {
            String string = "\"" + "s".repeat(1000 + i) + "\"";
            due(8 * i, () -> readAt(0, 0, "k", string));
            shows("{\"k\":" + string + "}", 0, 0);
        }
    }

    private static void readOrder() {
        // SYNTAX is ahead of all that is missing, REFUSED or FULL
        Step wrong = () -> {
            looking();
            leaveOps(0);
            give("k", "[1,");
        };
        tell(wrong);
        due(BAD, () -> x.read(0, 7777));
        due(3, () -> x.told(5));
        Step lists = sharedWith("k", "[1,");
        tell(lists);
        due(BAD, () -> x.read(0, LIST));
        due(3, () -> x.told(5));
        // what is right in its form is missing, then bad by its kind, then REFUSED
        beyond(MISSING, sharedWith("k", "1"), () -> x.read(0, 7777));
        beyond(BAD, sharedWith("k", "1"), () -> x.read(0, LIST));
        beyond(REFUSED, () -> {
            looking();
            give("k", "1");
        }, () -> x.read(0, 0));
        // WHERE stays till the next, whatever else is bad
        tell(lists);
        answerOf(() -> x.read(0, 0));
        due(BAD, () -> readAt(0, LIST, "k", "1"));
        due(MISSING, () -> readAt(0, 7777, "k", "1"));
        due(NEXT, () -> readAt(0, 0, "k", "1"));
        due(3, () -> x.told(5));
        due(BAD, () -> readAt(0, 0, "k", "x"));
        due(0, () -> x.told(5));
        // each OBJECT before what's in it, in the order of the text
        within(NEXT, sharedWith("k", "{\"b\":[1,{\"z\":2}],\"a\":3}"), () -> x.read(0, 0));
        due(NEXT + 8, () -> findAt(0, "k.b"));
        due(NEXT + 16, () -> findAt(0, "k.b[0]"));
        due(NEXT + 24, () -> findAt(0, "k.b[1]"));
        due(NEXT + 32, () -> findAt(0, "k.b[1].z"));
        due(NEXT + 40, () -> findAt(0, "k.a"));
        // what was at the KEY is replaced
        within(NEXT, sharedWith("m", "[]"), () -> x.read(0, 0));
        due(1, () -> candidateAt(0, 0, "m", 0, 4));
        due(7, () -> candidateAt(0, 0, "m", 0, 0));
        due(1, () -> x.object(0, MAP, 1));
    }

    // ---------------------------------------------------------------- CHANGES

    private static void commit() {
        beyondLeaving(REFUSED, PromiseEdgeTest::nothing, () -> x.commit(0));
        beyondLeaving(REFUSED, PromiseEdgeTest::shared, () -> x.commit(0));
        within(1, PromiseEdgeTest::some, () -> x.commit(0));
        due(REFUSED, () -> x.commit(0));
        beyondLeaving(REFUSED, () -> {
            some();
            x.drop(0);
        }, () -> x.commit(0));
        // a splice that makes no OP leaves nothing to commit
        beyondLeaving(REFUSED, () -> {
            shared();
            spliceAt(0, TEXT, 0, 0, "");
        }, () -> x.commit(0));
        // whatever VIEW is: and VIEW stays
        Step open = () -> {
            shared();
            setAt(0, 0, "k", 0, 0);
            x.look(0, 0, 1);
        };
        within(2, open, () -> x.commit(0));
        due(1, () -> x.count(0, 6));
        due(2, () -> x.count(0, 0));
        due(REFUSED, () -> setAt(0, 0, "k", 0, 0));
        due(2, () -> x.look(0, 0, 2));
        // each ACTOR's numbers are its own
        within(1, () -> {
            shared();
            setAt(7, 0, "k", 0, 0);
        }, () -> x.commit(7));
    }

    private static void drop() {
        idle(0, PromiseEdgeTest::nothing, () -> x.drop(0));
        idle(0, PromiseEdgeTest::shared, () -> x.drop(0));
        within(11, PromiseEdgeTest::some, () -> x.drop(0));
        due(0, () -> x.drop(0));
        due(0, () -> x.count(0, 5));
        due(11, () -> x.told(2));
        due(8, () -> setAt(0, 0, "k", 0, 0));
        // their OPIDS come again, for other OPS, at any replica
        for (int r = 0; r < 8; r++) {
            int replica = r;
            tell(() -> {
                shared();
                x.join(0, 6);
            });
            for (int again = 0; again < 3; again++) {
                due(NEXT + replica, () -> setAt(replica, 0, "o", 7, 0));
                due(NEXT + 8 + replica, () -> x.insert(replica, NEXT + replica, 0, 0, 0));
                due(2, () -> x.drop(replica));
                due(MISSING, () -> x.object(replica, NEXT + replica, 0));
                due(NEXT + replica, () -> x.insert(replica, LIST, 1, 3, 9));
                shows("[1,9,2]", replica, LIST);
                due(1, () -> x.drop(replica));
            }
            shows("[1,2]", replica, LIST);
            due(11, () -> x.count(replica, 4));
        }
        // those of another replica stay
        within(0, PromiseEdgeTest::some, () -> x.drop(1));
        due(11, () -> x.count(0, 3));
        // what is OPEN behind a CHANGE goes, the CHANGE stays; what was deleted or set is there again
        within(4, () -> {
            shared();
            eraseAt(0, 0, "n");
            x.put(0, LIST, 0, 0, 0);
            x.erase(0, LIST, 1);
            addAt(0, 0, "c", 100);
        }, () -> x.drop(0));
        shows("{\"c\":5,\"l\":[1,2],\"m\":{\"in\":true},\"n\":-7,\"s\":\"str\",\"t\":\"ab\"}", 0, 0);
        due(11, () -> x.count(0, 5));
    }

    /** Replica 0 made two CHANGES, 7 one that depends on both; replica 1 has nothing, 2 only WAITS. */
    private static void changes() {
        setAt(0, 0, "a", 3, 1);
        x.commit(0);
        setAt(0, 0, "b", 3, 2);
        x.commit(0);
        x.join(0, 7);
        setAt(7, 0, "c", 3, 3);
        x.commit(7);
        x.send(7, 2, 7, 1);
    }

    private static void send() {
        within(1, PromiseEdgeTest::changes, () -> x.send(0, 1, 0, 1));
        within(0, PromiseEdgeTest::changes, () -> x.send(0, 1, 0, 2));
        due(1, () -> x.count(1, 1));
        for (int number : new int[] {0, 3, -1, Integer.MIN_VALUE, Integer.MAX_VALUE}) {
            beyondLeaving(MISSING, PromiseEdgeTest::changes, () -> x.send(0, 1, 0, number));
        }
        within(0, PromiseEdgeTest::changes, () -> x.send(7, 1, 7, 1));
        for (int number : new int[] {0, 2}) {
            beyondLeaving(MISSING, PromiseEdgeTest::changes, () -> x.send(7, 1, 7, number));
        }
        for (int actor : new int[] {-1, 8, Integer.MIN_VALUE, Integer.MAX_VALUE}) {
            beyondLeaving(BAD, PromiseEdgeTest::changes, () -> x.send(0, 1, actor, 1));
            beyondLeaving(BAD, PromiseEdgeTest::changes, () -> x.send(0, 1, actor, 99));
        }
        // an ACTOR that made none; one that from hasn't got; one that only WAITS there
        beyondLeaving(MISSING, PromiseEdgeTest::changes, () -> x.send(0, 1, 6, 1));
        beyondLeaving(MISSING, PromiseEdgeTest::changes, () -> x.send(0, 1, 7, 1));
        beyondLeaving(MISSING, PromiseEdgeTest::changes, () -> x.send(2, 1, 7, 1));
        // nothing, if from is to, or it has it, or it WAITS there already
        idle(0, PromiseEdgeTest::changes, () -> x.send(0, 0, 0, 1));
        idle(0, PromiseEdgeTest::changes, () -> x.send(0, 7, 0, 2));
        idle(0, PromiseEdgeTest::changes, () -> x.send(7, 0, 0, 1));
        idle(0, PromiseEdgeTest::changes, () -> x.send(7, 2, 7, 1));
        beyondLeaving(MISSING, PromiseEdgeTest::changes, () -> x.send(1, 1, 0, 1));
        // those that WAITED come with the last one they need
        tell(PromiseEdgeTest::changes);
        due(1, () -> x.send(7, 2, 0, 1));
        due(1, () -> x.count(2, 1));
        due(2, () -> x.send(7, 2, 0, 2));
        due(0, () -> x.count(2, 1));
        tell(PromiseEdgeTest::changes);
        due(0, () -> x.send(7, 2, 0, 2));
        due(3, () -> x.send(7, 2, 0, 1));
        // OPEN OPS at to, behind all that is bad or missing
        Step open = () -> {
            changes();
            setAt(1, 0, "o", 0, 0);
            setAt(0, 0, "o", 0, 0);
        };
        beyondLeaving(REFUSED, open, () -> x.send(0, 1, 0, 1));
        beyondLeaving(REFUSED, open, () -> x.send(7, 0, 0, 1));
        beyondLeaving(MISSING, open, () -> x.send(0, 1, 0, 3));
        beyondLeaving(BAD, open, () -> x.send(0, 1, 8, 1));
        within(1, open, () -> x.send(0, 3, 0, 1));
    }

    private static void join() {
        within(2, PromiseEdgeTest::changes, () -> x.join(0, 1));
        due(0, () -> x.join(0, 1));
        within(3, PromiseEdgeTest::changes, () -> x.join(7, 1));
        idle(0, PromiseEdgeTest::changes, () -> x.join(1, 7));
        idle(0, PromiseEdgeTest::changes, () -> x.join(0, 7));
        idle(0, PromiseEdgeTest::changes, () -> x.join(7, 7));
        idle(0, PromiseEdgeTest::changes, () -> x.join(2, 2));
        // what WAITS comes, too: to WAIT, or to be had
        within(0, PromiseEdgeTest::changes, () -> x.join(2, 1));
        due(1, () -> x.count(1, 1));
        within(1, PromiseEdgeTest::changes, () -> x.join(2, 0));
        within(3, PromiseEdgeTest::changes, () -> x.join(0, 2));
        due(0, () -> x.count(2, 1));
        Step open = () -> {
            changes();
            setAt(1, 0, "o", 0, 0);
            setAt(0, 0, "o", 0, 0);
        };
        beyondLeaving(REFUSED, open, () -> x.join(0, 1));
        beyondLeaving(REFUSED, open, () -> x.join(3, 1));
        beyondLeaving(BAD, open, () -> x.join(8, 1));
        beyondLeaving(BAD, open, () -> x.join(-1, 1));
        // OPEN OPS at from stay there
        within(2, open, () -> x.join(0, 3));
        due(2, () -> x.count(3, 4));
    }

    private static void look() {
        within(1, PromiseEdgeTest::changes, () -> x.look(7, 0, 1));
        due(1, () -> x.count(7, 6));
        within(2, PromiseEdgeTest::changes, () -> x.look(7, 0, 2));
        within(3, PromiseEdgeTest::changes, () -> x.look(7, 7, 1));
        for (int number : new int[] {-1, 0, 1, Integer.MIN_VALUE, Integer.MAX_VALUE}) {
            idle(3, PromiseEdgeTest::changes, () -> x.look(7, -1, number));
            within(3, PromiseEdgeTest::lookingBack, () -> x.look(7, -1, number));
            due(3, () -> x.count(7, 6));
        }
        for (int number : new int[] {-1, 0, 3, Integer.MIN_VALUE, Integer.MAX_VALUE}) {
            beyondLeaving(MISSING, PromiseEdgeTest::changes, () -> x.look(7, 0, number));
            beyondLeaving(MISSING, PromiseEdgeTest::lookingBack, () -> x.look(7, 0, number));
        }
        for (int actor : new int[] {-2, 8, Integer.MIN_VALUE, Integer.MAX_VALUE}) {
            beyondLeaving(BAD, PromiseEdgeTest::lookingBack, () -> x.look(7, actor, 1));
        }
        beyondLeaving(MISSING, PromiseEdgeTest::changes, () -> x.look(7, 6, 1));
        beyondLeaving(MISSING, PromiseEdgeTest::changes, () -> x.look(0, 7, 1));
        beyondLeaving(MISSING, PromiseEdgeTest::changes, () -> x.look(2, 7, 1));
        beyondLeaving(MISSING, PromiseEdgeTest::changes, () -> x.look(1, 0, 1));
        within(0, PromiseEdgeTest::changes, () -> x.look(1, -1, 0));
        // what comes later isn't in it
        tell(PromiseEdgeTest::lookingBack);
        setAt(0, 0, "d", 0, 0);
        x.commit(0);
        due(1, () -> x.join(0, 7));
        due(1, () -> x.count(7, 6));
        shows("{\"a\":1}", 7, 0);
        due(4, () -> x.look(7, -1, 0));
    }

    private static void lookingBack() {
        changes();
        x.look(7, 0, 1);
    }

    // ---------------------------------------------------------------- what is asked

    private static void object() {
        int[][] due = {{0, 6, 6}, {MAP, 6, 1}, {LIST, 7, 2}, {TEXT, 8, 2}};
        for (int[] row : due) {
            idle(row[1], PromiseEdgeTest::shared, () -> x.object(0, row[0], 0));
            idle(row[2], PromiseEdgeTest::shared, () -> x.object(0, row[0], 1));
            for (int what : new int[] {-1, 2, Integer.MIN_VALUE, Integer.MAX_VALUE}) {
                beyondLeaving(BAD, PromiseEdgeTest::shared, () -> x.object(0, row[0], what));
                beyondLeaving(BAD, PromiseEdgeTest::shared, () -> x.object(0, 7777, what));
            }
        }
        // of one at which nothing is
        Step empty = () -> {
            shared();
            setAt(0, 0, "e", 6, 0);
            setAt(0, NEXT, "k", 0, 0);
            eraseAt(0, NEXT, "k");
        };
        within(0, empty, () -> x.object(0, NEXT, 1));
    }

    private static void key() {
        // KEYS c l m n s t
        for (int i = 0; i < 6; i++) {
            int number = i;
            idle("clmnst".charAt(i), PromiseEdgeTest::shared, () -> x.key(0, 0, number, 0));
            idle(1, PromiseEdgeTest::shared, () -> x.key(0, 0, number, -1));
        }
        for (int i : new int[] {-1, 6, Integer.MIN_VALUE, Integer.MAX_VALUE}) {
            beyondLeaving(MISSING, PromiseEdgeTest::shared, () -> x.key(0, 0, i, 0));
            beyondLeaving(MISSING, PromiseEdgeTest::shared, () -> x.key(0, 0, i, -1));
        }
        idle('i', PromiseEdgeTest::shared, () -> x.key(0, MAP, 0, 0));
        idle('n', PromiseEdgeTest::shared, () -> x.key(0, MAP, 0, 1));
        idle(2, PromiseEdgeTest::shared, () -> x.key(0, MAP, 0, -1));
        for (int k : new int[] {-2, 2, Integer.MIN_VALUE, Integer.MAX_VALUE}) {
            beyondLeaving(MISSING, PromiseEdgeTest::shared, () -> x.key(0, MAP, 0, k));
        }
        beyondLeaving(MISSING, PromiseEdgeTest::nothing, () -> x.key(0, 0, 0, -1));
        // bytes without sign
        tell(PromiseEdgeTest::nothing);
        setAt(0, 0, "\u0080", 0, 0);
        setAt(0, 0, "\u007f", 0, 0);
        due(127, () -> x.key(0, 0, 0, 0));
        due(128, () -> x.key(0, 0, 1, 0));
    }

    private static void candidate() {
        Step two = () -> {
            shared();
            setAt(0, 0, "k", 5, 4);
            x.insert(0, LIST, 0, 3, 4);
            x.commit(0);
            x.join(0, 1);
            setAt(0, 0, "k", 5, 40);
            give("string");
            x.put(0, LIST, 0, 4, 0);
            setString(1, 0, "k", "abc");
            x.put(1, LIST, 0, 3, -9);
            x.commit(0);
            x.commit(1);
            x.join(1, 0);
            addAt(0, 0, "k", 2);
        };
        Step withKey = () -> {
            two.run();
            give("k");
        };
        int greater = NEXT + 16 + 1;
        int less = NEXT + 16;
        long[][] ofKey = {{4, greater, 0, 3, 2}, {5, less, 42, 0, 2}};
        long[][] ofIndex = {{3, greater + 8, -9, 0, 2}, {4, less + 8, 0, 6, 2}};
        for (int c = 0; c < 2; c++) {
            int number = c;
            for (int what = 0; what < 5; what++) {
                int asked = what;
                within(ofKey[c][what], withKey, () -> x.candidate(0, 0, -1, number, asked));
                idle(ofIndex[c][what], two, () -> x.candidate(0, LIST, 0, number, asked));
            }
        }
        for (int what = 0; what < 5; what++) {
            int asked = what;
            for (int c : new int[] {-1, 2, Integer.MIN_VALUE, Integer.MAX_VALUE}) {
                beyond(MISSING, withKey, () -> x.candidate(0, 0, -1, c, asked));
                beyond(MISSING, two, () -> x.candidate(0, LIST, 0, c, asked));
            }
            beyond(MISSING, sharedWith("zz"), () -> x.candidate(0, 0, -1, 0, asked));
        }
        for (int what : new int[] {-1, 5, Integer.MIN_VALUE, Integer.MAX_VALUE}) {
            beyond(BAD, withKey, () -> x.candidate(0, 0, -1, 0, what));
            beyond(BAD, withKey, () -> x.candidate(0, 7777, -1, 9, what));
            beyond(BAD, two, () -> x.candidate(0, LIST, 9, 9, what));
        }
    }

    private static void letter() {
        for (int k = 0; k < 3; k++) {
            int number = k;
            idle("str".charAt(k), PromiseEdgeTest::shared, () -> x.letter(0, STRING, number));
        }
        for (int k : new int[] {-1, 3, Integer.MIN_VALUE, Integer.MAX_VALUE}) {
            beyondLeaving(MISSING, PromiseEdgeTest::shared, () -> x.letter(0, STRING, k));
        }
        idle('b', PromiseEdgeTest::shared, () -> x.letter(0, IN_TEXT + 8, 0));
        beyondLeaving(MISSING, PromiseEdgeTest::shared, () -> x.letter(0, IN_TEXT + 8, 1));
        for (int opid : new int[] {0, -1, -8, 1, 7, MAP, LIST, TEXT, COUNTER, NUMBER, STRING + 1, IN_LIST, IN_MAP, NEXT, 32000, 32007, 32008,
            Integer.MIN_VALUE, Integer.MAX_VALUE}) {
            beyondLeaving(MISSING, PromiseEdgeTest::shared, () -> x.letter(0, opid, 0));
        }
        beyondLeaving(MISSING, PromiseEdgeTest::shared, () -> x.letter(6, STRING, 0));
        // VISIBLE or not; of a STRING without bytes there's none; DELETE and ADD made no VALUE
        Step later = () -> {
            shared();
            setString(0, 0, "s", "");
            eraseAt(0, 0, "s");
            addAt(0, 0, "c", 1);
            setString(0, 0, "u", "\u0000\u00ff");
        };
        within('s', later, () -> x.letter(0, STRING, 0));
        for (int opid : new int[] {NEXT, NEXT + 8, NEXT + 16}) {
            beyondLeaving(MISSING, later, () -> x.letter(0, opid, 0));
        }
        within(0, later, () -> x.letter(0, NEXT + 24, 0));
        within(255, later, () -> x.letter(0, NEXT + 24, 1));
        beyondLeaving(MISSING, later, () -> x.letter(0, NEXT + 24, 2));
        // not in VIEW
        beyondLeaving(MISSING, () -> {
            later.run();
            x.look(0, 0, 1);
        }, () -> x.letter(0, NEXT + 24, 0));
    }

    private static void element() {
        Step moved = () -> {
            shared();
            x.insert(0, LIST, 0, 0, 0);
            x.erase(0, LIST, 1);
            x.put(0, LIST, 1, 0, 0);
        };
        within(NEXT, moved, () -> x.element(0, LIST, 0));
        within(IN_LIST + 8, moved, () -> x.element(0, LIST, 1));
        for (int i : new int[] {-1, 2, Integer.MIN_VALUE, Integer.MAX_VALUE}) {
            beyondLeaving(MISSING, moved, () -> x.element(0, LIST, i));
        }
    }

    private static void index() {
        Step moved = () -> {
            shared();
            x.insert(0, LIST, 0, 0, 0);
            x.erase(0, LIST, 1);
            x.put(0, LIST, 1, 0, 0);
        };
        idle(0, moved, () -> x.index(0, LIST, NEXT));
        idle(1, moved, () -> x.index(0, LIST, IN_LIST));
        idle(1, moved, () -> x.index(0, LIST, IN_LIST + 8));
        for (int element : new int[] {0, -1, -8, 1, LIST, NEXT + 8, NEXT + 16, NEXT + 24, IN_TEXT, IN_MAP, IN_LIST + 1, 32000, 32008,
            Integer.MIN_VALUE, Integer.MAX_VALUE}) {
            beyondLeaving(MISSING, moved, () -> x.index(0, LIST, element));
        }
        // how many at most: all that stand before the last
        within(2, () -> {
            shared();
            x.insert(0, LIST, 2, 0, 0);
        }, () -> x.index(0, LIST, NEXT));
        // not in VIEW, or not had
        beyondLeaving(MISSING, () -> {
            moved.run();
            x.look(0, 0, 1);
        }, () -> x.index(0, LIST, NEXT));
        beyondLeaving(MISSING, moved, () -> x.index(1, LIST, NEXT));
    }

    private static void finds(long due, String path) {
        Step story = () -> {
            shared();
            readAt(0, 0, "p", "[[[7]]]");
            setAt(0, 0, "a".repeat(64), 0, 0);
            setAt(0, 0, "_", 0, 0);
            setAt(0, 0, "0", 0, 0);
            give(path);
        };
        within(due, story, () -> x.find(0));
    }

    private static void find() {
        finds(MAP, "m");
        finds(IN_MAP, "m.in");
        finds(IN_LIST, "l[0]");
        finds(IN_LIST + 8, "l[1]");
        finds(IN_LIST + 8, "l[000001]");
        finds(IN_TEXT + 8, "t[1]");
        finds(NEXT + 24, "p[0][0][0]");
        finds(NEXT + 32, "a".repeat(64));
        finds(NEXT + 40, "_");
        finds(NEXT + 48, "0");
        for (String path : new String[] {"l[2]", "l[999999]", "t[2]", "m[0]", "m.in.x", "m.in[0]", "l.x", "t.x", "n.x", "n[0]", "zz", "m.zz",
            "a".repeat(64), "m." + "a".repeat(64), "M", "p[0][0][0][0]", "zz.zz[0]"}) {
            beyond(MISSING, sharedWith(path), () -> x.find(0));
        }
        for (String path : new String[] {"", ".", ".m", "m.", "m..in", "[0]", "[0].m", "l[", "l[]", "l[0", "l0]", "l[0]0", "l[0].", "l[0]]",
            "l[[0]]", "l[0000001]", "l[1000000]", "l[-1]", "l[ 0]", "l[a]", "l.[0]", "m in", " m", "m ", "a".repeat(65), "m." + "a".repeat(65),
            "zz.", "zz[", "m.in[0]x"}) {
            beyond(BAD, sharedWith(path), () -> x.find(0));
        }
        // INDICES of several digits
        tell(PromiseEdgeTest::nothing);
        readAt(0, 0, "l", "[0" + ",0".repeat(120) + "]");
        for (int i : new int[] {9, 10, 11, 19, 20, 99, 100, 101, 120}) {
            due(8 * (i + 2), () -> findAt(0, "l[" + i + "]"));
            due(8 * (i + 2), () -> findAt(0, "l[" + String.format("%06d", i) + "]"));
        }
        due(MISSING, () -> findAt(0, "l[121]"));
        // letters, digits and _, no sign beside them
        for (int b = 0; b < 256; b++) {
            String sign = String.valueOf((char) b);
            boolean isOwn = b >= 'a' && b <= 'z' || b >= 'A' && b <= 'Z' || b >= '0' && b <= '9' || b == '_';
            tell(() -> setAt(0, 0, "q" + sign, 0, 0));
            if (isOwn) {
                due(8, () -> findAt(0, "q" + sign));
            } else {
                due(BAD, () -> findAt(0, "q" + sign));
            }
            boolean isDigit = b >= '0' && b <= '9';
            due(isDigit ? MISSING : BAD, () -> findAt(0, "q[" + sign + "]"));
        }
        // a PATH as long as INPUT can be
        tell(PromiseEdgeTest::nothing);
        due(MISSING, () -> findAt(0, "a" + ".b".repeat(4089)));
        due(BAD, () -> findAt(0, "a" + ".b".repeat(4088) + "."));
    }

    // ---------------------------------------------------------------- OUT

    /** Such a ROOT that its text has so many bytes, from 8023 on. */
    private static void textOf(int length) {
        for (int i = 0; i < 4; i++) {
            setString(0, 0, "k" + i, "\u0001".repeat(500));
        }
        int left = length - 1 - 4 * (2000 + 8);
        for (int i = 4; left > 4000; i++) {
            setString(0, 0, "k" + i, "\u0001".repeat(900));
            left -= 3600 + 8;
        }
        int rest = left - 8;
        setString(0, 0, "kz", "\u0001".repeat(rest / 4) + "a".repeat(rest % 4));
    }

    private static void text() {
        within(2, PromiseEdgeTest::nothing, () -> x.text(0, 0));
        within(16383, () -> textOf(16383), () -> x.text(0, 0));
        within(16384, () -> textOf(16384), () -> x.text(0, 0));
        due(16384, () -> x.told(6));
        check("}", outText().substring(16383));
        Step shownBefore = () -> {
            textOf(16385);
            x.text(1, 0);
        };
        beyondLeaving(REFUSED, shownBefore, () -> x.text(0, 0));
        beyondLeaving(REFUSED, () -> textOf(20000), () -> x.text(0, 0));
        // one that fits is written after one that didn't
        tell(shownBefore);
        answerOf(() -> x.text(0, 0));
        due(2, () -> x.text(1, 0));
        // OUT stays SAVED, and harmed as it is
        beyondLeaving(REFUSED, () -> {
            textOf(16385);
            x.save(1);
            x.harm(0, 0);
        }, () -> x.text(0, 0));
        // of a TEXT, with its quotes
        for (int more : new int[] {0, 1}) {
            Step longText = () -> {
                setAt(0, 0, "t", 8, 0);
                for (int i = 0; i < 5; i++) {
                    give("\u0002".repeat(819));
                    x.insert(0, 8, 0, 4, 0);
                }
                spliceAt(0, 8, 0, 0, "aa" + "b".repeat(more));
            };
            if (more == 0) {
                within(16384, longText, () -> x.text(0, 8));
            } else {
                beyondLeaving(REFUSED, longText, () -> x.text(0, 8));
            }
        }
        // missing and bad are ahead of REFUSED, and leave OUT
        beyondLeaving(MISSING, shownBefore, () -> x.text(0, 7777));
        beyondLeaving(BAD, shownBefore, () -> x.text(8, 0));
    }

    private static void save() {
        within(5, PromiseEdgeTest::nothing, () -> x.save(0));
        check(withCrc("\u0000"), outText());
        beyondLeaving(REFUSED, () -> {
            shared();
            x.text(0, 0);
            setAt(0, 0, "k", 0, 0);
        }, () -> x.save(0));
        beyondLeaving(REFUSED, PromiseEdgeTest::some, () -> x.save(0));
        // OPEN OPS of others don't matter, nor does VIEW
        tell(PromiseEdgeTest::shared);
        long length = x.save(0);
        setAt(1, 0, "k", 0, 0);
        x.look(0, 0, 1);
        due(length, () -> x.save(0));
        x.drop(1);
        due(length, () -> x.save(1));
        // it may be longer than 16384 bytes
        tell(PromiseEdgeTest::nothing);
        StringBuilder body = new StringBuilder(bytesText(1, 0, 1, 0, 1, 17));
        for (int i = 0; i < 17; i++) {
            setString(0, 0, "k", "s".repeat(1024));
            body.append(bytesText(0, 4, 1, 'k', 1024)).append("s".repeat(1024)).append(i == 0 ? bytesText(0) : bytesText(1, 8 * i));
        }
        x.commit(0);
        saves(body.toString(), 0);
        due(1, () -> x.load(1));
    }

    private static void load() {
        // OUT no SAVED: nothing yet, and a text
        beyondLeaving(REFUSED, PromiseEdgeTest::changes, () -> x.load(1));
        beyondLeaving(REFUSED, () -> {
            changes();
            x.save(7);
            x.text(7, 0);
        }, () -> x.load(1));
        Step saved = () -> {
            changes();
            x.save(7);
        };
        within(3, saved, () -> x.load(1));
        due(0, () -> x.load(1));
        within(3, saved, () -> x.load(2));
        due(0, () -> x.count(2, 1));
        within(1, saved, () -> x.load(0));
        idle(0, saved, () -> x.load(7));
        // OPEN OPS at r: ahead of DAMAGED
        Step open = () -> {
            saved.run();
            setAt(1, 0, "o", 0, 0);
            x.harm(0, 0);
        };
        beyondLeaving(REFUSED, open, () -> x.load(1));
        beyondLeaving(DAMAGED, open, () -> x.load(2));
        // each bit counts
        tell(saved);
        int length = x.told(6);
        for (int i = 0; i < 8 * length; i++) {
            int bit = i;
            tell(saved);
            x.harm(bit / 8, bit % 8);
            due(DAMAGED, () -> x.load(1));
            due(0, () -> x.count(1, 0) + x.count(1, 1));
            due(1, () -> x.told(7));
            x.harm(bit / 8, bit % 8);
            due(3, () -> x.load(1));
        }
        beyondLeaving(DAMAGED, () -> {
            saved.run();
            x.harm(length - 1, 7);
        }, () -> x.load(1));
    }

    private static void loadNumbers() {
        // none, and each number of CHANGES near those where its BYTES are more
        within(0, () -> x.save(0), () -> x.load(1));
        for (int number : new int[] {1, 2, 126, 127, 128, 129, 130, 255, 256, 257, 384, 999, 1000}) {
            tell(() -> {
                for (int i = 0; i < number; i++) {
                    setAt(1 + i % 4, 0, "k", 0, 0);
                    x.commit(1 + i % 4);
                }
                for (int r = 2; r < 5; r++) {
                    x.join(r, 1);
                }
                x.save(1);
            });
            due(number, () -> x.load(6));
            // what was loaded is nothing to the next load
            due(5, () -> x.save(7));
            due(0, () -> x.load(5));
            due(0, () -> x.count(5, 1));
            x.save(6);
            due(number, () -> x.load(5));
        }
        // there are CHANGES that come behind those of OUT, whatever the CRC's bytes are
        for (int n = 0; n < 1000; n++) {
            x = new JoinedTrees();
            setAt(0, 0, "k", 3, n);
            x.commit(0);
            x.save(0);
            setAt(0, 0, "k", 3, n);
            x.commit(0);
            due(1, () -> x.load(1));
        }
    }

    /** OUT becomes what SAVED is of other CHANGES, where that is as long as SAVED of replica 5. */
    private static void forgedOut(String body) {
        changes();
        setAt(5, 0, "k".repeat(body.length() - 10), 0, 0);
        x.commit(5);
        x.save(5);
        forge(withCrc(body));
    }

    private static void forged() {
        String a1 = bytesText(0, 1, 0, 1, 1, 0, 3, 1, 'a', 2, 0);
        String a2 = bytesText(0, 2, 1, 0, 1, 2, 1, 0, 3, 1, 'b', 4, 0);
        String c1 = bytesText(7, 1, 1, 0, 2, 3, 1, 0, 3, 1, 'c', 6, 0);
        // some first CHANGES of each ACTOR, whether their DEPS are among them or not
        within(1, () -> forgedOut(bytesText(1) + a1), () -> x.load(1));
        within(2, () -> forgedOut(bytesText(2) + a1 + a2), () -> x.load(1));
        within(3, () -> forgedOut(bytesText(3) + a1 + a2 + c1), () -> x.load(1));
        within(1, () -> forgedOut(bytesText(2) + a1 + c1), () -> x.load(1));
        due(1, () -> x.count(1, 1));
        within(0, () -> forgedOut(bytesText(1) + c1), () -> x.load(1));
        due(1, () -> x.count(1, 1));
        due(3, () -> x.join(0, 1));
        // not the first ones; in another order; twice; more or fewer than told; what never was
        String[] damaged = {bytesText(1) + a2, bytesText(2) + a2 + a1, bytesText(2) + c1 + a1, bytesText(2) + a2 + c1, bytesText(2) + a1 + a1,
            bytesText(2) + a1, bytesText(1) + a1 + a2, bytesText(0) + a1, bytesText(3) + a1 + a2, bytesText(127) + a1,
            "\u0081\u0000" + a1, bytesText(1) + a1.replace('a', 'b'), bytesText(1) + bytesText(0, 1, 0, 1, 1, 0, 3, 1, 'a', 4, 0),
            bytesText(1) + bytesText(0, 1, 0, 1, 1, 0, 19, 1, 'a', 2, 0), bytesText(1) + bytesText(0, 1, 0, 1, 1, 0, 3, 1, 'a') + "\u0082\u0000\u0000",
            bytesText(1) + bytesText(6, 1, 0, 1, 1, 0, 3, 1, 'a', 2, 0), bytesText(1) + bytesText(8, 1, 0, 1, 1, 0, 3, 1, 'a', 2, 0)};
        for (String body : damaged) {
            beyondLeaving(DAMAGED, () -> forgedOut(body), () -> x.load(1));
        }
        // the CRC must be right, too
        beyondLeaving(DAMAGED, () -> {
            forgedOut(bytesText(1) + a1);
            x.harm(x.told(6) - 1, 0);
        }, () -> x.load(1));
    }

    private static void harm() {
        Step shown = () -> {
            shared();
            x.text(0, MAP);
        };
        int length = 11;
        for (int bit = 0; bit < 8; bit++) {
            int turned = bit;
            within(0, shown, () -> harmed(0, turned));
            due(('{' ^ 1 << turned) & 255, () -> x.out(0) >>> 56);
            due(0, () -> harmed(0, turned));
            check("{\"in\":true}", outText());
            within(0, shown, () -> harmed(length - 1, turned));
            due(('}' ^ 1 << turned) & 255, () -> x.out(1) >>> 40 & 255);
        }
        for (int i : new int[] {-1, length, Integer.MIN_VALUE, Integer.MAX_VALUE}) {
            beyondLeaving(MISSING, shown, () -> harmed(i, 0));
        }
        for (int bit : new int[] {-1, 8, Integer.MIN_VALUE, Integer.MAX_VALUE}) {
            beyondLeaving(BAD, shown, () -> harmed(0, bit));
            beyondLeaving(BAD, shown, () -> harmed(length, bit));
        }
        beyondLeaving(MISSING, PromiseEdgeTest::nothing, () -> harmed(0, 0));
        // a byte of a longer OUT that was there before isn't there any more
        beyondLeaving(MISSING, () -> {
            shown.run();
            x.text(6, 0);
        }, () -> harmed(2, 0));
    }

    private static void out() {
        Step shown = () -> {
            shared();
            x.text(0, MAP);
        };
        idle(0x7b22696e223a7472L, shown, () -> x.out(0));
        idle(0x75657d0000000000L, shown, () -> x.out(1));
        idle(0, shown, () -> x.out(2));
        idle(0, shown, () -> x.out(8191));
        for (int i : new int[] {-1, 8192, Integer.MIN_VALUE, Integer.MAX_VALUE, 1 << 29}) {
            beyondLeaving(BAD, shown, () -> x.out(i));
        }
        // the highest bit of the first byte
        within(0xfb22696e223a7472L, () -> {
            shown.run();
            x.harm(0, 7);
        }, () -> x.out(0));
        // of a SAVED that is longer than 65536 bytes, the rest isn't shown, but it's there
        StringBuilder body = new StringBuilder(bytesText(1, 0, 1, 0, 1, 4000, 0, 7, 1, 'l', 0, 8, 19, 0)).append(LEAST).append(bytesText(0));
        tell(PromiseEdgeTest::nothing);
        int list = setAt(0, 0, "l", 7, 0);
        x.insert(0, list, 0, 3, Long.MIN_VALUE);
        for (int counter = 3; counter <= 4000; counter++) {
            x.put(0, list, 0, 3, Long.MIN_VALUE);
            body.append(bytesText(8, 3, 16)).append(LEAST).append(bytesText(1, 8 * (counter - 1)));
        }
        x.commit(0);
        String saved = withCrc(body.toString());
        due(saved.length(), () -> x.save(0));
        check("longer", saved.length() > 65544 ? "longer" : "shorter");
        check(saved.substring(0, 65536), outText());
        due(BAD, () -> x.out(8192));
        due(0, () -> harmed(saved.length() - 1, 0));
        due(DAMAGED, () -> x.load(1));
        due(0, () -> harmed(saved.length() - 1, 0));
        due(MISSING, () -> harmed(saved.length(), 0));
        due(1, () -> x.load(1));
        // a shorter OUT has nothing of it left
        due(2, () -> x.text(2, 0));
        due(0x7b7d000000000000L, () -> x.out(0));
        due(0, () -> x.out(1));
        due(0, () -> x.out(8191));
    }

    private static void count() {
        Step story = () -> {
            changes();
            x.join(7, 3);
            setAt(3, 0, "o", 0, 0);
            setAt(3, 0, "p", 0, 0);
            x.look(3, 0, 1);
            x.join(7, 0);
            setAt(4, 0, "q", 0, 0);
            x.commit(4);
            x.join(4, 0);
        };
        int[] ofThree = {-1, 3, 0, 1, 2, 5, 5, 1, -1, -1, -1, 2, 0, 0, 0, 0, 0, 0, 1, -1};
        int[] ofZero = {-1, 4, 0, 2, 0, 4, 3, 4, -1, -1, -1, 2, 0, 0, 0, 1, 0, 0, 1, -1};
        int[] ofTwo = {-1, 0, 1, 0, 0, 0, 0, 0, -1, -1, -1, 0, 0, 0, 0, 0, 0, 0, 0, -1};
        for (int what = -1; what < 19; what++) {
            int asked = what;
            idle(ofThree[what + 1], story, () -> x.count(3, asked));
            idle(ofZero[what + 1], story, () -> x.count(0, asked));
            idle(ofTwo[what + 1], story, () -> x.count(2, asked));
        }
        for (int what : new int[] {Integer.MIN_VALUE, Integer.MAX_VALUE, 26}) {
            idle(-1, story, () -> x.count(0, what));
            beyondLeaving(BAD, story, () -> x.count(8, what));
        }
    }

    private static void told() {
        Step story = () -> {
            changes();
            answerOf(() -> readAt(0, 0, "k", "[1,"));
            x.save(7);
            give("a");
            x.feed(0x6b6b6b6b, 0x6b6b6b6b, 0x6b6b6b6b, 0x6b6b6b6b, 0x6b6b6b6b);
        };
        int[] due = {-1, 20, 1, 3, 3, 3, 3, 1 + 11 + 13 + 13 + 4, 1, -1};
        for (int what = -1; what < 9; what++) {
            int asked = what;
            idle(due[what + 1], story, () -> x.told(asked));
        }
        idle(-1, story, () -> x.told(Integer.MIN_VALUE));
        idle(-1, story, () -> x.told(Integer.MAX_VALUE));
        int[] ofNone = {-1, 0, 0, 0, 0, 0, -1, 0, 0, -1};
        for (int what = -1; what < 9; what++) {
            int asked = what;
            idle(ofNone[what + 1], PromiseEdgeTest::nothing, () -> x.told(asked));
        }
        // WHERE 0 isn't none
        within(0, () -> answerOf(() -> readAt(0, 0, "k", "")), () -> x.told(5));
    }
}

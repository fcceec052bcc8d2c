import java.util.List;

/** Each sentence of the document's Terms that names a boundary: the last input within it and the first one beyond it. */
public final class TermsEdgeTest extends Edges {
    interface Asked {
        long answer(int r, int object);
    }

    /** A call that has a replica and an OBJECT, with what it needs to be answered in what shared tells. */
    private static final class Way {
        final String name;
        final int object;
        final Asked asked;
        final String[] given;
        boolean takes;
        boolean changes;
        int ops;
        int bytes;

        Way(String name, int object, Asked asked, String... given) {
            this.name = name;
            this.object = object;
            this.asked = asked;
            this.given = given;
        }

        Way taking() {
            takes = true;
            return this;
        }

        Way making(int ops, int bytes) {
            changes = true;
            this.ops = ops;
            this.bytes = bytes;
            return taking();
        }

        Call with(int r, int object) {
            return () -> asked.answer(r, object);
        }

        Step after(Step story) {
            return () -> {
                story.run();
                give(given);
            };
        }

        void answers(Step story, int r) {
            tell(after(story));
            String got = answerOf(with(r, object));
            check("an answer of " + name, got.startsWith("throws") ? got : "an answer of " + name);
            if (takes) {
                due(0, () -> x.told(1));
            }
        }

        void refuses(Class<?> due, Step story, int r, int object) {
            if (takes) {
                beyond(due, after(story), with(r, object));
            } else {
                beyondLeaving(due, after(story), with(r, object));
            }
        }
    }

    private static final List<Way> WAYS = List.of(
            new Way("set", 0, (r, o) -> x.set(r, o, 0, 0), "k").making(1, 1),
            new Way("set again", 0, (r, o) -> x.set(r, o, 8, 0), "n").making(1, 1),
            new Way("set a STRING", 0, (r, o) -> x.set(r, o, 4, 0), "k", "str").making(1, 4),
            new Way("put", LIST, (r, o) -> x.put(r, o, 0, 0, 0)).making(1, 0),
            new Way("put a STRING", TEXT, (r, o) -> x.put(r, o, 1, 4, 0), "str").making(1, 3),
            new Way("insert", LIST, (r, o) -> x.insert(r, o, 2, 0, 0)).making(1, 0),
            new Way("insert a STRING", TEXT, (r, o) -> x.insert(r, o, 2, 4, 0), "str").making(1, 3),
            new Way("splice", TEXT, (r, o) -> x.splice(r, o, 1, 1), "xyz").making(4, 3),
            new Way("splice that deletes", TEXT, (r, o) -> x.splice(r, o, 0, 2), "").making(2, 0),
            new Way("erase a KEY", 0, (r, o) -> x.erase(r, o, -1), "n").making(1, 1),
            new Way("erase an INDEX", LIST, (r, o) -> x.erase(r, o, 1)).making(1, 0),
            new Way("add to a KEY", 0, (r, o) -> x.add(r, o, -1, 1), "c").making(1, 1),
            new Way("add to an INDEX", LIST, (r, o) -> x.add(r, o, 0, 1)).making(1, 0),
            new Way("read", 0, (r, o) -> x.read(r, o), "k", "{\"ab\":[\"cd\",1]}").making(4, 5),
            new Way("object", LIST, (r, o) -> x.object(r, o, 1)),
            new Way("key", MAP, (r, o) -> x.key(r, o, 0, 0)),
            new Way("candidate of a KEY", MAP, (r, o) -> x.candidate(r, o, -1, 0, 0), "in").taking(),
            new Way("candidate of an INDEX", LIST, (r, o) -> x.candidate(r, o, 0, 0, 0)).taking(),
            new Way("element", LIST, (r, o) -> x.element(r, o, 0)),
            new Way("index", LIST, (r, o) -> x.index(r, o, IN_LIST)),
            new Way("text", MAP, (r, o) -> x.text(r, o)));

    public static void main(String[] args) {
        test("512 calls", TermsEdgeTest::manyCalls);
        test("ARGUMENTS: as many as stand in [ ]", TermsEdgeTest::numberOfArguments);
        test("ARGUMENTS: taken by calls with [ ], left by others", TermsEdgeTest::takenArguments);
        test("STRING: at most 1024 bytes", TermsEdgeTest::strings);
        test("KEY: 1 to 64 bytes", TermsEdgeTest::keys);
        test("OPIDS", TermsEdgeTest::opids);
        test("VISIBLE: + wraps", TermsEdgeTest::counters);
        test("CANDIDATES: without any, nothing is there", TermsEdgeTest::candidates);
        test("ELEMENTS: the greatest OPID first", TermsEdgeTest::elements);
        test("INDEX: any other i is missing", TermsEdgeTest::indices);
        test("CHANGES WAIT until a replica has their DEPS", TermsEdgeTest::waiting);
        test("replicas: a number out of range is bad", TermsEdgeTest::replicas);
        test("FULL: 4000 OPS", TermsEdgeTest::fullOps);
        test("FULL: 24576 bytes", TermsEdgeTest::fullBytes);
        test("FULL: 1000 CHANGES", TermsEdgeTest::fullChanges);
        test("VIEW isn't all", TermsEdgeTest::views);
        test("an OBJECT is there or missing", TermsEdgeTest::objects);
        test("a MAP asked as a LIST is bad, behind missing", TermsEdgeTest::kinds);
        test("bad, missing, REFUSED, FULL", TermsEdgeTest::order);
        test("JSON", TermsEdgeTest::json);
        test("BYTES", TermsEdgeTest::bytesOfNumbers);
        conclude("the edges of the terms hold");
    }

    private static void manyCalls() {
        // 511 calls, and the 512th is still answered as due
        int list = setAt(0, 0, "l", 7, 0);
        for (int i = 3; i < 511; i++) {
            x.insert(0, list, i - 3, 3, i);
        }
        due(508, () -> x.object(0, list, 1));
    }

    private static void numberOfArguments() {
        String[][] givens = {{}, {"n"}, {"n", "str"}};
        for (Way way : WAYS) {
            for (String[] given : givens) {
                if (way.takes && given.length != way.given.length) {
                    Step story = () -> {
                        shared();
                        give(given);
                    };
                    beyond(BAD, story, way.with(0, way.object));
                }
            }
        }
        beyond(BAD, () -> shared(), () -> x.find(0));
        beyond(BAD, () -> {
            shared();
            give("m", "m");
        }, () -> x.find(0));
        within(MAP, () -> {
            shared();
            give("m");
        }, () -> x.find(0));
    }

    private static void takenArguments() {
        for (Way way : WAYS) {
            way.answers(TermsEdgeTest::shared, 0);
            if (!way.takes) {
                // two ARGUMENTS stay, when it's answered and when it isn't
                Step story = () -> {
                    shared();
                    give("k", "str");
                };
                tell(story);
                answerOf(way.with(0, way.object));
                due(2, () -> x.told(1));
                due(NEXT, () -> x.set(0, 0, 4, 0));
                beyondLeaving(MISSING, story, way.with(0, 7777));
            }
        }
        Step story = () -> {
            shared();
            x.save(0);
            give("k", "str");
        };
        Call[] others = {
            () -> x.feed(0, 0, 0, 0, 0), () -> x.commit(0), () -> x.drop(0), () -> x.send(0, 6, 0, 1), () -> x.join(0, 6),
            () -> x.look(0, -1, 0), () -> x.letter(0, STRING, 0), () -> x.save(0), () -> x.load(6), () -> harmed(0, 0),
            () -> x.out(0), () -> x.count(0, 0), () -> x.told(0), () -> x.commit(8), () -> x.drop(8), () -> x.send(0, 6, 8, 1),
            () -> x.join(8, 6), () -> x.look(0, 8, 0), () -> x.letter(0, STRING, 9), () -> x.save(8), () -> x.load(8),
            () -> harmed(0, 8), () -> x.out(-1), () -> x.count(8, 0),
        };
        for (Call other : others) {
            tell(story);
            answerOf(other);
            due(2, () -> x.told(1));
            due(NEXT, () -> x.set(0, 0, 4, 0));
            shows("{\"in\":true}", 0, MAP);
        }
    }

    private static void strings() {
        Asked[] calls = {
            (r, o) -> x.set(r, 0, 4, 0), (r, o) -> x.put(r, LIST, 0, 4, 0), (r, o) -> x.insert(r, LIST, 0, 4, 0),
            (r, o) -> x.splice(r, TEXT, 0, 0),
        };
        for (int i = 0; i < calls.length; i++) {
            Asked call = calls[i];
            boolean isSet = i == 0;
            boolean isSplice = i == 3;
            for (int length : new int[] {0, 1, 1023, 1024}) {
                String string = "\u00ff".repeat(length);
                within(isSplice ? 2 + length : NEXT, () -> giveAfterShared(isSet, string), () -> call.answer(0, 0));
                if (!isSplice) {
                    endsAt(length);
                }
                due((isSet ? 1 : 0) + length + 13, () -> x.told(4));
            }
            for (int length : new int[] {1025, 1044}) {
                beyond(BAD, () -> giveAfterShared(isSet, "s".repeat(length)), () -> call.answer(0, 0));
            }
        }
    }

    /** The STRING that the OP made has just so many bytes. */
    private static void endsAt(int length) {
        if (length > 0) {
            due(255, () -> x.letter(0, NEXT, length - 1));
        }
        due(MISSING, () -> x.letter(0, NEXT, length));
    }

    private static void giveAfterShared(boolean withKey, String string) {
        shared();
        if (withKey) {
            give("k");
        }
        give(string);
    }

    private static void keys() {
        for (int length : new int[] {1, 2, 63, 64}) {
            String key = "\u0000".repeat(length);
            within(NEXT, TermsEdgeTest::shared, () -> setAt(0, 0, key, 5, 1));
            due(length, () -> x.key(0, 0, 0, -1));
            due(NEXT + 8, () -> addAt(0, 0, key, 1));
            due(2, () -> candidateAt(0, 0, key, 0, 2));
            due(NEXT + 16, () -> readAt(0, 0, key, "1"));
            due(NEXT + 24, () -> setString(0, 0, key, "s"));
            due(NEXT + 32, () -> eraseAt(0, 0, key));
            due(MISSING, () -> candidateAt(0, 0, key, 0, 0));
        }
        for (int length : new int[] {0, 65, 1024}) {
            String key = "k".repeat(length);
            Step one = () -> {
                shared();
                give(key);
            };
            Step two = () -> {
                shared();
                give(key, "1");
            };
            beyond(BAD, one, () -> x.set(0, 0, 0, 0));
            beyond(BAD, two, () -> x.set(0, 0, 4, 0));
            beyond(BAD, one, () -> x.erase(0, 0, -1));
            beyond(BAD, one, () -> x.add(0, 0, -1, 0));
            beyond(BAD, one, () -> x.candidate(0, 0, -1, 0, 0));
            beyond(BAD, two, () -> x.read(0, 0));
            beyond(BAD, one, () -> x.find(0));
        }
    }

    private static void opids() {
        // COUNTER 1 or more, ACTOR 0 .. 7
        for (int r = 0; r < 8; r++) {
            int replica = r;
            within(8 + r, TermsEdgeTest::nothing, () -> setAt(replica, 0, "k", 0, 0));
            due(16 + r, () -> setAt(replica, 0, "k", 0, 0));
        }
        // one more than the greatest that the replica has; what WAITS isn't had
        tell(TermsEdgeTest::shared);
        setAt(0, 0, "k", 0, 0);
        x.commit(0);
        x.send(0, 6, 0, 2);
        due(0, () -> x.count(6, 5));
        due(8 + 6, () -> setAt(6, 0, "k", 0, 0));
        x.drop(6);
        due(2, () -> x.send(0, 6, 0, 1));
        due(8 * 13 + 6, () -> setAt(6, 0, "k", 0, 0));
        // a smaller one that comes doesn't matter
        setAt(5, 0, "k", 0, 0);
        x.commit(5);
        x.commit(6);
        x.join(6, 5);
        due(8 * 14 + 5, () -> setAt(5, 0, "k", 0, 0));
        // what went gives its COUNTER back
        x.drop(5);
        due(8 * 14 + 5, () -> setAt(5, 0, "k", 0, 0));
    }

    private static void counters() {
        long[][] sums = {{Long.MAX_VALUE, 1, Long.MIN_VALUE}, {Long.MAX_VALUE, 0, Long.MAX_VALUE}, {Long.MIN_VALUE, -1, Long.MAX_VALUE},
            {Long.MIN_VALUE, Long.MIN_VALUE, 0}, {Long.MAX_VALUE, Long.MAX_VALUE, -2}, {Long.MIN_VALUE, Long.MAX_VALUE, -1}, {0, 0, 0}};
        for (long[] sum : sums) {
            x = new JoinedTrees();
            setAt(0, 0, "c", 5, sum[0]);
            due(16, () -> addAt(0, 0, "c", sum[1]));
            due(sum[2], () -> candidateAt(0, 0, "c", 0, 2));
            shows("{\"c\":" + sum[2] + "}", 0, 0);
        }
        // each counter has the ADDS of those that knew it
        x = new JoinedTrees();
        for (int r = 0; r < 2; r++) {
            setAt(r, 0, "c", 5, 10 * r + 10);
            addAt(r, 0, "c", r + 1);
            x.commit(r);
        }
        x.join(0, 1);
        due(22, () -> candidateAt(1, 0, "c", 0, 2));
        due(11, () -> candidateAt(1, 0, "c", 1, 2));
        addAt(1, 0, "c", 100);
        due(122, () -> candidateAt(1, 0, "c", 0, 2));
        due(111, () -> candidateAt(1, 0, "c", 1, 2));
        // ADDS of three replicas wrap twice, whatever came first
        x = new JoinedTrees();
        setAt(0, 0, "c", 5, Long.MAX_VALUE);
        x.commit(0);
        x.join(0, 1);
        x.join(0, 2);
        for (int r = 0; r < 3; r++) {
            addAt(r, 0, "c", Long.MAX_VALUE);
            x.commit(r);
        }
        for (int r = 0; r < 3; r++) {
            x.join(r, 3);
        }
        due(-4, () -> candidateAt(3, 0, "c", 0, 2));
        // an ADD to a number that isn't a counter any more is nowhere
        setAt(3, 0, "c", 3, 1);
        due(1, () -> candidateAt(3, 0, "c", 0, 2));
        due(MISSING, () -> addAt(3, 0, "c", 1));
    }

    private static void candidates() {
        tell(TermsEdgeTest::shared);
        due(1, () -> candidateAt(0, 0, "n", 0, 4));
        eraseAt(0, 0, "n");
        Step erased = () -> {
            shared();
            eraseAt(0, 0, "n");
            x.erase(0, LIST, 1);
            x.erase(0, LIST, 0);
            give("n");
        };
        beyond(MISSING, erased, () -> x.candidate(0, 0, -1, 0, 4));
        beyond(MISSING, erased, () -> x.erase(0, 0, -1));
        beyond(MISSING, erased, () -> x.add(0, 0, -1, 1));
        beyond(MISSING, erased, () -> x.find(0));
        Step erasedAll = () -> {
            shared();
            x.erase(0, LIST, 1);
            x.erase(0, LIST, 0);
        };
        beyond(MISSING, erasedAll, () -> x.candidate(0, LIST, 0, 0, 4));
        beyond(MISSING, erasedAll, () -> x.erase(0, LIST, 0));
        beyond(MISSING, erasedAll, () -> x.put(0, LIST, 0, 0, 0));
        beyondLeaving(MISSING, erasedAll, () -> x.element(0, LIST, 0));
        within(0, erasedAll, () -> x.object(0, LIST, 1));
        // what was deleted can be set again
        tell(erasedAll);
        due(NEXT + 16, () -> x.insert(0, LIST, 0, 3, 4));
        due(1, () -> x.object(0, LIST, 1));
        // what is set at the same time stays, until one sets it who has all: eight, then one
        tell(TermsEdgeTest::nothing);
        for (int r = 0; r < 8; r++) {
            setAt(r, 0, "k", 3, r);
            x.commit(r);
        }
        for (int r = 0; r < 8; r++) {
            x.join(r, 4);
            int more = r < 4 ? r + 2 : r + 1;
            due(more, () -> candidateAt(4, 0, "k", 0, 4));
        }
        due(15, () -> candidateAt(4, 0, "k", 0, 1));
        due(8, () -> candidateAt(4, 0, "k", 7, 1));
        // the greatest OPID first, also if it was made first
        tell(TermsEdgeTest::nothing);
        for (int r = 7; r >= 0; r--) {
            for (int i = 0; i <= r % 3; i++) {
                setAt(r, 0, "k", 3, 10 * r + i);
            }
            x.commit(r);
        }
        for (int r = 7; r > 0; r--) {
            x.join(r, 0);
        }
        int[] due = {52, 22, 71, 41, 11, 60, 30, 0};
        for (int c = 0; c < 8; c++) {
            int number = c;
            due(due[c], () -> candidateAt(0, 0, "k", number, 2));
        }
        // a DELETE goes with what its replica had; others stay
        tell(TermsEdgeTest::nothing);
        setAt(4, 0, "k", 3, 1);
        x.commit(4);
        x.join(4, 5);
        eraseAt(4, 0, "k");
        due(MISSING, () -> candidateAt(4, 0, "k", 0, 4));
        x.commit(4);
        setAt(5, 0, "k", 3, 50);
        x.commit(5);
        x.join(5, 4);
        due(1, () -> candidateAt(4, 0, "k", 0, 4));
        due(50, () -> candidateAt(4, 0, "k", 0, 2));
    }

    private static void elements() {
        // at the beginning, at the end, and behind one that all erase: whichever replica does it first
        for (int[] order : new int[][] {{0, 1, 2}, {2, 1, 0}, {1, 2, 0}}) {
            tell(TermsEdgeTest::nothing);
            int list = setAt(0, 0, "l", 7, 0);
            x.insert(0, list, 0, 3, 1);
            x.insert(0, list, 1, 3, 2);
            x.commit(0);
            x.join(0, 1);
            x.join(0, 2);
            for (int r : order) {
                x.insert(r, list, 0, 3, 10 + r);
                x.insert(r, list, 3, 3, 20 + r);
                x.insert(r, list, 2, 3, 30 + r);
                x.erase(r, list, 1);
                x.commit(r);
            }
            x.join(0, 1);
            x.join(2, 1);
            x.join(1, 0);
            x.join(1, 2);
            for (int r = 0; r < 3; r++) {
                shows("[12,11,10,32,31,30,2,22,21,20]", r, list);
            }
            // the ELEMENT that all erased still has its place
            due(3, () -> x.index(0, list, 16));
            due(32, () -> x.candidate(0, list, 3, 0, 2));
            due(31, () -> x.candidate(0, list, 4, 0, 2));
        }
        // one made without those of others, but with a smaller OPID, goes behind them and all that's behind them
        tell(TermsEdgeTest::nothing);
        int list = setAt(0, 0, "l", 7, 0);
        x.commit(0);
        x.join(0, 1);
        for (int i = 0; i < 3; i++) {
            x.insert(1, list, i, 3, 10 + i);
        }
        x.insert(0, list, 0, 3, 0);
        x.insert(0, list, 1, 3, 1);
        x.commit(0);
        x.commit(1);
        x.join(0, 1);
        shows("[10,11,12,0,1]", 1, list);
    }

    private static void indices() {
        int[] beyondTwo = {2, 3, Integer.MAX_VALUE, -2, Integer.MIN_VALUE};
        for (int object : new int[] {LIST, TEXT}) {
            for (int i : new int[] {0, 1}) {
                within(NEXT, TermsEdgeTest::shared, () -> x.put(0, object, i, 0, 0));
                within(NEXT, TermsEdgeTest::shared, () -> x.erase(0, object, i));
                within(1, TermsEdgeTest::shared, () -> x.candidate(0, object, i, 0, 4));
                within((object == LIST ? IN_LIST : IN_TEXT) + 8 * i, TermsEdgeTest::shared, () -> x.element(0, object, i));
            }
            for (int i : beyondTwo) {
                beyond(MISSING, TermsEdgeTest::shared, () -> x.put(0, object, i, 0, 0));
                beyond(MISSING, TermsEdgeTest::shared, () -> x.erase(0, object, i));
                beyond(MISSING, TermsEdgeTest::shared, () -> x.add(0, object, i, 0));
                beyond(MISSING, TermsEdgeTest::shared, () -> x.candidate(0, object, i, 0, 4));
                beyondLeaving(MISSING, TermsEdgeTest::shared, () -> x.element(0, object, i));
            }
            // -1 is missing where no KEY is meant by it, else bad
            beyond(MISSING, TermsEdgeTest::shared, () -> x.put(0, object, -1, 0, 0));
            beyond(MISSING, TermsEdgeTest::shared, () -> x.insert(0, object, -1, 0, 0));
            beyondLeaving(MISSING, TermsEdgeTest::shared, () -> x.element(0, object, -1));
            Step withKey = () -> {
                shared();
                give("n");
            };
            beyond(BAD, withKey, () -> x.erase(0, object, -1));
            beyond(BAD, withKey, () -> x.add(0, object, -1, 0));
            beyond(BAD, withKey, () -> x.candidate(0, object, -1, 0, 4));
        }
        within(NEXT, TermsEdgeTest::shared, () -> x.add(0, LIST, 0, 1));
        beyond(MISSING, TermsEdgeTest::shared, () -> x.add(0, LIST, 1, 1));
        // of none
        tell(TermsEdgeTest::nothing);
        setAt(0, 0, "l", 7, 0);
        due(MISSING, () -> x.element(0, 8, 0));
        due(16, () -> x.insert(0, 8, 0, 0, 0));
    }

    private static void waiting() {
        // three in a row, the last one first; then one that depends on two ACTORS
        Step three = () -> {
            for (int i = 0; i < 3; i++) {
                setAt(0, 0, "k", 3, i);
                x.commit(0);
            }
        };
        tell(three);
        due(0, () -> x.send(0, 1, 0, 3));
        due(0, () -> x.send(0, 1, 0, 2));
        due(2, () -> x.count(1, 1));
        due(3, () -> x.send(0, 1, 0, 1));
        due(0, () -> x.count(1, 1));
        tell(three);
        setAt(2, 0, "o", 3, 9);
        x.commit(2);
        x.join(0, 2);
        setAt(2, 0, "k", 3, 10);
        x.commit(2);
        due(0, () -> x.send(2, 1, 2, 2));
        due(1, () -> x.send(2, 1, 2, 1));
        due(1, () -> x.send(2, 1, 0, 1));
        due(1, () -> x.send(2, 1, 0, 2));
        due(1, () -> x.count(1, 1));
        due(2, () -> x.send(2, 1, 0, 3));
        shows("{\"k\":10,\"o\":9}", 1, 0);
        due(1, () -> x.count(1, 2));
    }

    private static void replicas() {
        Step story = () -> {
            shared();
            x.join(0, 6);
        };
        for (Way way : WAYS) {
            way.answers(story, 0);
            way.answers(story, 7);
            for (int r : new int[] {-1, 8, Integer.MIN_VALUE, Integer.MAX_VALUE}) {
                way.refuses(BAD, story, r, way.object);
            }
        }
        Step open = () -> {
            shared();
            x.save(0);
            setAt(7, 0, "k", 0, 0);
            setAt(0, 0, "k", 0, 0);
            give("m");
        };
        Asked[] others = {
            (r, o) -> x.commit(r), (r, o) -> x.drop(r), (r, o) -> x.look(r, 0, 1), (r, o) -> x.letter(r, STRING, 0),
            (r, o) -> x.count(r, 0), (r, o) -> x.send(r, 1, 0, 1), (r, o) -> x.join(r, 1),
        };
        for (Asked other : others) {
            for (int r : new int[] {0, 7}) {
                tell(open);
                check("an answer", answerOf(() -> other.answer(r, 0)).startsWith("throws") ? "none" : "an answer");
            }
            for (int r : new int[] {-1, 8, Integer.MIN_VALUE, Integer.MAX_VALUE}) {
                beyondLeaving(BAD, open, () -> other.answer(r, 0));
            }
        }
        Step saved = () -> {
            shared();
            x.save(0);
        };
        Asked[] takers = {(r, o) -> x.send(1, r, 0, 1), (r, o) -> x.join(1, r), (r, o) -> x.save(r), (r, o) -> x.load(r)};
        for (Asked taker : takers) {
            for (int r : new int[] {0, 7}) {
                tell(saved);
                check("an answer", answerOf(() -> taker.answer(r, 0)).startsWith("throws") ? "none" : "an answer");
            }
            for (int r : new int[] {-1, 8, Integer.MIN_VALUE, Integer.MAX_VALUE}) {
                beyondLeaving(BAD, saved, () -> taker.answer(r, 0));
            }
        }
        Step withPath = () -> {
            shared();
            give("m");
        };
        within(MAP, withPath, () -> x.find(0));
        within(MAP, withPath, () -> x.find(7));
        beyond(BAD, withPath, () -> x.find(-1));
        beyond(BAD, withPath, () -> x.find(8));
    }

    private static void fullOps() {
        for (Way way : WAYS) {
            if (way.changes) {
                way.answers(() -> sharedThen(() -> leaveOps(way.ops)), 0);
                due(4000, () -> x.told(2));
                way.refuses(FULL, () -> sharedThen(() -> leaveOps(way.ops - 1)), 0, way.object);
            }
        }
        // OPEN ones count, those that went too
        tell(() -> leaveOps(1));
        due(0, () -> x.count(6, 4));
        due(8, () -> setAt(0, 0, "k", 0, 0));
        due(FULL, () -> setAt(1, 0, "k", 0, 0));
        due(1, () -> x.drop(0));
        due(FULL, () -> setAt(0, 0, "k", 0, 0));
        // what makes none is no matter
        tell(() -> sharedThen(() -> leaveOps(0)));
        due(2, () -> spliceAt(0, TEXT, 2, 0, ""));
        due(1, () -> x.join(0, 6));
        due(1, () -> x.look(0, 0, 1));
        // an OP that is made before it's FULL becomes a CHANGE
        tell(() -> leaveOps(1));
        setAt(0, 0, "k", 0, 0);
        due(1, () -> x.commit(0));
    }

    private static void sharedThen(Step more) {
        shared();
        more.run();
    }

    private static void fullBytes() {
        for (Way way : WAYS) {
            if (way.changes) {
                way.answers(() -> sharedThen(() -> leaveBytes(way.bytes)), 0);
                due(24576, () -> x.told(4));
                if (way.bytes > 0) {
                    way.refuses(FULL, () -> sharedThen(() -> leaveBytes(way.bytes - 1)), 0, way.object);
                }
            }
        }
        // those that went count
        tell(() -> leaveBytes(64));
        due(8, () -> setAt(0, 0, "k".repeat(64), 0, 0));
        due(1, () -> x.drop(0));
        due(FULL, () -> setAt(0, 0, "k", 0, 0));
        due(24576, () -> x.told(4));
    }

    private static void fullChanges() {
        Step last = () -> sharedThen(() -> {
            leaveChanges(1);
            setAt(0, 0, "k", 0, 0);
            setAt(1, 0, "k", 0, 0);
        });
        within(2, last, () -> x.commit(0));
        due(1000, () -> x.told(3));
        due(FULL, () -> x.commit(1));
        due(1, () -> x.count(1, 3));
        Step none = () -> sharedThen(() -> {
            leaveChanges(0);
            setAt(0, 0, "k", 0, 0);
        });
        beyondLeaving(FULL, none, () -> x.commit(0));
        beyondLeaving(REFUSED, none, () -> x.commit(1));
        beyondLeaving(BAD, none, () -> x.commit(8));
        // all 1000 of one ACTOR: what goes then isn't shown, what stays is
        tell(() -> leaveChanges(0));
        due(1000, () -> x.count(6, 16));
        due(8 * 1001 + 6, () -> setAt(6, 0, "o", 0, 0));
        shows("{\"k\":null,\"o\":null}", 6, 0);
        due(1, () -> x.drop(6));
        shows("{\"k\":null}", 6, 0);
        due(1000, () -> x.look(6, 6, 1000));
        // OPEN OPS can still be made, and go
        tell(none);
        due(NEXT + 8, () -> setAt(0, 0, "k", 0, 0));
        due(2, () -> x.drop(0));
        due(1000, () -> x.join(0, 6) + x.count(6, 0) - 1);
    }

    private static void views() {
        Step back = () -> {
            looking();
            for (int r = 0; r < 8; r++) {
                x.look(r, -1, 0);
            }
        };
        for (Way way : WAYS) {
            // the VIEW of the only CHANGE isn't all; what is asked is answered by it
            if (way.changes) {
                way.refuses(REFUSED, TermsEdgeTest::looking, 0, way.object);
                way.answers(back, 0);
            } else {
                way.answers(TermsEdgeTest::looking, 0);
            }
        }
        // OPEN OPS aren't in it
        Step open = () -> {
            shared();
            setAt(0, 0, "o", 6, 0);
            x.insert(0, LIST, 2, 0, 0);
        };
        within(7, open, () -> x.object(0, 0, 1));
        due(3, () -> x.object(0, LIST, 1));
        x.look(0, 0, 1);
        due(6, () -> x.object(0, 0, 1));
        due(2, () -> x.object(0, LIST, 1));
        due(MISSING, () -> x.object(0, NEXT, 0));
        due(2, () -> x.count(0, 3));
        // each replica has its own VIEW
        tell(TermsEdgeTest::shared);
        x.look(0, 0, 1);
        due(NEXT + 1, () -> setAt(1, 0, "k", 0, 0));
        due(REFUSED, () -> setAt(0, 0, "k", 0, 0));
    }

    private static void objects() {
        int[] none = {-1, -8, Integer.MIN_VALUE, 1, 7, 9, MAP + 1, COUNTER, NUMBER, STRING, IN_LIST, IN_TEXT, IN_MAP, NEXT, 31999, 32000, 32007,
            32008, Integer.MAX_VALUE};
        for (Way way : WAYS) {
            for (int object : none) {
                way.refuses(MISSING, TermsEdgeTest::shared, 0, object);
            }
            // replica 6 hasn't got it (the ROOT is always there)
            if (way.object != 0) {
                way.refuses(MISSING, TermsEdgeTest::shared, 6, way.object);
            }
            // VISIBLE or not
            if (way.object == MAP || way.object == LIST || way.object == TEXT) {
                way.answers(() -> sharedThen(() -> setAt(0, 0, "mlt".substring(way.object / 8 - 1, way.object / 8), 0, 0)), 0);
            }
        }
        // the OPID of a DELETE, and one that another replica holds OPEN
        Step erased = () -> sharedThen(() -> {
            eraseAt(0, 0, "m");
            setAt(1, 0, "o", 6, 0);
        });
        within(6, erased, () -> x.object(0, MAP, 0));
        beyondLeaving(MISSING, erased, () -> x.object(0, NEXT, 0));
        beyondLeaving(MISSING, erased, () -> x.object(0, NEXT + 1, 0));
        within(6, erased, () -> x.object(1, NEXT + 1, 0));
        // an OBJECT in an OBJECT that was dropped
        Step dropped = () -> sharedThen(() -> {
            setAt(0, 0, "o", 7, 0);
            x.drop(0);
        });
        beyond(MISSING, dropped, () -> x.insert(0, NEXT, 0, 0, 0));
        // after another OP got its OPID
        tell(dropped);
        setAt(0, 0, "o", 6, 0);
        due(6, () -> x.object(0, NEXT, 0));
    }

    private static void kinds() {
        for (Way way : WAYS) {
            boolean any = way.name.equals("object") || way.name.equals("text");
            int[] wrong = any ? new int[0] : way.object == 0 || way.object == MAP ? new int[] {LIST, TEXT}
                    : way.name.startsWith("splice") ? new int[] {0, MAP, LIST} : new int[] {0, MAP};
            for (int object : wrong) {
                way.refuses(BAD, TermsEdgeTest::shared, 0, object);
                way.refuses(BAD, TermsEdgeTest::looking, 0, object);
                if (object != 0) {
                    way.refuses(MISSING, TermsEdgeTest::shared, 6, object);
                }
            }
        }
        // where the INDEX would be missing, too
        for (int i : new int[] {-2, 0, 9}) {
            beyond(BAD, TermsEdgeTest::shared, () -> x.put(0, MAP, i, 0, 0));
            beyond(BAD, TermsEdgeTest::shared, () -> x.insert(0, MAP, i, 0, 0));
            beyond(BAD, TermsEdgeTest::shared, () -> x.erase(0, MAP, i));
            beyond(BAD, TermsEdgeTest::shared, () -> x.add(0, MAP, i, 0));
            beyond(BAD, TermsEdgeTest::shared, () -> x.candidate(0, MAP, i, 0, 0));
            beyondLeaving(BAD, TermsEdgeTest::shared, () -> x.element(0, MAP, i));
            beyondLeaving(BAD, TermsEdgeTest::shared, () -> x.key(0, LIST, i, 0));
            beyondLeaving(BAD, TermsEdgeTest::shared, () -> x.index(0, MAP, i));
        }
    }

    private static void order() {
        for (Way way : WAYS) {
            if (way.changes) {
                Step full = () -> {
                    shared();
                    leaveOps(0);
                };
                Step fullAndLooking = () -> {
                    looking();
                    leaveOps(0);
                };
                way.refuses(FULL, full, 0, way.object);
                way.refuses(REFUSED, fullAndLooking, 0, way.object);
                way.refuses(MISSING, fullAndLooking, 0, 7777);
                way.refuses(MISSING, full, 0, 7777);
                way.refuses(BAD, fullAndLooking, 8, 7777);
            }
        }
        Step looking = () -> {
            looking();
            give("zz");
        };
        // a place that is missing, ahead of a VIEW that isn't all
        beyond(MISSING, looking, () -> x.erase(0, 0, -1));
        beyond(MISSING, looking, () -> x.add(0, 0, -1, 0));
        beyond(MISSING, looking, () -> x.splice(0, TEXT, 3, 0));
        beyond(MISSING, looking, () -> x.splice(0, TEXT, 1, 2));
        beyond(MISSING, TermsEdgeTest::looking, () -> x.put(0, LIST, 2, 0, 0));
        beyond(MISSING, TermsEdgeTest::looking, () -> x.insert(0, LIST, 3, 0, 0));
        beyond(MISSING, TermsEdgeTest::looking, () -> x.erase(0, LIST, 2));
        beyond(MISSING, TermsEdgeTest::looking, () -> x.add(0, LIST, 1, 0));
        // a bad sort or n ahead of an OBJECT that is missing
        beyond(BAD, looking, () -> x.set(0, 7777, 9, 0));
        beyond(BAD, looking, () -> x.splice(0, 7777, 0, -1));
        beyond(BAD, TermsEdgeTest::looking, () -> x.put(0, 7777, 0, 9, 0));
        beyond(BAD, TermsEdgeTest::looking, () -> x.insert(0, 7777, 0, -1, 0));
    }

    private static void json() {
        // each byte as a STRING, a KEY and a byte of a TEXT
        for (int b = 0; b < 256; b++) {
            String hex = "0123456789abcdef";
            char c = (char) b;
            String due = b == '"' ? "\\\"" : b == '\\' ? "\\\\" : b == '\n' ? "\\n"
                    : b < 32 || b > 126 ? "\\x" + hex.charAt(b / 16) + hex.charAt(b % 16) : String.valueOf(c);
            x = new JoinedTrees();
            setString(0, 0, String.valueOf(c), String.valueOf(c));
            int text = setAt(0, 0, "kk", 8, 0);
            spliceAt(0, text, 0, 0, String.valueOf(c));
            shows("\"" + due + "\"", 0, text);
            String own = "\"" + due + "\":\"" + due + "\"";
            String other = "\"kk\":\"" + due + "\"";
            shows("{" + (b <= 'k' ? own + "," + other : other + "," + own) + "}", 0, 0);
        }
        // numbers
        for (long n : new long[] {0, 1, 9, 10, 11, 99, 100, -1, -9, -10, -100, 999999999999999999L, 1000000000000000000L, -1000000000000000000L,
            Long.MAX_VALUE, Long.MAX_VALUE - 1, Long.MIN_VALUE, Long.MIN_VALUE + 1}) {
            x = new JoinedTrees();
            setAt(0, 0, "n", 3, n);
            setAt(0, 0, "c", 5, n);
            shows("{\"c\":" + n + ",\"n\":" + n + "}", 0, 0);
        }
        // KEYS by bytes without sign, a beginning first
        x = new JoinedTrees();
        for (String key : new String[] {"\u00ff", "b", "ab", "\u0080", "a", "\u007f", "a\u0000", "aa"}) {
            setAt(0, 0, key, 0, 0);
        }
        shows("{\"a\":null,\"a\\x00\":null,\"aa\":null,\"ab\":null,\"b\":null,\"\\x7f\":null,\"\\x80\":null,\"\\xff\":null}", 0, 0);
        // what has nothing in it, in what has only that
        x = new JoinedTrees();
        shows("{}", 0, 0);
        readAt(0, 0, "k", "[{},[],[[]],{\"a\":{}}]");
        shows("{\"k\":[{},[],[[]],{\"a\":{}}]}", 0, 0);
        // what's no STRING in a TEXT is left out, a longer STRING isn't
        x = new JoinedTrees();
        int text = setAt(0, 0, "t", 8, 0);
        for (int sort = 0; sort < 9; sort++) {
            if (sort == 4) {
                give("a\"b");
            }
            x.insert(0, text, sort, sort, 7);
        }
        give("");
        x.insert(0, text, 9, 4, 0);
        shows("\"a\\\"b\"", 0, text);
        due(10, () -> x.object(0, text, 1));
        for (int i = 9; i >= 0; i--) {
            x.erase(0, text, i);
        }
        shows("{\"t\":\"\"}", 0, 0);
    }

    private static void bytesOfNumbers() {
        // of longs, at each edge of a group
        for (int bits = 6; bits < 63; bits += 7) {
            long edge = 1L << bits;
            for (long n : new long[] {edge - 1, edge, -edge, -edge - 1}) {
                savesNumber(n);
            }
        }
        for (long n : new long[] {0, 1, -1, Long.MAX_VALUE, Long.MIN_VALUE, Long.MAX_VALUE - 1, Long.MIN_VALUE + 1}) {
            savesNumber(n);
        }
        // of lengths and OPIDS: 127 and 128, 16383 and 16384
        for (int length : new int[] {0, 1, 127, 128, 1024}) {
            x = new JoinedTrees();
            setString(0, 0, "k", "s".repeat(length));
            x.commit(0);
            saves(bytesText(1, 0, 1, 0, 1, 1, 0, 4, 1, 'k', length) + "s".repeat(length) + bytesText(0), 0);
        }
        for (int ops : new int[] {15, 16, 2047, 2048}) {
            x = new JoinedTrees();
            int text = setAt(0, 0, "t", 8, 0);
            while (x.count(0, 4) < ops) {
                spliceAt(0, text, 0, 0, "a".repeat(Math.min(1000, ops - x.count(0, 4))));
            }
            x.commit(0);
            x.insert(0, text, 0, 0, 0);
            x.put(0, text, 0, 2, 0);
            x.commit(0);
            x.save(0);
            int id = 8 * (ops + 1);
            String second = bytesText(0, 2, 1, 0, 1, ops + 1, 2, 8, 16, 0, 0, 8, 2, id, 1, id);
            String saved = outText();
            check(withCrc(saved.substring(0, saved.length() - 4)), saved);
            check(second, saved.substring(saved.length() - 4 - second.length(), saved.length() - 4));
        }
        // of the number of CHANGES: 127 and 128
        x = new JoinedTrees();
        for (int i = 1; i <= 129; i++) {
            setAt(0, 0, "k", 0, 0);
            x.commit(0);
            int number = i;
            x.save(0);
            check(bytesText(number), outText().substring(0, i < 128 ? 1 : 2));
        }
    }

    private static void savesNumber(long n) {
        StringBuilder number = new StringBuilder();
        long rest = n < 0 ? -2 * n - 1 : 2 * n;
        while (Long.compareUnsigned(rest, 127) > 0) {
            number.append((char) (rest & 127 | 128));
            rest >>>= 7;
        }
        number.append((char) rest);
        x = new JoinedTrees();
        setAt(0, 0, "n", 3, n);
        setAt(0, 0, "c", 5, n);
        addAt(0, 0, "c", n);
        x.commit(0);
        saves(bytesText(1, 0, 1, 0, 1, 3) + bytesText(0, 3, 1, 'n') + number + bytesText(0, 0, 5, 1, 'c') + number + bytesText(0, 0, 10, 1, 'c')
                + number + bytesText(1, 16), 0);
        due(1, () -> x.load(1));
        due(n, () -> candidateAt(1, 0, "n", 0, 2));
        due(2 * n, () -> candidateAt(1, 0, "c", 0, 2));
    }
}

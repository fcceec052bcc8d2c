/** For an edge of the document: the last input within it, the first one beyond it, and that a refused call changes nothing. */
class Edges extends Trial {
    /** Above this, a document is compared by its text and its SAVED alone: the tests shall not take minutes. */
    private static final int FEW_OPS = 60;

    static final int MAP = 8;
    static final int LIST = 16;
    static final int TEXT = 24;
    static final int COUNTER = 32;
    static final int NUMBER = 40;
    static final int STRING = 48;
    static final int IN_LIST = 56;
    static final int IN_TEXT = 72;
    static final int IN_MAP = 88;
    /** What the next OP of the replica that told some gets as OPID. */
    static final int NEXT = 96;

    static void nothing() {
    }

    /** Eleven OPS of replica 0, OPEN: something of each kind. */
    static void some() {
        setAt(0, 0, "m", 6, 0);
        setAt(0, 0, "l", 7, 0);
        setAt(0, 0, "t", 8, 0);
        setAt(0, 0, "c", 5, 5);
        setAt(0, 0, "n", 3, -7);
        setString(0, 0, "s", "str");
        x.insert(0, LIST, 0, 5, 1);
        x.insert(0, LIST, 1, 3, 2);
        spliceAt(0, TEXT, 0, 0, "ab");
        setAt(0, MAP, "in", 2, 0);
    }

    /** The same as a CHANGE, which all replicas have but 6. */
    static void shared() {
        some();
        x.commit(0);
        for (int r = 1; r < 8; r++) {
            if (r != 6) {
                x.join(0, r);
            }
        }
    }

    /** The same, and no replica's VIEW is all. */
    static void looking() {
        shared();
        for (int r = 0; r < 8; r++) {
            if (r != 6) {
                x.look(r, 0, 1);
            }
        }
    }

    /** Replica 6 makes OPS that go, till only so many can still be made. */
    static void leaveOps(int left) {
        while (x.told(2) < 3000 - left) {
            setAt(6, 0, "t", 8, 0);
            int text = 8 * x.count(6, 5) + 6;
            spliceAt(6, text, 0, 0, "a".repeat(900));
        }
        while (x.told(2) < 4000 - left) {
            setAt(6, 0, "k", 0, 0);
        }
        x.drop(6);
    }

    /** The same with bytes of KEYS and STRINGS. */
    static void leaveBytes(int left) {
        while (24576 - left - x.told(4) > 1000) {
            setString(6, 0, "k", "s".repeat(900));
        }
        int more = 24576 - left - x.told(4);
        if (more > 0) {
            setString(6, 0, "k", "s".repeat(more - 1));
        }
        x.drop(6);
    }

    /** Replica 6 makes CHANGES, till only so many can still be made. */
    static void leaveChanges(int left) {
        while (x.told(3) < 1000 - left) {
            setAt(6, 0, "k", 0, 0);
            x.commit(6);
        }
    }

    static void tell(Step story) {
        x = new JoinedTrees();
        story.run();
    }

    static void within(long due, Step story, Call call) {
        tell(story);
        due(due, call);
    }

    /** Of a call with [ ], which takes the ARGUMENTS and changes nothing else. */
    static void beyond(Class<?> due, Step story, Call call) {
        tell(story);
        due(due, call);
        due(0, () -> x.told(1));
        String after = all();
        tell(story);
        answerOf(() -> x.find(-1));
        check(all(), after);
    }

    /** Of a call without [ ], which changes nothing at all. */
    static void beyondLeaving(Class<?> due, Step story, Call call) {
        tell(story);
        due(due, call);
        String after = all();
        tell(story);
        check(all(), after);
    }

    /** Of a call that answers and changes nothing. */
    static void idle(long due, Step story, Call call) {
        tell(story);
        due(due, call);
        String after = all();
        tell(story);
        check(all(), after);
    }

    /** All that an object can be asked, and what it does then: it's used up by that. */
    static String all() {
        StringBuilder all = new StringBuilder();
        for (int what = -1; what < 9; what++) {
            all.append(x.told(what)).append(' ');
        }
        for (int r = 0; r < 8; r++) {
            for (int what = -1; what < 19; what++) {
                all.append(x.count(r, what)).append(' ');
            }
        }
        all.append(outText());
        all.append(answerOf(() -> x.load(5)));
        for (int r = 0; r < 8; r++) {
            addView(all, r);
        }
        addGiven(all);
        for (int r = 0; r < 8; r++) {
            x.look(r, -1, 0);
            addView(all, r);
        }
        addChanges(all);
        return all.toString();
    }

    /** ARGUMENTS and INPUT become a KEY and a STRING, or a KEY, where they have its form. */
    private static void addGiven(StringBuilder all) {
        x.look(7, -1, 0);
        int given = x.told(1);
        all.append(answerOf(() -> x.set(7, 0, given == 2 ? 4 : 0, 0)));
        all.append(answerOf(() -> x.end(0)));
        all.append(answerOf(() -> x.set(7, 0, 0, 0)));
    }

    private static void addView(StringBuilder all, int r) {
        all.append(answerOf(() -> x.text(r, 0))).append(outText());
        int top = x.count(r, 5);
        if (top > FEW_OPS || x.told(2) > 4 * FEW_OPS) {
            return;
        }
        for (int id = 0; id < 8 * top + 8; id++) {
            int opid = id;
            String sort = answerOf(() -> x.object(r, opid, 0));
            if (sort.equals("6")) {
                addMap(all.append(id), r, id);
            } else if (sort.equals("7") || sort.equals("8")) {
                addList(all.append(id), r, id);
            }
        }
    }

    private static void addMap(StringBuilder all, int r, int map) {
        for (int i = 0; i < x.object(r, map, 1); i++) {
            StringBuilder key = new StringBuilder();
            for (int k = 0; k < x.key(r, map, i, -1); k++) {
                key.append((char) x.key(r, map, i, k));
            }
            all.append(' ').append(key).append(x.told(0) > 0 || x.told(1) > 0 ? "" : candidates(r, map, key.toString()));
        }
    }

    private static String candidates(int r, int map, String key) {
        StringBuilder all = new StringBuilder();
        for (int c = 0; c < candidateAt(r, map, key, 0, 4); c++) {
            for (int what = 0; what < 4; what++) {
                all.append(candidateAt(r, map, key, c, what)).append(' ');
            }
        }
        return all.toString();
    }

    private static void addList(StringBuilder all, int r, int list) {
        for (int i = 0; i < x.object(r, list, 1); i++) {
            int element = x.element(r, list, i);
            all.append(' ').append(element).append(':').append(x.index(r, list, element));
        }
    }

    private static void addChanges(StringBuilder all) {
        for (int r = 0; r < 8; r++) {
            int replica = r;
            if (x.count(r, 3) > 0) {
                all.append(answerOf(() -> x.commit(replica)));
            }
            all.append(answerOf(() -> x.save(replica))).append(outText());
        }
        for (int from = 0; from < 8; from++) {
            for (int to = 0; to < 8; to++) {
                int giver = from;
                int taker = to;
                all.append(answerOf(() -> x.join(giver, taker))).append(' ');
            }
        }
        all.append(answerOf(() -> x.text(0, 0))).append(outText());
    }
}

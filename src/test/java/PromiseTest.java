/**
 * For each promise of the document: ordinary inputs, the edges it names, and wrong inputs. Where a limit takes more
 * than 512 calls to come to, a test makes more: the class doesn't count them.
 */
public final class PromiseTest extends Trial {
    public static void main(String[] args) {
        test("1 a new object", PromiseTest::newObject);
        test("2 feed", PromiseTest::feed);
        test("3 end", PromiseTest::end);
        test("4 set", PromiseTest::set);
        test("4 set, wrong", PromiseTest::setWrong);
        test("5 put", PromiseTest::put);
        test("6 insert", PromiseTest::insert);
        test("6 insert at the same time", PromiseTest::insertTogether);
        test("7 splice", PromiseTest::splice);
        test("7 splice, FULL", PromiseTest::spliceFull);
        test("8 erase", PromiseTest::erase);
        test("9 add", PromiseTest::add);
        test("10 read", PromiseTest::read);
        test("10 read, SYNTAX", PromiseTest::syntax);
        test("10 read, limits", PromiseTest::readLimits);
        test("11 commit", PromiseTest::commit);
        test("12 drop", PromiseTest::drop);
        test("13 send", PromiseTest::send);
        test("14 join", PromiseTest::join);
        test("15 look", PromiseTest::look);
        test("16 object", PromiseTest::object);
        test("17 key", PromiseTest::key);
        test("18 candidate", PromiseTest::candidate);
        test("19 letter", PromiseTest::letter);
        test("20 element", PromiseTest::element);
        test("21 index", PromiseTest::index);
        test("22 find", PromiseTest::find);
        test("23 text", PromiseTest::text);
        test("23 text, deep and long", PromiseTest::textLong);
        test("24 save", PromiseTest::save);
        test("25 load", PromiseTest::load);
        test("25 load, DAMAGED", PromiseTest::loadDamaged);
        test("26 harm", PromiseTest::harm);
        test("27 out", PromiseTest::out);
        test("28 count", PromiseTest::count);
        test("29 told", PromiseTest::told);
        test("terms: FULL", PromiseTest::fullStore);
        test("terms: the order of refusals", PromiseTest::orderOfRefusals);
        conclude("all promises hold");
    }

    // ---------------------------------------------------------------- 1 to 3

    private static void newObject() {
        for (int r = 0; r < 8; r++) {
            int replica = r;
            for (int what = 0; what < 7; what++) {
                int asked = what;
                due(0, () -> x.count(replica, asked));
            }
            shows("{}", r, 0);
            due(6, () -> x.object(replica, 0, 0));
        }
        x = new JoinedTrees();
        int[] due = {0, 0, 0, 0, 0, -1, 0, 0};
        for (int what = 0; what < 8; what++) {
            int asked = what;
            due(due[what], () -> x.told(asked));
        }
        due(0, () -> x.out(0));
    }

    private static void feed() {
        due(20, () -> x.feed(0x61626364, 0x65666768, -1, 0, 0x80000001));
        due(40, () -> x.feed(0, 0, 0, 0, 0));
        due(40, () -> x.told(0));
        x.end(0);
        for (int i = 0; i < 407; i++) {
            x.feed(i, i, i, i, i);
        }
        // 40 bytes in the ARGUMENT, 8140 in INPUT: 12 more would fit
        due(8140, () -> x.told(0));
        due(FULL, () -> x.feed(0, 0, 0, 0, 0));
        due(8140, () -> x.told(0));
        due(2, () -> x.end(7));
        due(FULL, () -> x.feed(0, 0, 0, 0, 0));
        due(2, () -> x.told(1));
        // ARGUMENTS that were taken make room
        due(BAD, () -> x.find(0));
        for (int i = 1; i <= 409; i++) {
            int length = 20 * i;
            due(length, () -> x.feed(0, 0, 0, 0, 0));
        }
        due(FULL, () -> x.feed(0, 0, 0, 0, 0));
        // bytes come in their order, the highest of a first
        x = new JoinedTrees();
        x.feed('k' << 24, 0, 0, 0, 0);
        x.end(19);
        x.feed(0x01020304, 0x05060708, 0x090a0b0c, 0x0d0e0f10, 0xfffefdfc);
        x.end(0);
        int op = x.set(0, 0, 4, 0);
        int[] last = {0xff, 0xfe, 0xfd, 0xfc};
        for (int i = 0; i < 20; i++) {
            int k = i;
            due(i < 16 ? i + 1 : last[i - 16], () -> x.letter(0, op, k));
        }
        // exactly 8192 bytes fit
        x = new JoinedTrees();
        for (int i = 0; i < 409; i++) {
            x.feed(0, 0, 0, 0, 0);
        }
        x.end(8);
        due(20, () -> x.feed(0, 0, 0, 0, 0));
        due(FULL, () -> x.feed(0, 0, 0, 0, 0));
    }

    private static void end() {
        due(BAD, () -> x.end(-1));
        due(BAD, () -> x.end(1));
        due(BAD, () -> x.end(20));
        due(1, () -> x.end(0));
        x.feed(0, 0, 0, 0, 0);
        due(BAD, () -> x.end(20));
        due(BAD, () -> x.end(-1));
        due(20, () -> x.told(0));
        due(2, () -> x.end(19));
        due(0, () -> x.told(0));
        // a third one: the first goes
        give("key");
        due(2, () -> x.told(1));
        give("value");
        due(2, () -> x.told(1));
        int op = x.set(0, 0, 4, 0);
        due(0, () -> x.told(1));
        due(5, () -> candidateAt(0, 0, "key", 0, 3));
        due('v', () -> x.letter(0, op, 0));
    }

    // ---------------------------------------------------------------- 4 to 9

    private static void set() {
        for (int sort = 0; sort < 9; sort++) {
            int s = sort;
            if (sort == 4) {
                give("k4", "a\"b");
            } else {
                give("k" + sort);
            }
            due(8 * (sort + 1), () -> x.set(0, 0, s, 77));
            due(sort, () -> candidateAt(0, 0, "k" + s, 0, 0));
            due(sort == 3 || sort == 5 ? 77 : 0, () -> candidateAt(0, 0, "k" + s, 0, 2));
        }
        shows("{\"k0\":null,\"k1\":false,\"k2\":true,\"k3\":77,\"k4\":\"a\\\"b\",\"k5\":77,\"k6\":{},\"k7\":[],\"k8\":\"\"}", 0, 0);
        // what is set again replaces all CANDIDATES
        due(80, () -> setAt(0, 0, "k3", 1, 0));
        due(1, () -> candidateAt(0, 0, "k3", 0, 4));
        due(1, () -> candidateAt(0, 0, "k3", 0, 0));
        // in another MAP; OPIDS have the ACTOR's number
        due(88, () -> setAt(0, 56, "in", 3, -1));
        x.commit(0);
        x.join(0, 5);
        due(8 * 12 + 5, () -> setAt(5, 56, "in", 3, 4));
        due(8 * 1 + 3, () -> setAt(3, 0, "k0", 3, 4));
        // at the same time: both stay, the greater OPID first
        due(8 * 12, () -> setAt(0, 56, "in", 3, 5));
        x.commit(0);
        x.commit(5);
        x.join(0, 5);
        x.join(5, 0);
        due(2, () -> candidateAt(0, 56, "in", 0, 4));
        due(8 * 12 + 5, () -> candidateAt(0, 56, "in", 0, 1));
        due(8 * 12, () -> candidateAt(5, 56, "in", 1, 1));
        // a STRING without bytes, KEYS of 1 and 64 bytes
        due(8 * 13, () -> setString(0, 56, "e", ""));
        due(8 * 14, () -> setString(0, 56, "e".repeat(64), "s".repeat(1024)));
        due(1024, () -> candidateAt(0, 56, "e".repeat(64), 0, 3));
    }

    private static void setWrong() {
        due(BAD, () -> x.set(0, 0, 0, 0));
        give("k");
        due(BAD, () -> x.set(0, 0, 4, 0));
        due(0, () -> x.told(1));
        give("k", "v");
        due(BAD, () -> x.set(0, 0, 0, 0));
        due(BAD, () -> setAt(-1, 0, "k", 0, 0));
        due(BAD, () -> setAt(8, 0, "k", 0, 0));
        due(BAD, () -> setAt(0, 0, "k", -1, 0));
        due(BAD, () -> setAt(0, 0, "k", 9, 0));
        due(BAD, () -> setAt(0, 0, "", 0, 0));
        due(BAD, () -> setAt(0, 0, "k".repeat(65), 0, 0));
        due(BAD, () -> setString(0, 0, "k", "v".repeat(1025)));
        due(MISSING, () -> setAt(0, 8, "k", 0, 0));
        due(MISSING, () -> setAt(0, -8, "k", 0, 0));
        int list = setAt(0, 0, "l", 7, 0);
        int number = setAt(0, 0, "n", 3, 0);
        due(BAD, () -> setAt(0, list, "k", 0, 0));
        due(MISSING, () -> setAt(0, number, "k", 0, 0));
        due(MISSING, () -> setAt(1, list, "k", 0, 0));
        x.commit(0);
        x.look(0, 0, 1);
        due(REFUSED, () -> setAt(0, 0, "k", 0, 0));
        due(BAD, () -> setAt(0, list, "k", 0, 0));
        x.look(0, -1, 0);
        due(2, () -> x.told(2));
        due(24, () -> setAt(0, 0, "k", 0, 0));
        // an OBJECT that isn't VISIBLE any more can be changed
        int map = setAt(0, 0, "m", 6, 0);
        setAt(0, 0, "m", 0, 0);
        due(8 * 6, () -> setAt(0, map, "in", 2, 0));
        shows("{\"in\":true}", 0, map);
    }

    private static void put() {
        int list = setAt(0, 0, "l", 7, 0);
        int text = setAt(0, 0, "t", 8, 0);
        int first = x.insert(0, list, 0, 3, 1);
        x.insert(0, list, 1, 3, 2);
        due(8 * 5, () -> x.put(0, list, 0, 3, 10));
        shows("[10,2]", 0, list);
        due(first, () -> x.element(0, list, 0));
        give("str");
        due(8 * 6, () -> x.put(0, list, 1, 4, 0));
        shows("[10,\"str\"]", 0, list);
        due(8 * 7, () -> x.put(0, list, 1, 6, 0));
        // in a TEXT, VALUES of any sort: what is no STRING isn't shown
        give("abc");
        x.splice(0, text, 0, 0);
        due(8 * 11, () -> x.put(0, text, 1, 3, 4));
        shows("\"ac\"", 0, text);
        due(3, () -> x.object(0, text, 1));
        give("long");
        due(8 * 12, () -> x.put(0, text, 0, 4, 0));
        shows("\"longc\"", 0, text);
        due(MISSING, () -> x.put(0, list, 2, 0, 0));
        due(MISSING, () -> x.put(0, list, -1, 0, 0));
        due(MISSING, () -> x.put(0, 7777, 0, 0, 0));
        due(BAD, () -> x.put(0, 0, 0, 0, 0));
        due(BAD, () -> x.put(0, list, 0, 4, 0));
        give("s");
        due(BAD, () -> x.put(0, list, 0, 3, 0));
        due(0, () -> x.told(1));
        due(BAD, () -> x.put(0, list, 0, 9, 0));
        due(BAD, () -> x.put(8, list, 0, 0, 0));
        give("s".repeat(1025));
        due(BAD, () -> x.put(0, list, 0, 4, 0));
        x.commit(0);
        x.look(0, 0, 1);
        due(REFUSED, () -> x.put(0, list, 0, 0, 0));
        due(MISSING, () -> x.put(0, list, 2, 0, 0));
        // at the same time
        x.look(0, -1, 0);
        x.join(0, 1);
        x.put(0, list, 0, 3, 100);
        x.put(1, list, 0, 3, 101);
        x.commit(0);
        x.commit(1);
        x.join(1, 0);
        due(2, () -> x.candidate(0, list, 0, 0, 4));
        due(101, () -> x.candidate(0, list, 0, 0, 2));
        due(100, () -> x.candidate(0, list, 0, 1, 2));
        due(1, () -> x.candidate(1, list, 0, 0, 4));
    }

    private static void insert() {
        int list = setAt(0, 0, "l", 7, 0);
        due(MISSING, () -> x.insert(0, list, 1, 0, 0));
        due(MISSING, () -> x.insert(0, list, -1, 0, 0));
        due(16, () -> x.insert(0, list, 0, 3, 1));
        due(24, () -> x.insert(0, list, 1, 3, 3));
        due(32, () -> x.insert(0, list, 1, 3, 2));
        due(40, () -> x.insert(0, list, 0, 3, 0));
        shows("[0,1,2,3]", 0, list);
        give("s");
        due(48, () -> x.insert(0, list, 4, 4, 0));
        shows("[0,1,2,3,\"s\"]", 0, list);
        // INDICES count only what is there
        x.erase(0, list, 1);
        due(64, () -> x.insert(0, list, 1, 3, 11));
        shows("[0,11,2,3,\"s\"]", 0, list);
        due(MISSING, () -> x.insert(0, list, 6, 0, 0));
        due(MISSING, () -> x.insert(0, 4711, 0, 0, 0));
        due(BAD, () -> x.insert(0, 0, 0, 0, 0));
        due(BAD, () -> x.insert(0, list, 0, 4, 0));
        due(BAD, () -> x.insert(0, list, 0, -1, 0));
        due(BAD, () -> x.insert(-1, list, 0, 0, 0));
        give("s");
        due(BAD, () -> x.insert(0, list, 0, 0, 0));
        give("s", "t");
        due(BAD, () -> x.insert(0, list, 0, 4, 0));
        x.commit(0);
        x.look(0, 0, 1);
        due(REFUSED, () -> x.insert(0, list, 0, 0, 0));
        due(MISSING, () -> x.insert(0, list, 6, 0, 0));
    }

    private static void insertTogether() {
        int list = setAt(0, 0, "l", 7, 0);
        x.insert(0, list, 0, 3, 1);
        x.commit(0);
        x.join(0, 1);
        x.join(0, 2);
        // each puts two ELEMENTS behind the same one
        for (int r = 0; r < 3; r++) {
            x.insert(r, list, 1, 3, 10 * r + 10);
            x.insert(r, list, 2, 3, 10 * r + 11);
            x.commit(r);
        }
        x.join(1, 0);
        x.join(2, 0);
        x.join(2, 1);
        x.join(0, 1);
        x.join(0, 2);
        for (int r = 0; r < 3; r++) {
            shows("[1,30,31,20,21,10,11]", r, list);
        }
        // one that knows nothing of a greater one at the beginning comes behind it with all of its own
        x.insert(0, list, 0, 3, 2);
        x.insert(1, list, 0, 3, 3);
        x.insert(1, list, 1, 3, 4);
        x.commit(0);
        x.commit(1);
        x.join(0, 1);
        x.join(1, 0);
        shows("[3,4,2,1,30,31,20,21,10,11]", 0, list);
        shows("[3,4,2,1,30,31,20,21,10,11]", 1, list);
    }

    private static void splice() {
        int text = setAt(0, 0, "t", 8, 0);
        give("hello");
        due(5, () -> x.splice(0, text, 0, 0));
        due(6, () -> x.count(0, 4));
        shows("\"hello\"", 0, text);
        give("EY");
        due(5, () -> x.splice(0, text, 1, 2));
        shows("\"hEYlo\"", 0, text);
        due(10, () -> x.count(0, 4));
        give("");
        due(4, () -> x.splice(0, text, 4, 1));
        give("");
        due(4, () -> x.splice(0, text, 2, 0));
        due(11, () -> x.count(0, 4));
        give("!\n");
        due(6, () -> x.splice(0, text, 4, 0));
        shows("\"hEYl!\\n\"", 0, text);
        give("x");
        due(MISSING, () -> x.splice(0, text, 7, 0));
        give("x");
        due(MISSING, () -> x.splice(0, text, 0, 7));
        give("x");
        due(MISSING, () -> x.splice(0, text, 6, 1));
        give("x");
        due(MISSING, () -> x.splice(0, text, -1, 0));
        give("x");
        due(MISSING, () -> x.splice(0, text, 1, Integer.MAX_VALUE));
        give("x");
        due(BAD, () -> x.splice(0, text, 0, -1));
        due(BAD, () -> x.splice(0, text, 0, 0));
        give("x", "y");
        due(BAD, () -> x.splice(0, text, 0, 0));
        give("x".repeat(1025));
        due(BAD, () -> x.splice(0, text, 0, 0));
        give("x");
        due(BAD, () -> x.splice(0, 0, 0, 0));
        give("x");
        due(MISSING, () -> x.splice(0, 9999, 0, 0));
        int list = setAt(0, 0, "l", 7, 0);
        give("x");
        due(BAD, () -> x.splice(0, list, 0, 0));
        give("x");
        due(BAD, () -> x.splice(8, text, 0, 0));
        x.commit(0);
        x.look(0, 0, 1);
        give("x");
        due(REFUSED, () -> x.splice(0, text, 0, 0));
        give("x");
        due(MISSING, () -> x.splice(0, text, 7, 0));
        x.look(0, -1, 0);
        // DELETES come first, in order, then the INSERTS, each behind the one before
        give("ab");
        x.splice(0, text, 1, 2);
        x.commit(0);
        x.save(0);
        int h = 16;
        int e = 8 * 9;
        int y = 8 * 10;
        int a = 8 * 17;
        String ops = bytesText(8, 9, e, 1, e) + bytesText(8, 9, y, 1, y) + bytesText(8, 20, h, 1, 'a', 0) + bytesText(8, 20, a, 1, 'b', 0);
        String saved = outText();
        check(ops, saved.substring(saved.length() - 4 - ops.length(), saved.length() - 4));
        shows("\"habl!\\n\"", 0, text);
    }

    private static void spliceFull() {
        int text = setAt(0, 0, "t", 8, 0);
        for (int i = 1; i <= 3; i++) {
            int size = 1000 * i;
            give("a".repeat(1000));
            due(size, () -> x.splice(0, text, size / 2 - 500, 0));
        }
        give("b".repeat(1000));
        due(FULL, () -> x.splice(0, text, 0, 0));
        due(3001, () -> x.told(2));
        due(3000, () -> x.object(0, text, 1));
        give("");
        due(FULL, () -> x.splice(0, text, 0, 1000));
        give("c".repeat(499));
        due(2999, () -> x.splice(0, text, 100, 500));
        due(4000, () -> x.told(2));
        give("");
        due(FULL, () -> x.splice(0, text, 0, 1));
        give("");
        due(2999, () -> x.splice(0, text, 0, 0));
        due(FULL, () -> setAt(0, 0, "k", 0, 0));
        // those that went are counted, too
        due(4000, () -> x.drop(0));
        due(FULL, () -> setAt(0, 0, "k", 0, 0));
        due(4000, () -> x.told(2));
        due(0, () -> x.count(0, 4));
    }

    private static void erase() {
        int list = setAt(0, 0, "l", 7, 0);
        x.insert(0, list, 0, 3, 1);
        x.insert(0, list, 1, 3, 2);
        due(32, () -> x.erase(0, list, 0));
        shows("[2]", 0, list);
        due(MISSING, () -> x.erase(0, list, 1));
        due(MISSING, () -> x.erase(0, list, -2));
        due(BAD, () -> x.erase(0, list, -1));
        give("k");
        due(BAD, () -> x.erase(0, list, -1));
        give("k");
        due(BAD, () -> x.erase(0, list, 0));
        due(BAD, () -> x.erase(0, 0, 0));
        due(BAD, () -> x.erase(0, 0, -2));
        due(BAD, () -> x.erase(0, 0, -1));
        give("k");
        due(MISSING, () -> x.erase(0, 0, -1));
        give("k");
        due(MISSING, () -> x.erase(0, 8888, -1));
        give("k", "l");
        due(BAD, () -> x.erase(0, 0, -1));
        give("k".repeat(65));
        due(BAD, () -> x.erase(0, 0, -1));
        give("l");
        due(BAD, () -> x.erase(-1, 0, -1));
        give("l");
        due(40, () -> x.erase(0, 0, -1));
        shows("{}", 0, 0);
        give("l");
        due(MISSING, () -> x.erase(0, 0, -1));
        // KEYS of DELETES are counted
        due(2, () -> x.told(4));
        x.commit(0);
        // what is set at the same time as it's deleted stays
        setAt(0, 0, "c", 3, 1);
        x.commit(0);
        x.join(0, 1);
        give("c");
        x.erase(0, 0, -1);
        setAt(1, 0, "c", 3, 2);
        x.commit(0);
        x.commit(1);
        x.join(0, 1);
        x.join(1, 0);
        shows("{\"c\":2}", 0, 0);
        shows("{\"c\":2}", 1, 0);
        x.look(0, 0, 2);
        give("c");
        due(REFUSED, () -> x.erase(0, 0, -1));
    }

    private static void add() {
        setAt(0, 0, "c", 5, 10);
        give("c");
        due(16, () -> x.add(0, 0, -1, 5));
        due(15, () -> candidateAt(0, 0, "c", 0, 2));
        due(1, () -> candidateAt(0, 0, "c", 0, 4));
        due(8, () -> candidateAt(0, 0, "c", 0, 1));
        x.commit(0);
        x.join(0, 1);
        x.join(0, 2);
        // at the same time: all count
        give("c");
        x.add(0, 0, -1, -100);
        give("c");
        x.add(1, 0, -1, 1000);
        // and a counter set at the same time has its own
        setAt(2, 0, "c", 5, Long.MAX_VALUE);
        x.commit(0);
        x.commit(1);
        x.commit(2);
        x.join(1, 0);
        x.join(2, 0);
        due(1, () -> candidateAt(0, 0, "c", 0, 4));
        shows("{\"c\":9223372036854775807}", 0, 0);
        give("c");
        x.add(0, 0, -1, 1);
        shows("{\"c\":-9223372036854775808}", 0, 0);
        x.commit(0);
        x.look(0, 0, 2);
        shows("{\"c\":-85}", 0, 0);
        give("c");
        due(REFUSED, () -> x.add(0, 0, -1, 1));
        x.look(0, -1, 0);
        // several CANDIDATES: ADDS go to the counters among them
        x.join(0, 1);
        x.join(0, 2);
        setAt(0, 0, "d", 5, 1);
        setAt(1, 0, "d", 5, 2);
        setAt(2, 0, "d", 3, 3);
        x.commit(0);
        x.commit(1);
        x.commit(2);
        x.join(1, 0);
        x.join(2, 0);
        give("d");
        x.add(0, 0, -1, 10);
        due(3, () -> candidateAt(0, 0, "d", 0, 4));
        due(3, () -> candidateAt(0, 0, "d", 0, 2));
        due(12, () -> candidateAt(0, 0, "d", 1, 2));
        due(11, () -> candidateAt(0, 0, "d", 2, 2));
        // in a LIST, and what has none
        int list = setAt(0, 0, "l", 7, 0);
        x.insert(0, list, 0, 5, 1);
        x.insert(0, list, 1, 3, 1);
        due(list + 24, () -> x.add(0, list, 0, 2));
        shows("[3,1]", 0, list);
        due(MISSING, () -> x.add(0, list, 1, 2));
        due(MISSING, () -> x.add(0, list, 2, 2));
        due(BAD, () -> x.add(0, list, -1, 2));
        due(BAD, () -> x.add(0, 0, 0, 2));
        give("l");
        due(MISSING, () -> x.add(0, 0, -1, 2));
        give("zz");
        due(MISSING, () -> x.add(0, 0, -1, 2));
        give("d");
        due(BAD, () -> x.add(9, 0, -1, 2));
        give("");
        due(BAD, () -> x.add(0, 0, -1, 2));
    }

    // ---------------------------------------------------------------- 10

    private static void read() {
        due(8, () -> readAt(0, 0, "k", "{\"b\":[1,-2,{\"x\":\"\\n\\t\\\"\\\\\\/\\x41\\xFf\"}],\"a\":null , \"c\" : [ true,false ,[]]}"));
        shows("{\"k\":{\"a\":null,\"b\":[1,-2,{\"x\":\"\\n\\x09\\\"\\\\/A\\xff\"}],\"c\":[true,false,[]]}}", 0, 0);
        due(11, () -> x.count(0, 4));
        // OPIDS go in the order of the text
        give("k.b[2].x");
        due(8 * 6, () -> x.find(0));
        give("k.c[2]");
        due(8 * 11, () -> x.find(0));
        due(-1, () -> x.told(5));
        // bytes of KEYS and STRINGS
        due(1 + 3 + 1 + 7, () -> x.told(4));
        // what was there goes; a STRING never is a TEXT
        due(8 * 12, () -> readAt(0, 0, "k", " \t\r\n\"abc\" "));
        due(1, () -> candidateAt(0, 0, "k", 0, 4));
        due(4, () -> candidateAt(0, 0, "k", 0, 0));
        due(8 * 13, () -> readAt(0, 8, "n", "-999999999999999999"));
        shows("{\"a\":null,\"b\":[1,-2,{\"x\":\"\\n\\x09\\\"\\\\/A\\xff\"}],\"c\":[true,false,[]],\"n\":-999999999999999999}", 0, 8);
        due(8 * 14, () -> readAt(0, 0, "\u00af\u00fa", "-0"));
        due(0, () -> candidateAt(0, 0, "\u00af\u00fa", 0, 2));
        x.drop(0);
        due(8, () -> readAt(0, 0, "k", "\"\\xAF\\xfa\\x09\""));
        shows("{\"k\":\"\\xaf\\xfa\\x09\"}", 0, 0);
        x.drop(0);
        for (int i = 1; i < 14; i++) {
            setAt(0, 0, "z", i == 2 ? 7 : 0, 0);
        }
        due(8 * 14, () -> readAt(0, 0, "z", "-0"));
        due(0, () -> candidateAt(0, 0, "z", 0, 2));
        due(MISSING, () -> readAt(0, 12345, "k", "1"));
        due(BAD, () -> readAt(0, 16, "k", "1"));
        due(BAD, () -> readAt(8, 0, "k", "1"));
        due(BAD, () -> readAt(0, 0, "", "1"));
        due(BAD, () -> readAt(0, 0, "k".repeat(65), "1"));
        give("k");
        due(BAD, () -> x.read(0, 0));
        due(BAD, () -> x.read(0, 0));
        x.commit(0);
        x.look(0, 0, 1);
        due(REFUSED, () -> readAt(0, 0, "k", "1"));
        due(MISSING, () -> readAt(0, 12345, "k", "1"));
        due(BAD, () -> readAt(0, 12345, "k", "1 1"));
        due(2, () -> x.told(5));
        // WHERE stays till the next
        x.look(0, -1, 0);
        readAt(0, 0, "k", "1");
        due(2, () -> x.told(5));
    }

    private static void why(int where, String json) {
        due(BAD, () -> readAt(0, 0, "k", json));
        due(where, () -> x.told(5));
    }

    private static void syntax() {
        why(0, "");
        why(2, "  ");
        why(0, "x");
        why(0, "+1");
        why(0, "'");
        why(3, "nul");
        why(3, "nulL");
        why(4, "nullx");
        why(4, "true,");
        why(1, "tfalse");
        why(1, "-");
        why(1, "-a");
        why(1, "--1");
        why(1, "01");
        why(1, "00");
        why(2, "-01");
        why(1, "1.5");
        why(1, "1e5");
        why(18, "1234567890123456789");
        why(19, "-1234567890123456789");
        why(1, "[");
        why(1, "[,");
        why(3, "[1,]");
        why(3, "[1 2]");
        why(2, "[1}");
        why(1, "[}");
        why(1, "{]");
        why(1, "{");
        why(1, "{a");
        why(1, "{1:2}");
        why(4, "{\"a\"");
        why(4, "{\"a\",1}");
        why(5, "{\"a\":");
        why(5, "{\"a\":}");
        why(7, "{\"a\":1,}");
        why(6, "{\"a\":1;");
        why(6, "{\"a\":1");
        why(2, "{\"\":1}");
        why(9, "{\"a\":1,\"a\":2}");
        why(14, "{\"a\":1,\"\\x61b\"\"\":2}");
        why(12, "{\"a\":1,\"\\x61\":2}");
        why(1, "\"");
        why(2, "\"a");
        why(1, "\"\n\"");
        why(1, "\"\u007f\"");
        why(1, "\"\u00e4\"");
        why(2, "\"\\");
        why(2, "\"\\u0041\"");
        why(2, "\"\\b\"");
        why(3, "\"\\x");
        why(3, "\"\\xg0\"");
        why(4, "\"\\x0");
        why(4, "\"\\x0G\"");
        why(2, "[]]");
        why(3, "[] []");
        why(1, "1\u000b");
        why(2, "[]\u0000");
        due(0, () -> x.told(2));
        due(0, () -> x.told(4));
        // a KEY may come again in another MAP
        due(8, () -> readAt(0, 0, "k", "{\"a\":{\"a\":1},\"b\":{\"a\":1}}"));
    }

    private static void readLimits() {
        // at most 20 in one another
        due(8, () -> readAt(0, 0, "k", "[".repeat(20) + "]".repeat(20)));
        why(20, "[".repeat(21) + "]".repeat(21));
        why(20, "[".repeat(20) + "{}" + "]".repeat(20));
        why(5 * 20, "{\"a\":".repeat(21));
        due(8 * 21, () -> readAt(0, 0, "k", "[" + "[],".repeat(30) + "[".repeat(19) + "]".repeat(20)));
        // STRINGS and KEYS
        long next = 8L * (21 + 50);
        due(next, () -> readAt(0, 0, "k", "\"" + "\\x20".repeat(1024) + "\""));
        why(1 + 4 * 1024, "\"" + "\\x20".repeat(1025) + "\"");
        why(1 + 1024, "\"" + "a".repeat(1025));
        why(1 + 1024, "\"" + "a".repeat(1024) + "\\");
        due(next + 8, () -> readAt(0, 0, "k", "{\"" + "\\n".repeat(64) + "\":1}"));
        why(2 + 64, "{\"" + "a".repeat(65) + "\":1}");
        why(2 + 128, "{\"" + "\\n".repeat(65) + "\":1}");
        // 500 VALUES
        due(next + 24, () -> readAt(0, 0, "k", "[1" + ",1".repeat(498) + "]"));
        due(499, () -> x.object(0, (int) next + 24, 1));
        why(2 * 500 - 1, "[1" + ",1".repeat(499) + "]");
        why(2 * 500 + 1, "[1" + ",1".repeat(498) + " , 1]");
        due(next + 24 + 8 * 500, () -> readAt(0, 0, "k", "[1" + ",1".repeat(497) + ",[]]"));
        why(2 * 499, "[1" + ",1".repeat(497) + ",[[]]]");
        why(2 * 500 - 1, "[1" + ",1".repeat(498) + ",]");
        // 18 digits
        due(next + 24 + 16 * 500, () -> readAt(0, 0, "k", "999999999999999999"));
        due(999999999999999999L, () -> candidateAt(0, 0, "k", 0, 2));
        // FULL: nothing is made
        while (x.told(2) <= 3500) {
            readAt(0, 0, "k", "[1" + ",1".repeat(498) + "]");
        }
        int made = x.told(2);
        int bytes = x.told(4);
        due(FULL, () -> readAt(0, 0, "k", "[1" + ",1".repeat(498) + "]"));
        due(made, () -> x.told(2));
        due(bytes, () -> x.told(4));
        due(FULL, () -> readAt(0, 0, "k", "[1" + ",1".repeat(4000 - made - 1) + "]"));
        due(8 * made + 8, () -> readAt(0, 0, "k", "[1" + ",1".repeat(4000 - made - 2) + "]"));
        due(4000, () -> x.told(2));
    }

    // ---------------------------------------------------------------- 11 to 15

    private static void commit() {
        due(REFUSED, () -> x.commit(0));
        due(BAD, () -> x.commit(8));
        due(BAD, () -> x.commit(-1));
        setAt(0, 0, "a", 0, 0);
        setAt(0, 0, "b", 0, 0);
        due(2, () -> x.count(0, 3));
        due(1, () -> x.commit(0));
        due(0, () -> x.count(0, 3));
        due(1, () -> x.count(0, 0));
        due(REFUSED, () -> x.commit(0));
        setAt(0, 0, "a", 0, 0);
        due(2, () -> x.commit(0));
        setAt(1, 0, "a", 0, 0);
        due(1, () -> x.commit(1));
        // whatever VIEW is
        setAt(0, 0, "c", 0, 0);
        x.look(0, 0, 1);
        due(3, () -> x.commit(0));
        due(1, () -> x.count(0, 6));
        // DEPS are the HEADS
        x.join(1, 0);
        due(2, () -> x.count(0, 2));
        x.look(0, -1, 0);
        setAt(0, 0, "d", 0, 0);
        due(4, () -> x.commit(0));
        due(1, () -> x.count(0, 2));
        due(5, () -> x.look(0, 0, 4));
    }

    private static void drop() {
        due(0, () -> x.drop(0));
        due(BAD, () -> x.drop(8));
        due(BAD, () -> x.drop(-1));
        int list = setAt(0, 0, "l", 7, 0);
        x.insert(0, list, 0, 3, 1);
        x.insert(0, list, 1, 3, 2);
        x.commit(0);
        x.insert(0, list, 1, 3, 9);
        x.erase(0, list, 0);
        int map = setAt(0, 0, "m", 6, 0);
        setAt(0, map, "in", 0, 0);
        due(7, () -> x.count(0, 4));
        due(4, () -> x.drop(0));
        due(0, () -> x.count(0, 3));
        due(3, () -> x.count(0, 4));
        due(3, () -> x.count(0, 5));
        shows("{\"l\":[1,2]}", 0, 0);
        due(MISSING, () -> x.object(0, map, 0));
        due(7, () -> x.told(2));
        due(1 + 1 + 2, () -> x.told(4));
        // OPIDS come again
        due(32, () -> x.insert(0, list, 2, 3, 3));
        due(40, () -> x.insert(0, list, 1, 3, 4));
        shows("{\"l\":[1,4,2,3]}", 0, 0);
        due(BAD, () -> setAt(0, list, "k", 0, 0));
        x.commit(0);
        due(0, () -> x.drop(0));
        shows("{\"l\":[1,4,2,3]}", 0, 0);
        // whatever VIEW is
        setAt(0, 0, "z", 0, 0);
        x.look(0, 0, 1);
        due(1, () -> x.drop(0));
        shows("{\"l\":[1,2]}", 0, 0);
    }

    private static void send() {
        for (int i = 0; i < 3; i++) {
            setAt(0, 0, "k" + i, 3, i);
            x.commit(0);
        }
        x.join(0, 1);
        setAt(1, 0, "own", 0, 0);
        x.commit(1);
        due(0, () -> x.send(0, 2, 0, 3));
        due(1, () -> x.count(2, 1));
        due(0, () -> x.count(2, 0));
        due(0, () -> x.send(0, 2, 0, 3));
        due(1, () -> x.count(2, 1));
        due(0, () -> x.send(1, 2, 1, 1));
        due(0, () -> x.send(0, 2, 0, 2));
        due(3, () -> x.count(2, 1));
        shows("{}", 2, 0);
        due(4, () -> x.send(0, 2, 0, 1));
        due(0, () -> x.count(2, 1));
        shows("{\"k0\":0,\"k1\":1,\"k2\":2,\"own\":null}", 2, 0);
        due(0, () -> x.send(0, 2, 0, 1));
        due(0, () -> x.send(0, 0, 0, 1));
        due(1, () -> x.send(0, 3, 0, 1));
        due(1, () -> x.send(0, 3, 0, 2));
        due(0, () -> x.send(2, 3, 1, 1));
        due(1, () -> x.count(3, 1));
        // what WAITS there isn't had there
        due(MISSING, () -> x.send(3, 4, 1, 1));
        due(MISSING, () -> x.send(0, 4, 1, 1));
        due(MISSING, () -> x.send(0, 4, 0, 4));
        due(MISSING, () -> x.send(0, 4, 0, 0));
        due(MISSING, () -> x.send(0, 4, 0, -1));
        due(MISSING, () -> x.send(0, 4, 7, 1));
        due(BAD, () -> x.send(0, 4, 8, 1));
        due(BAD, () -> x.send(0, 4, -1, 1));
        due(BAD, () -> x.send(8, 4, 0, 1));
        due(BAD, () -> x.send(0, -1, 0, 1));
        setAt(4, 0, "open", 0, 0);
        due(REFUSED, () -> x.send(0, 4, 0, 1));
        due(MISSING, () -> x.send(0, 4, 0, 4));
        x.drop(4);
        due(1, () -> x.send(0, 4, 0, 1));
        // OPEN OPS where it comes from don't matter
        setAt(0, 0, "open", 0, 0);
        due(1, () -> x.send(0, 4, 0, 2));
    }

    private static void join() {
        due(0, () -> x.join(0, 1));
        setAt(0, 0, "a", 3, 1);
        due(0, () -> x.join(0, 1));
        x.commit(0);
        setAt(1, 0, "b", 3, 2);
        due(REFUSED, () -> x.join(0, 1));
        x.commit(1);
        due(1, () -> x.join(0, 1));
        due(0, () -> x.join(0, 1));
        due(0, () -> x.join(1, 1));
        due(1, () -> x.join(1, 0));
        shows("{\"a\":1,\"b\":2}", 0, 0);
        shows("{\"a\":1,\"b\":2}", 1, 0);
        due(2, () -> x.count(0, 2));
        setAt(0, 0, "c", 3, 3);
        x.commit(0);
        // what WAITS is passed on
        x.send(0, 2, 0, 2);
        due(1, () -> x.count(2, 1));
        due(0, () -> x.join(2, 3));
        due(1, () -> x.count(3, 1));
        due(1, () -> x.join(2, 1));
        shows("{\"a\":1,\"b\":2,\"c\":3}", 1, 0);
        due(3, () -> x.join(1, 3));
        due(0, () -> x.count(3, 1));
        due(BAD, () -> x.join(8, 0));
        due(BAD, () -> x.join(0, 8));
        due(BAD, () -> x.join(-1, 0));
        // COUNTERS go on behind the greatest that it has now
        due(8 * 3 + 3, () -> setAt(3, 0, "d", 0, 0));
        // VIEW stays
        x.look(2, -1, 0);
        x.join(1, 2);
        x.look(2, 0, 1);
        x.commit(3);
        due(1, () -> x.join(3, 2));
        due(1, () -> x.count(2, 6));
        shows("{\"a\":1}", 2, 0);
    }

    private static void look() {
        due(0, () -> x.look(0, -1, 99));
        due(MISSING, () -> x.look(0, 0, 1));
        setAt(0, 0, "a", 3, 1);
        x.commit(0);
        x.join(0, 1);
        setAt(1, 0, "a", 3, 2);
        x.commit(1);
        setAt(0, 0, "b", 3, 3);
        x.commit(0);
        x.join(1, 0);
        setAt(0, 0, "a", 3, 4);
        due(2, () -> x.look(0, 1, 1));
        shows("{\"a\":2}", 0, 0);
        due(2, () -> x.count(0, 6));
        due(2, () -> x.look(0, 0, 2));
        shows("{\"a\":1,\"b\":3}", 0, 0);
        due(1, () -> x.look(0, 0, 1));
        shows("{\"a\":1}", 0, 0);
        give("b");
        due(MISSING, () -> x.candidate(0, 0, -1, 0, 0));
        due(3, () -> x.look(0, -1, 5));
        shows("{\"a\":4,\"b\":3}", 0, 0);
        due(MISSING, () -> x.look(0, 0, 3));
        due(MISSING, () -> x.look(0, 0, 0));
        due(MISSING, () -> x.look(0, 2, 1));
        due(MISSING, () -> x.look(1, 0, 2));
        due(BAD, () -> x.look(0, -2, 1));
        due(BAD, () -> x.look(0, 8, 1));
        due(BAD, () -> x.look(8, 0, 1));
        // what WAITS isn't had
        x.send(0, 2, 0, 2);
        due(MISSING, () -> x.look(2, 0, 2));
        // the VIEW isn't all, even if the replica has no others
        due(2, () -> x.look(1, 1, 1));
        due(REFUSED, () -> setAt(1, 0, "c", 0, 0));
        // a refused look changes nothing
        due(MISSING, () -> x.look(1, 7, 1));
        due(REFUSED, () -> setAt(1, 0, "c", 0, 0));
    }

    // ---------------------------------------------------------------- 16 to 22

    private static void object() {
        int map = setAt(0, 0, "m", 6, 0);
        int list = setAt(0, 0, "l", 7, 0);
        int text = setAt(0, 0, "t", 8, 0);
        int number = setAt(0, 0, "n", 3, 0);
        due(6, () -> x.object(0, 0, 0));
        due(4, () -> x.object(0, 0, 1));
        due(6, () -> x.object(0, map, 0));
        due(0, () -> x.object(0, map, 1));
        due(7, () -> x.object(0, list, 0));
        due(8, () -> x.object(0, text, 0));
        x.insert(0, list, 0, 0, 0);
        x.insert(0, list, 0, 0, 0);
        x.erase(0, list, 0);
        due(1, () -> x.object(0, list, 1));
        give("m");
        int gone = x.erase(0, 0, -1);
        due(3, () -> x.object(0, 0, 1));
        due(6, () -> x.object(0, map, 0));
        due(MISSING, () -> x.object(0, number, 0));
        due(MISSING, () -> x.object(0, gone, 0));
        due(MISSING, () -> x.object(0, 1, 0));
        due(MISSING, () -> x.object(0, -1, 0));
        due(MISSING, () -> x.object(0, Integer.MAX_VALUE, 0));
        due(MISSING, () -> x.object(0, Integer.MIN_VALUE, 1));
        due(MISSING, () -> x.object(1, list, 0));
        due(BAD, () -> x.object(0, 0, 2));
        due(BAD, () -> x.object(0, 0, -1));
        due(BAD, () -> x.object(8, 0, 0));
        x.commit(0);
        x.join(0, 1);
        due(7, () -> x.object(1, list, 0));
    }

    private static void key() {
        setAt(0, 0, "b", 0, 0);
        setAt(0, 0, "ab", 0, 0);
        setAt(0, 0, "\u00ff", 0, 0);
        setAt(0, 0, "a", 0, 0);
        setAt(0, 0, "gone", 0, 0);
        give("gone");
        x.erase(0, 0, -1);
        int[] first = {'a', 'a', 'b', 255};
        int[] length = {1, 2, 1, 1};
        for (int i = 0; i < 4; i++) {
            int number = i;
            due(first[i], () -> x.key(0, 0, number, 0));
            due(length[i], () -> x.key(0, 0, number, -1));
            due(MISSING, () -> x.key(0, 0, number, length[number]));
        }
        due('b', () -> x.key(0, 0, 1, 1));
        due(MISSING, () -> x.key(0, 0, 4, -1));
        due(MISSING, () -> x.key(0, 0, -1, -1));
        due(MISSING, () -> x.key(0, 0, 0, -2));
        due(MISSING, () -> x.key(0, 999, 0, 0));
        int list = setAt(0, 0, "l", 7, 0);
        due(BAD, () -> x.key(0, list, 0, 0));
        due(BAD, () -> x.key(-1, 0, 0, 0));
        due(MISSING, () -> x.key(1, 0, 0, 0));
        // it leaves ARGUMENTS
        give("a");
        x.key(0, 0, 0, 0);
        due(1, () -> x.told(1));
    }

    private static void candidate() {
        setString(0, 0, "k", "four");
        due(4, () -> candidateAt(0, 0, "k", 0, 0));
        due(8, () -> candidateAt(0, 0, "k", 0, 1));
        due(0, () -> candidateAt(0, 0, "k", 0, 2));
        due(4, () -> candidateAt(0, 0, "k", 0, 3));
        due(1, () -> candidateAt(0, 0, "k", 0, 4));
        due(MISSING, () -> candidateAt(0, 0, "k", 1, 4));
        due(MISSING, () -> candidateAt(0, 0, "k", -1, 4));
        due(MISSING, () -> candidateAt(0, 0, "l", 0, 4));
        due(MISSING, () -> candidateAt(0, 77, "k", 0, 4));
        due(BAD, () -> candidateAt(0, 0, "k", 0, 5));
        due(BAD, () -> candidateAt(0, 0, "k", 0, -1));
        due(BAD, () -> candidateAt(0, 0, "", 0, 0));
        due(BAD, () -> candidateAt(8, 0, "k", 0, 0));
        due(BAD, () -> x.candidate(0, 0, -1, 0, 0));
        due(BAD, () -> x.candidate(0, 0, 0, 0, 0));
        give("k", "l");
        due(BAD, () -> x.candidate(0, 0, -1, 0, 0));
        due(0, () -> x.told(1));
        int list = setAt(0, 0, "list", 7, 0);
        x.insert(0, list, 0, 3, Long.MIN_VALUE);
        due(Long.MIN_VALUE, () -> x.candidate(0, list, 0, 0, 2));
        due(0, () -> x.candidate(0, list, 0, 0, 3));
        due(24, () -> x.candidate(0, list, 0, 0, 1));
        due(MISSING, () -> x.candidate(0, list, 1, 0, 0));
        due(MISSING, () -> x.candidate(0, list, -2, 0, 0));
        due(BAD, () -> candidateAt(0, list, "k", 0, 0));
        give("k");
        due(BAD, () -> x.candidate(0, list, 0, 0, 0));
        // eight at the same time
        x.commit(0);
        for (int r = 1; r < 8; r++) {
            x.join(0, r);
        }
        for (int r = 0; r < 8; r++) {
            setAt(r, 0, "k", 3, r);
            x.commit(r);
        }
        for (int r = 1; r < 8; r++) {
            x.join(r, 0);
        }
        due(8, () -> candidateAt(0, 0, "k", 7, 4));
        for (int c = 0; c < 8; c++) {
            int number = c;
            due(7 - c, () -> candidateAt(0, 0, "k", number, 2));
            due(8 * 4 + 7 - c, () -> candidateAt(0, 0, "k", number, 1));
        }
        setAt(0, 0, "k", 0, 0);
        due(1, () -> candidateAt(0, 0, "k", 0, 4));
    }

    private static void letter() {
        int op = setString(0, 0, "key", "a\u00ff\u0000");
        due('a', () -> x.letter(0, op, 0));
        due(255, () -> x.letter(0, op, 1));
        due(0, () -> x.letter(0, op, 2));
        due(MISSING, () -> x.letter(0, op, 3));
        due(MISSING, () -> x.letter(0, op, -1));
        due(MISSING, () -> x.letter(1, op, 0));
        due(MISSING, () -> x.letter(0, 0, 0));
        due(MISSING, () -> x.letter(0, -5, 0));
        due(MISSING, () -> x.letter(0, Integer.MAX_VALUE, 0));
        due(BAD, () -> x.letter(8, op, 0));
        int number = setAt(0, 0, "key", 3, 5);
        due('a', () -> x.letter(0, op, 0));
        due(MISSING, () -> x.letter(0, number, 0));
        int text = setAt(0, 0, "t", 8, 0);
        give("xy");
        x.splice(0, text, 0, 0);
        due('y', () -> x.letter(0, x.element(0, text, 1), 0));
        x.commit(0);
        int later = setString(0, 0, "z", "z");
        x.look(0, 0, 1);
        due(MISSING, () -> x.letter(0, later, 0));
        due('a', () -> x.letter(0, op, 0));
    }

    private static void element() {
        int list = setAt(0, 0, "l", 7, 0);
        x.insert(0, list, 0, 3, 1);
        x.insert(0, list, 0, 3, 2);
        x.put(0, list, 0, 3, 3);
        due(24, () -> x.element(0, list, 0));
        due(16, () -> x.element(0, list, 1));
        due(MISSING, () -> x.element(0, list, 2));
        due(MISSING, () -> x.element(0, list, -1));
        due(MISSING, () -> x.element(0, 800, 0));
        due(BAD, () -> x.element(0, 0, 0));
        due(BAD, () -> x.element(8, list, 0));
        x.erase(0, list, 0);
        due(16, () -> x.element(0, list, 0));
        due(MISSING, () -> x.element(0, list, 1));
    }

    private static void index() {
        int list = setAt(0, 0, "l", 7, 0);
        int a = x.insert(0, list, 0, 3, 1);
        int b = x.insert(0, list, 1, 3, 2);
        int c = x.insert(0, list, 2, 3, 3);
        int put = x.put(0, list, 0, 3, 9);
        due(0, () -> x.index(0, list, a));
        due(1, () -> x.index(0, list, b));
        due(2, () -> x.index(0, list, c));
        x.erase(0, list, 1);
        due(1, () -> x.index(0, list, b));
        due(1, () -> x.index(0, list, c));
        due(MISSING, () -> x.index(0, list, put));
        due(MISSING, () -> x.index(0, list, 0));
        due(MISSING, () -> x.index(0, list, list));
        due(MISSING, () -> x.index(0, list, -8));
        due(MISSING, () -> x.index(0, list, 32008));
        due(MISSING, () -> x.index(0, 3, a));
        due(BAD, () -> x.index(0, 0, a));
        due(BAD, () -> x.index(9, list, a));
        int other = setAt(0, 0, "o", 8, 0);
        due(MISSING, () -> x.index(0, other, a));
        // places are followed while others come before them
        x.commit(0);
        x.join(0, 1);
        x.insert(1, list, 0, 0, 0);
        x.insert(1, list, 0, 0, 0);
        x.commit(1);
        x.join(1, 0);
        due(2, () -> x.index(0, list, a));
        due(3, () -> x.index(0, list, c));
        x.look(0, 0, 1);
        due(0, () -> x.index(0, list, a));
    }

    private static void find() {
        readAt(0, 0, "a", "{\"b_1\":[10,[20,{\"c\":null}]],\"Z\":1}");
        due(8, () -> findAt(0, "a"));
        due(16, () -> findAt(0, "a.b_1"));
        due(24, () -> findAt(0, "a.b_1[0]"));
        due(32, () -> findAt(0, "a.b_1[1]"));
        due(40, () -> findAt(0, "a.b_1[1][0]"));
        due(56, () -> findAt(0, "a.b_1[1][000001].c"));
        due(64, () -> findAt(0, "a.Z"));
        due(72, () -> setAt(0, 0, "azAZ09_", 0, 0));
        due(72, () -> findAt(0, "azAZ09_"));
        due(MISSING, () -> findAt(0, "b"));
        due(MISSING, () -> findAt(0, "a.b_1[2]"));
        due(MISSING, () -> findAt(0, "a.b_1.c"));
        due(MISSING, () -> findAt(0, "a[0]"));
        due(MISSING, () -> findAt(0, "a.Z.c"));
        due(MISSING, () -> findAt(0, "a.Z[0]"));
        due(MISSING, () -> findAt(0, "a.b_1[999999]"));
        due(MISSING, () -> findAt(0, "a".repeat(64)));
        String[] bad = {"", ".a", "[0]", "a.", "a..b", "a[", "a[]", "a[0", "a[0]b", "a[1234567]", "a[-1]", "a[x]", "a b", "a-b",
            "a]", "a@", "a`", "a{", "a/", "a:", "a.[0]", "a\u00e4", "a".repeat(65), "b." + "a".repeat(65), "b.", "b[0]]", "a[0000000]"};
        for (String path : bad) {
            due(BAD, () -> findAt(0, path));
        }
        due(BAD, () -> x.find(0));
        give("a", "b");
        due(BAD, () -> x.find(0));
        give("a");
        due(BAD, () -> x.find(8));
        // a TEXT has INDICES, too; THE VALUE is the first CANDIDATE
        int text = setAt(0, 0, "t", 8, 0);
        give("xy");
        x.splice(0, text, 0, 0);
        due(text + 16, () -> findAt(0, "t[1]"));
        x.commit(0);
        x.join(0, 1);
        setAt(0, 0, "a", 3, 0);
        setAt(1, 0, "a", 3, 0);
        x.commit(0);
        x.commit(1);
        x.join(1, 0);
        due(text + 25, () -> findAt(0, "a"));
        x.look(0, 0, 1);
        due(64, () -> findAt(0, "a.Z"));
    }

    // ---------------------------------------------------------------- 23 to 29

    private static void text() {
        setString(0, 0, "s", " !\"#\\/\n\t\r\u0000\u001f\u007f\u0080\u00ff~");
        setAt(0, 0, "\n\"", 3, Long.MIN_VALUE);
        setAt(0, 0, "n", 3, -10);
        setAt(0, 0, "z", 3, 0);
        shows("{\"\\n\\\"\":-9223372036854775808,\"n\":-10,\"s\":\" !\\\"#\\\\/\\n\\x09\\x0d\\x00\\x1f\\x7f\\x80\\xff~\",\"z\":0}", 0, 0);
        due(0, () -> x.told(7));
        int list = setAt(0, 0, "l", 7, 0);
        int text = setAt(0, list - list, "t", 8, 0);
        shows("[]", 0, list);
        shows("\"\"", 0, text);
        x.insert(0, list, 0, 7, 0);
        x.insert(0, list, 1, 6, 0);
        x.insert(0, list, 2, 8, 0);
        x.insert(0, list, 3, 5, 100);
        x.insert(0, list, 4, 3, Long.MAX_VALUE);
        shows("[[],{},\"\",100,9223372036854775807]", 0, list);
        x.erase(0, list, 0);
        shows("[{},\"\",100,9223372036854775807]", 0, list);
        due(MISSING, () -> x.text(0, 3));
        due(MISSING, () -> x.text(1, list));
        due(BAD, () -> x.text(8, 0));
        x.commit(0);
        x.save(0);
        due(1, () -> x.told(7));
        x.text(0, 0);
        due(0, () -> x.told(7));
        due(REFUSED, () -> x.load(1));
    }

    private static void textLong() {
        // OBJECTS thousands deep
        int inner = 0;
        for (int i = 0; i < 2000; i++) {
            inner = setAt(0, inner, "k", 6, 0);
        }
        int length = 2 + 6 * 2000;
        due(length, () -> x.text(0, 0));
        check("{\"k\":".repeat(2000) + "{}" + "}".repeat(2000), outText());
        // exactly 16384 bytes are allowed: the KEY is written with its quotes and a comma, the STRING with its quotes
        int room = 16384 - length;
        setString(0, 0, "s1", "a".repeat(1024));
        setString(0, 0, "s2", "a".repeat(1024));
        setString(0, 0, "s3", "a".repeat(1024));
        int left = room - 3 * (1024 + 8) - 8;
        setString(0, 0, "s4", "\u0001".repeat(left / 4) + "a".repeat(left % 4));
        due(16384, () -> x.text(0, 0));
        String before = outText();
        setString(0, 0, "s4", "\u0001".repeat(left / 4) + "a".repeat(left % 4 + 1));
        due(REFUSED, () -> x.text(0, 0));
        due(16384, () -> x.told(6));
        check(before, outText());
        due(MISSING, () -> x.text(0, 5));
        x.commit(0);
        x.save(0);
        due(REFUSED, () -> x.text(0, 0));
        due(1, () -> x.told(7));
        shows("{}", 0, inner);
    }

    private static void save() {
        saves(bytesText(0), 0);
        setAt(0, 0, "k", 5, -3);
        due(REFUSED, () -> x.save(0));
        due(BAD, () -> x.save(8));
        due(BAD, () -> x.save(-1));
        give("k");
        x.add(0, 0, -1, 64);
        int list = setAt(0, 0, "l", 7, 0);
        x.insert(0, list, 0, 3, Long.MIN_VALUE);
        x.insert(0, list, 1, 2, 0);
        give("str");
        x.put(0, list, 1, 4, 0);
        x.erase(0, list, 0);
        x.commit(0);
        String minimum = "\u00ff".repeat(9) + "\u0001";
        String first = bytesText(0, 1, 0, 1, 7)
                + bytesText(0, 5, 1, 'k', 5, 0)
                + bytesText(0, 10, 1, 'k', 128, 1, 8)
                + bytesText(0, 7, 1, 'l', 0)
                + bytesText(24, 19, 0) + minimum + bytesText(0)
                + bytesText(24, 18, 32, 0)
                + bytesText(24, 4, 40, 3, 's', 't', 'r', 1, 40)
                + bytesText(24, 9, 32, 1, 32);
        saves(bytesText(1) + first, 0);
        x.join(0, 3);
        setAt(3, 0, "k", 0, 0);
        x.commit(3);
        setAt(0, 0, "k", 1, 0);
        x.commit(0);
        x.join(3, 0);
        setAt(0, 0, "k", 2, 0);
        x.commit(0);
        String second = bytesText(0, 2, 1, 0, 1, 8, 1) + bytesText(0, 1, 1, 'k', 1, 8);
        String third = bytesText(0, 3, 2, 0, 2, 3, 1, 9, 1) + bytesText(0, 2, 1, 'k', 2, 64, 67);
        String other = bytesText(3, 1, 1, 0, 1, 8, 1) + bytesText(0, 0, 1, 'k', 1, 8);
        saves(bytesText(4) + first + second + third + other, 0);
        saves(bytesText(2) + first + other, 3);
        // VIEW doesn't matter
        x.look(0, 0, 1);
        saves(bytesText(4) + first + second + third + other, 0);
        // nor what WAITS
        x.send(0, 5, 3, 1);
        saves(bytesText(0), 5);
    }

    private static void load() {
        due(REFUSED, () -> x.load(0));
        due(BAD, () -> x.load(8));
        setAt(0, 0, "a", 3, 1);
        x.commit(0);
        x.join(0, 1);
        setAt(1, 0, "b", 3, 2);
        x.commit(1);
        x.save(1);
        setAt(0, 0, "c", 3, 3);
        x.commit(0);
        due(0, () -> x.load(1));
        due(1, () -> x.load(0));
        due(2, () -> x.load(2));
        shows("{\"a\":1,\"b\":2}", 2, 0);
        due(REFUSED, () -> x.load(2));
        x.save(0);
        setAt(2, 0, "d", 3, 4);
        due(REFUSED, () -> x.load(2));
        due(BAD, () -> x.load(-1));
        x.drop(2);
        due(1, () -> x.load(2));
        shows("{\"a\":1,\"b\":2,\"c\":3}", 2, 0);
        // of any time, with VIEW not all
        x.save(1);
        x.look(3, -1, 0);
        due(2, () -> x.load(3));
        x.look(3, 0, 1);
        x.save(0);
        due(1, () -> x.load(3));
        due(3, () -> x.count(3, 0));
        due(1, () -> x.count(3, 6));
        // SAVED of one that has nothing
        x.save(7);
        due(0, () -> x.load(3));
    }

    private static void loadDamaged() {
        setAt(0, 0, "a", 3, 1);
        x.commit(0);
        x.join(0, 1);
        setAt(1, 0, "b", 3, 2);
        x.commit(1);
        int length = x.save(1);
        for (int i = 0; i < length; i++) {
            for (int bit = 0; bit < 8; bit++) {
                x.harm(i, bit);
                due(DAMAGED, () -> x.load(2));
                x.harm(i, bit);
            }
        }
        due(0, () -> x.count(2, 0) + x.count(2, 1));
        due(1, () -> x.told(7));
        x.harm(0, 0);
        setAt(2, 0, "o", 0, 0);
        due(REFUSED, () -> x.load(2));
        x.drop(2);
        due(DAMAGED, () -> x.load(2));
        x.harm(0, 0);
        due(2, () -> x.load(2));
        // a right CRC of other bytes isn't enough
        String saved = outText();
        String body = saved.substring(0, saved.length() - 4);
        forge(withCrc(body.replace('b', 'c')));
        due(DAMAGED, () -> x.load(3));
        // first CHANGES whose DEPS aren't among them: they WAIT
        x = new JoinedTrees();
        setAt(0, 0, "a", 3, 1);
        x.commit(0);
        x.join(0, 1);
        setAt(1, 0, "b", 3, 2);
        x.commit(1);
        setAt(2, 0, "cc", 3, 2);
        x.commit(2);
        String only = bytesText(1, 1, 1, 1, 0, 1, 2, 1, 0, 3, 1, 'b', 4, 0);
        x.save(2);
        check(String.valueOf(only.length() - 1), String.valueOf(x.told(6) - 4));
        // an OUT as long is needed: so one with a longer KEY
        setAt(3, 0, "ccc", 3, 2);
        x.commit(3);
        x.save(3);
        forge(withCrc(only));
        due(0, () -> x.load(4));
        due(1, () -> x.count(4, 1));
        due(2, () -> x.join(0, 4));
        due(0, () -> x.count(4, 1));
        shows("{\"a\":1,\"b\":2}", 4, 0);
    }

    private static void harm() {
        due(MISSING, () -> harmed(0, 0));
        due(BAD, () -> harmed(0, 8));
        x.text(0, 0);
        due(0, () -> harmed(0, 0));
        check("z}", outText());
        due(0, () -> harmed(1, 7));
        check("z\u00fd", outText());
        due(0, () -> harmed(1, 7));
        due(MISSING, () -> harmed(2, 0));
        due(MISSING, () -> harmed(-1, 0));
        due(BAD, () -> harmed(0, -1));
        due(BAD, () -> harmed(-1, 8));
        check("z}", outText());
        due(2, () -> x.told(6));
        due(0, () -> x.told(7));
    }

    private static void out() {
        setAt(0, 0, "abc", 3, 12);
        x.text(0, 0);
        due(0x7b22616263223a31L, () -> x.out(0));
        due(0x327d000000000000L, () -> x.out(1));
        due(0, () -> x.out(2));
        due(0, () -> x.out(8191));
        due(BAD, () -> x.out(8192));
        due(BAD, () -> x.out(-1));
        due(BAD, () -> x.out(Integer.MAX_VALUE));
        // a shorter OUT leaves nothing of a longer one behind
        int list = setAt(0, 0, "l", 7, 0);
        x.text(0, list);
        due(0x5b5d000000000000L, () -> x.out(0));
        due(0, () -> x.out(1));
        x.commit(0);
        x.join(0, 1);
        x.save(1);
        x.text(0, list);
        due(0, () -> x.out(1));
    }

    private static void count() {
        setAt(0, 0, "a", 0, 0);
        setAt(0, 0, "b", 0, 0);
        x.commit(0);
        x.join(0, 1);
        setAt(1, 0, "c", 0, 0);
        x.commit(1);
        setAt(0, 0, "d", 0, 0);
        x.commit(0);
        x.join(1, 0);
        setAt(0, 0, "e", 0, 0);
        int[] due = {3, 0, 2, 1, 5, 4, 3};
        for (int what = 0; what < due.length; what++) {
            int asked = what;
            due(due[what], () -> x.count(0, asked));
        }
        due(2, () -> x.count(0, 10));
        due(1, () -> x.count(0, 11));
        due(0, () -> x.count(0, 17));
        for (int what : new int[] {-1, 7, 8, 9, 18, Integer.MIN_VALUE, Integer.MAX_VALUE}) {
            due(-1, () -> x.count(0, what));
        }
        due(BAD, () -> x.count(8, 0));
        due(BAD, () -> x.count(-1, 99));
        x.look(0, 1, 1);
        due(2, () -> x.count(0, 6));
        due(3, () -> x.count(0, 0));
        due(1, () -> x.count(0, 3));
        x.send(0, 2, 1, 1);
        x.send(0, 2, 0, 2);
        due(2, () -> x.count(2, 1));
        due(0, () -> x.count(2, 0));
        due(0, () -> x.count(2, 10));
        due(0, () -> x.count(2, 5));
    }

    private static void told() {
        x.feed(0, 0, 0, 0, 0);
        due(20, () -> x.told(0));
        x.end(10);
        due(0, () -> x.told(0));
        due(1, () -> x.told(1));
        x.end(0);
        x.end(0);
        due(2, () -> x.told(1));
        due(BAD, () -> x.find(0));
        due(0, () -> x.told(1));
        due(-1, () -> x.told(5));
        setString(0, 0, "key", "string");
        give("key");
        x.erase(0, 0, -1);
        due(2, () -> x.told(2));
        due(12, () -> x.told(4));
        due(0, () -> x.told(3));
        x.commit(0);
        due(1, () -> x.told(3));
        setAt(0, 0, "x", 0, 0);
        x.drop(0);
        due(3, () -> x.told(2));
        due(13, () -> x.told(4));
        why(1, "1x");
        due(1, () -> x.told(5));
        x.text(0, 0);
        due(2, () -> x.told(6));
        due(0, () -> x.told(7));
        x.save(0);
        due(1, () -> x.told(7));
        x.harm(0, 0);
        due(1, () -> x.told(7));
        for (int what : new int[] {-1, 8, Integer.MIN_VALUE, Integer.MAX_VALUE}) {
            due(-1, () -> x.told(what));
        }
    }

    // ---------------------------------------------------------------- terms

    private static void fullStore() {
        // bytes of KEYS and STRINGS: 24576
        for (int i = 0; i < 23; i++) {
            setString(0, 0, "k", "s".repeat(1024));
        }
        due(23575, () -> x.told(4));
        due(FULL, () -> setString(0, 0, "k", "s".repeat(1001)));
        due(23575, () -> x.told(4));
        due(23, () -> x.told(2));
        due(8 * 24, () -> setString(0, 0, "k", "s".repeat(999)));
        due(24575, () -> x.told(4));
        due(FULL, () -> setAt(0, 0, "kk", 0, 0));
        due(FULL, () -> readAt(0, 0, "k", "{\"a\":1}"));
        due(FULL, () -> readAt(0, 0, "k", "\"a\""));
        int list = setAt(0, 0, "l", 7, 0);
        due(24576, () -> x.told(4));
        give("k");
        due(FULL, () -> x.erase(0, 0, -1));
        due(8 * 26, () -> x.insert(0, list, 0, 5, 1));
        x.drop(0);
        // those that went are counted, too
        due(FULL, () -> setAt(0, 0, "k", 0, 0));
        x = new JoinedTrees();
        setAt(0, 0, "k", 5, 0);
        for (int i = 0; i < 23; i++) {
            setString(0, 0, "l", "s".repeat(1024));
        }
        setString(0, 0, "l", "s".repeat(999));
        give("k");
        due(FULL, () -> x.add(0, 0, -1, 1));
        // in a LIST no KEY is needed
        x = new JoinedTrees();
        int some = setAt(0, 0, "l", 7, 0);
        for (int i = 0; i < 23; i++) {
            setString(0, 0, "s", "s".repeat(1024));
        }
        setString(0, 0, "s", "s".repeat(999));
        due(24576, () -> x.told(4));
        x.insert(0, some, 0, 5, 1);
        give("s");
        due(FULL, () -> x.insert(0, some, 0, 4, 0));
        give("s");
        due(FULL, () -> x.put(0, some, 0, 4, 0));
        give("");
        due(8 * 27, () -> x.insert(0, some, 0, 4, 0));
        due(8 * 28, () -> x.add(0, some, 1, 1));
        due(8 * 29, () -> x.erase(0, some, 0));
        x.commit(0);
        x.look(0, 0, 1);
        due(REFUSED, () -> setAt(0, 0, "kk", 0, 0));
        due(FULL, () -> setAt(1, 0, "kk", 0, 0));
        // 1000 CHANGES
        x = new JoinedTrees();
        int counters = setAt(0, 0, "l", 7, 0);
        x.insert(0, counters, 0, 5, 0);
        for (int i = 1; i <= 1000; i++) {
            x.add(0, counters, 0, 1);
            int number = i;
            due(number, () -> x.commit(0));
        }
        x.add(0, counters, 0, 1);
        due(FULL, () -> x.commit(0));
        due(1, () -> x.count(0, 3));
        due(REFUSED, () -> x.commit(1));
        due(1000, () -> x.told(3));
        due(1, () -> x.drop(0));
        x.save(0);
        due(1000, () -> x.load(6));
        // the number of CHANGES takes one byte up to 127, then two
        for (int more : new int[] {127, 1, 1, 127, 1}) {
            int before = x.count(4, 0);
            for (int i = 1; i <= more; i++) {
                x.send(0, 4, 0, before + i);
            }
            x.save(4);
            int replica = 5;
            due(more, () -> x.load(replica));
        }
        shows("{\"l\":[1000]}", 6, 0);
    }

    private static void orderOfRefusals() {
        // each time two things are wrong: bad, missing, REFUSED, FULL is the order
        int list = setAt(0, 0, "l", 7, 0);
        setString(0, 0, "s", "s");
        x.commit(0);
        x.look(0, 0, 1);
        give("k");
        due(BAD, () -> x.set(0, 4444, 9, 0));
        due(MISSING, () -> setAt(0, 4444, "k", 0, 0));
        due(BAD, () -> setAt(0, list, "k", 0, 0));
        due(MISSING, () -> x.put(0, list, 0, 0, 0));
        due(MISSING, () -> x.insert(0, list, 1, 0, 0));
        due(REFUSED, () -> x.insert(0, list, 0, 0, 0));
        give("k");
        due(MISSING, () -> x.erase(0, 0, -1));
        give("s");
        due(MISSING, () -> x.add(0, 0, -1, 0));
        give("s");
        due(REFUSED, () -> x.erase(0, 0, -1));
        due(2, () -> x.told(2));
        // ARGUMENTS are taken, whatever happens
        give("s");
        due(BAD, () -> x.candidate(99, 0, -1, 0, 0));
        due(0, () -> x.told(1));
        // calls without [ ] leave them
        give("s");
        x.look(0, -1, 0);
        x.object(0, 0, 0);
        x.key(0, 0, 0, 0);
        x.letter(0, 16, 0);
        x.text(0, 0);
        x.save(0);
        x.load(1);
        x.harm(0, 0);
        x.out(0);
        x.count(0, 0);
        x.join(0, 1);
        x.send(0, 1, 0, 1);
        x.drop(0);
        due(MISSING, () -> x.element(0, list, 0));
        due(MISSING, () -> x.index(0, list, 16));
        due(REFUSED, () -> x.commit(0));
        due(1, () -> x.told(1));
        due(24, () -> x.set(0, 0, 0, 0));
    }
}

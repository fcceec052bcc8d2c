import java.util.NoSuchElementException;

/**
 * A JSON document in eight replicas, which change it apart and join what they have in any order.
 *
 * All replicas share one store of OPS. A replica always has the first CHANGES of each ACTOR, so eight
 * numbers say what it has, and eight numbers say what a CHANGE depends on.
 */
public final class JoinedTrees {
    private static final int REPLICAS = 8;
    private static final int MOST_OPS = 4000;
    private static final int MOST_CHANGES = 1000;
    private static final int MOST_KEPT = 24576;
    private static final int MOST_GIVEN = 8192;
    private static final int MOST_KEY = 64;
    private static final int MOST_STRING = 1024;
    private static final int MOST_TEXT = 16384;
    private static final int MOST_VALUES = 500;
    private static final int MOST_DEPTH = 20;
    private static final int MOST_INDEX_DIGITS = 6;
    private static final int MOST_NUMBER_DIGITS = 18;
    private static final int MOST_OUT_CALLS = 8192;
    private static final int FED = 20;

    /* Counted from the longest SAVED: 42 bytes an OP, 32 a CHANGE, how many CHANGES (2) and the CRC (4). */
    private static final int MOST_SAVED = 42 * MOST_OPS + 32 * MOST_CHANGES + MOST_KEPT + 6;

    /* The number of a CHANGE that no VIEW reaches: OPS that went belong to it. */
    private static final int GONE = MOST_CHANGES + 2;

    private static final int NULL = 0;
    private static final int FALSE = 1;
    private static final int TRUE = 2;
    private static final int NUMBER = 3;
    private static final int STRING = 4;
    private static final int COUNTER = 5;
    private static final int MAP = 6;
    private static final int LIST = 7;
    private static final int TEXT = 8;
    private static final int DELETE = 9;
    private static final int ADD = 10;
    private static final int INSERT_MARK = 16;

    private final Store store;
    private final Replica[] replicas;
    private final View view;
    private final JsonReader reader;
    private final JsonWriter writer;
    private final Saver saver;
    private final Row out;
    private boolean outIsSaved;
    private Row input;
    private Row first;
    private Row second;
    private int arguments;
    private int where;

    public JoinedTrees() {
        store = new Store();
        replicas = new Replica[REPLICAS];
        for (int r = 0; r < REPLICAS; r++) {
            replicas[r] = new Replica(r);
        }
        view = new View(store);
        reader = new JsonReader();
        writer = new JsonWriter(view);
        out = new Row(MOST_SAVED);
        saver = new Saver(store, out);
        input = new Row(MOST_GIVEN);
        first = new Row(MOST_GIVEN);
        second = new Row(MOST_GIVEN);
        where = -1;
    }

    public int feed(int a, int b, int c, int d, int e) throws IndexOutOfBoundsException {
        if (input.length + argumentBytes() + FED > MOST_GIVEN) {
            throw new IndexOutOfBoundsException();
        }
        input.writeInt(a);
        input.writeInt(b);
        input.writeInt(c);
        input.writeInt(d);
        input.writeInt(e);
        return input.length;
    }

    public int end(int n) throws IllegalArgumentException {
        if (n < 0 || n >= FED || n > input.length) {
            throw new IllegalArgumentException();
        }
        input.length -= n;
        Row free;
        if (arguments == 0) {
            free = first;
            first = input;
            arguments = 1;
        } else if (arguments == 1) {
            free = second;
            second = input;
            arguments = 2;
        } else {
            free = first;
            first = second;
            second = input;
        }
        free.clear();
        input = free;
        return arguments;
    }

    public int set(int r, int object, int sort, long n) throws IllegalArgumentException, IllegalStateException, java.util.NoSuchElementException, IndexOutOfBoundsException {
        int given = takeArguments();
        Replica replica = shown(r);
        needValue(sort, given, 1);
        needKey();
        Op map = mapAt(object);
        needAll(replica);
        needRoom(1, first.length + stringLength(sort, second));
        Op op = writeAtKey(replica, map, first, 0, first.length, sort, n);
        giveString(op, second);
        return op.id;
    }

    public int put(int r, int object, int i, int sort, long n) throws IllegalArgumentException, IllegalStateException, java.util.NoSuchElementException, IndexOutOfBoundsException {
        int given = takeArguments();
        Replica replica = shown(r);
        needValue(sort, given, 0);
        Spot spot = view.spotAt(listAt(object), i);
        needSpot(spot);
        needAll(replica);
        needRoom(1, stringLength(sort, first));
        Op op = writeOn(replica, spot, sort, n);
        giveString(op, first);
        return op.id;
    }

    public int insert(int r, int object, int i, int sort, long n) throws IllegalArgumentException, IllegalStateException, java.util.NoSuchElementException, IndexOutOfBoundsException {
        int given = takeArguments();
        Replica replica = shown(r);
        needValue(sort, given, 0);
        Op list = listAt(object);
        Op behind = elementBefore(list, i);
        needAll(replica);
        needRoom(1, stringLength(sort, first));
        Op op = writeBehind(replica, list, behind, sort, n);
        giveString(op, first);
        return op.id;
    }

    public int splice(int r, int object, int i, int n) throws IllegalArgumentException, IllegalStateException, java.util.NoSuchElementException, IndexOutOfBoundsException {
        int given = takeArguments();
        Replica replica = shown(r);
        if (n < 0 || given != 1 || first.length > MOST_STRING) {
            throw new IllegalArgumentException();
        }
        Op text = objectAt(object);
        if (text.sort != TEXT) {
            throw new IllegalArgumentException();
        }
        Op behind = elementBefore(text, i);
        int size = view.filledIn(text);
        if (n > size - i) {
            throw new NoSuchElementException();
        }
        needAll(replica);
        needRoom(n + first.length, first.length);
        eraseRun(replica, view.spotAt(text, i), n);
        insertRun(replica, text, behind);
        return size - n + first.length;
    }

    public int erase(int r, int object, int i) throws IllegalArgumentException, IllegalStateException, java.util.NoSuchElementException, IndexOutOfBoundsException {
        int given = takeArguments();
        Replica replica = shown(r);
        needPlace(given, i);
        Spot spot = placeAt(object, i);
        needAll(replica);
        needRoom(1, i == -1 ? first.length : 0);
        return writeOn(replica, spot, DELETE, 0).id;
    }

    public int add(int r, int object, int i, long n) throws IllegalArgumentException, IllegalStateException, java.util.NoSuchElementException, IndexOutOfBoundsException {
        int given = takeArguments();
        Replica replica = shown(r);
        needPlace(given, i);
        Spot spot = placeAt(object, i);
        view.gather(spot);
        view.keepCounters();
        if (view.size == 0) {
            throw new NoSuchElementException();
        }
        needAll(replica);
        needRoom(1, i == -1 ? first.length : 0);
        return writeOn(replica, spot, ADD, n).id;
    }

    public int read(int r, int object) throws IllegalArgumentException, IllegalStateException, java.util.NoSuchElementException, IndexOutOfBoundsException {
        int given = takeArguments();
        Replica replica = shown(r);
        if (given != 2) {
            throw new IllegalArgumentException();
        }
        needKey();
        if (!reader.parse(second)) {
            where = reader.at;
            throw new IllegalArgumentException();
        }
        Op map = mapAt(object);
        needAll(replica);
        needRoom(reader.size, first.length + reader.decoded.length);
        return writeValues(replica, map);
    }

    public int commit(int r) throws IllegalArgumentException, IllegalStateException, IndexOutOfBoundsException {
        Replica replica = shown(r);
        if (replica.open == 0) {
            throw new IllegalStateException();
        }
        if (store.changesMade >= MOST_CHANGES) {
            throw new IndexOutOfBoundsException();
        }
        return store.close(replica);
    }

    public int drop(int r) throws IllegalArgumentException {
        Replica replica = shown(r);
        int gone = replica.open;
        for (int i = 0; i < gone; i++) {
            store.forget(REPLICAS * (replica.top - i) + replica.actor);
        }
        replica.top -= gone;
        replica.ops -= gone;
        replica.open = 0;
        return gone;
    }

    public int send(int from, int to, int actor, int number) throws IllegalArgumentException, IllegalStateException, java.util.NoSuchElementException {
        Replica giver = shown(from);
        Replica taker = shown(to);
        if (actor < 0 || actor >= REPLICAS) {
            throw new IllegalArgumentException();
        }
        Change change = store.changeAt(actor, number);
        if (change == null || !giver.holds(change)) {
            throw new NoSuchElementException();
        }
        needNoneOpen(taker);
        taker.expect(change);
        return store.settle(taker);
    }

    public int join(int from, int to) throws IllegalArgumentException, IllegalStateException {
        Replica giver = shown(from);
        Replica taker = shown(to);
        needNoneOpen(taker);
        for (int i = 0; i < store.changesMade; i++) {
            Change change = store.changes[i];
            if (giver.holds(change) || giver.waits[i]) {
                taker.expect(change);
            }
        }
        return store.settle(taker);
    }

    public int look(int r, int actor, int number) throws IllegalArgumentException, java.util.NoSuchElementException {
        Replica replica = shown(r);
        if (actor < -1 || actor >= REPLICAS) {
            throw new IllegalArgumentException();
        }
        Change change = null;
        if (actor >= 0) {
            change = store.changeAt(actor, number);
            if (change == null || !replica.holds(change)) {
                throw new NoSuchElementException();
            }
        }
        replica.looked = change;
        return replica.changesInView();
    }

    public int object(int r, int object, int what) throws IllegalArgumentException, java.util.NoSuchElementException {
        shown(r);
        if (what < 0 || what > 1) {
            throw new IllegalArgumentException();
        }
        Op op = objectAt(object);
        return what == 0 ? op.sort : view.filledIn(op);
    }

    public int key(int r, int object, int i, int k) throws IllegalArgumentException, java.util.NoSuchElementException {
        shown(r);
        Spot spot = view.spotAt(mapAt(object), i);
        needSpot(spot);
        Op maker = spot.maker;
        if (k == -1) {
            return maker.keyLength;
        }
        if (k < 0 || k >= maker.keyLength) {
            throw new NoSuchElementException();
        }
        return store.kept.at(maker.bytesAt + k);
    }

    public long candidate(int r, int object, int i, int c, int what) throws IllegalArgumentException, java.util.NoSuchElementException {
        int given = takeArguments();
        shown(r);
        needPlace(given, i);
        if (what < 0 || what > 4) {
            throw new IllegalArgumentException();
        }
        view.gather(placeAt(object, i));
        if (c < 0 || c >= view.size) {
            throw new NoSuchElementException();
        }
        Op op = view.found[c];
        switch (what) {
            case 0:
                return op.sort;
            case 1:
                return op.id;
            case 2:
                return view.numberOf(op);
            case 3:
                return op.stringLength;
            default:
                return view.size;
        }
    }

    public int letter(int r, int opid, int k) throws IllegalArgumentException, java.util.NoSuchElementException {
        shown(r);
        Op op = view.opAt(opid);
        if (op == null || k < 0 || k >= op.stringLength) {
            throw new NoSuchElementException();
        }
        return store.kept.at(op.bytesAt + op.keyLength + k);
    }

    public int element(int r, int object, int i) throws IllegalArgumentException, java.util.NoSuchElementException {
        shown(r);
        Spot spot = view.spotAt(listAt(object), i);
        needSpot(spot);
        return spot.maker.id;
    }

    public int index(int r, int object, int element) throws IllegalArgumentException, java.util.NoSuchElementException {
        shown(r);
        Op list = listAt(object);
        Op op = view.opAt(element);
        if (op == null || !op.inserts || op.object != list) {
            throw new NoSuchElementException();
        }
        return view.filledBefore(op.spot, list);
    }

    public int find(int r) throws IllegalArgumentException, java.util.NoSuchElementException {
        int given = takeArguments();
        shown(r);
        if (given != 1 || !isPath()) {
            throw new IllegalArgumentException();
        }
        Op op = store.root;
        int at = 0;
        for (int steps = 0; steps < MOST_GIVEN && op != null && at < first.length; steps++) {
            int end = stepEnd(at);
            op = first.at(at) == '[' ? elementOf(op, at, end) : keyOf(op, at == 0 ? 0 : at + 1, end);
            at = end;
        }
        if (op == null) {
            throw new NoSuchElementException();
        }
        return op.id;
    }

    public int text(int r, int object) throws IllegalArgumentException, IllegalStateException, java.util.NoSuchElementException {
        shown(r);
        Row json = writer.writeObject(objectAt(object));
        if (json.spilt) {
            throw new IllegalStateException();
        }
        out.clear();
        out.writeAll(json, 0, json.length);
        outIsSaved = false;
        return out.length;
    }

    public int save(int r) throws IllegalArgumentException, IllegalStateException {
        Replica replica = shown(r);
        needNoneOpen(replica);
        saver.writeSaved(replica);
        outIsSaved = true;
        return out.length;
    }

    public int load(int r) throws IllegalArgumentException, IllegalStateException, ArithmeticException {
        Replica replica = shown(r);
        needNoneOpen(replica);
        if (!outIsSaved) {
            throw new IllegalStateException();
        }
        if (!saver.isRight()) {
            throw new ArithmeticException();
        }
        for (int i = 0; i < store.changesMade; i++) {
            Change change = store.changes[i];
            if (change.number <= saver.taken[change.actor]) {
                replica.expect(change);
            }
        }
        return store.settle(replica);
    }

    public void harm(int i, int bit) throws IllegalArgumentException, java.util.NoSuchElementException {
        if (bit < 0 || bit > 7) {
            throw new IllegalArgumentException();
        }
        if (i < 0 || i >= out.length) {
            throw new NoSuchElementException();
        }
        out.bytes[i] = (byte) (out.bytes[i] ^ 1 << bit);
    }

    public long out(int i) throws IllegalArgumentException {
        if (i < 0 || i >= MOST_OUT_CALLS) {
            throw new IllegalArgumentException();
        }
        long eight = 0;
        for (int k = 0; k < 8; k++) {
            eight = eight << 8 | Math.max(0, out.at(8 * i + k));
        }
        return eight;
    }

    public int count(int r, int what) throws IllegalArgumentException {
        Replica replica = shown(r);
        if (what >= 10 && what < 10 + REPLICAS) {
            return replica.has[what - 10];
        }
        switch (what) {
            case 0:
                return replica.changes;
            case 1:
                return replica.waiting;
            case 2:
                return replica.headsNow();
            case 3:
                return replica.open;
            case 4:
                return replica.ops;
            case 5:
                return replica.top;
            case 6:
                return replica.changesInView();
            default:
                return -1;
        }
    }

    public int told(int what) {
        switch (what) {
            case 0:
                return input.length;
            case 1:
                return arguments;
            case 2:
                return store.opsMade;
            case 3:
                return store.changesMade;
            case 4:
                return store.kept.length;
            case 5:
                return where;
            case 6:
                return out.length;
            case 7:
                return outIsSaved ? 1 : 0;
            default:
                return -1;
        }
    }

    /* The rows keep their bytes, which the taking call still reads. */
    private int takeArguments() {
        int given = arguments;
        arguments = 0;
        return given;
    }

    private int argumentBytes() {
        return (arguments > 0 ? first.length : 0) + (arguments > 1 ? second.length : 0);
    }

    /* The replica, whose VIEW all that is asked from then on is answered by. */
    private Replica shown(int r) {
        if (r < 0 || r >= REPLICAS) {
            throw new IllegalArgumentException();
        }
        view.show(replicas[r]);
        return replicas[r];
    }

    private void needValue(int sort, int given, int others) {
        boolean withString = sort == STRING;
        if (sort < NULL || sort > TEXT || given != others + (withString ? 1 : 0)) {
            throw new IllegalArgumentException();
        }
        if (withString && (others == 0 ? first : second).length > MOST_STRING) {
            throw new IllegalArgumentException();
        }
    }

    private void needKey() {
        if (first.length < 1 || first.length > MOST_KEY) {
            throw new IllegalArgumentException();
        }
    }

    /* i -1 stands for the KEY that is given then. */
    private void needPlace(int given, int i) {
        if (given != (i == -1 ? 1 : 0)) {
            throw new IllegalArgumentException();
        }
        if (i == -1) {
            needKey();
        }
    }

    private void needSpot(Spot spot) {
        if (spot == null) {
            throw new NoSuchElementException();
        }
    }

    private void needAll(Replica replica) {
        if (replica.looked != null) {
            throw new IllegalStateException();
        }
    }

    private void needNoneOpen(Replica replica) {
        if (replica.open > 0) {
            throw new IllegalStateException();
        }
    }

    private void needRoom(int ops, int bytes) {
        if (store.opsMade + ops > MOST_OPS || store.kept.length + bytes > MOST_KEPT) {
            throw new IndexOutOfBoundsException();
        }
    }

    private static int stringLength(int sort, Row string) {
        return sort == STRING ? string.length : 0;
    }

    private Op objectAt(int object) {
        Op op = view.opAt(object);
        if (op == null || !op.isObject()) {
            throw new NoSuchElementException();
        }
        return op;
    }

    private Op mapAt(int object) {
        Op op = objectAt(object);
        if (op.sort != MAP) {
            throw new IllegalArgumentException();
        }
        return op;
    }

    private Op listAt(int object) {
        Op op = objectAt(object);
        if (op.sort == MAP) {
            throw new IllegalArgumentException();
        }
        return op;
    }

    /* Where something is: at the KEY given (i -1) or at INDEX i. */
    private Spot placeAt(int object, int i) {
        Spot spot = i == -1
                ? store.spotWith(mapAt(object), first, 0, first.length)
                : view.spotAt(listAt(object), i);
        if (spot == null || view.top(spot) == null) {
            throw new NoSuchElementException();
        }
        return spot;
    }

    /* The ELEMENT that an INSERT at INDEX i is put behind; null is the beginning. */
    private Op elementBefore(Op list, int i) {
        if (i == 0) {
            return null;
        }
        Spot spot = i < 0 ? null : view.spotAt(list, i - 1);
        needSpot(spot);
        return spot.maker;
    }

    private Op writeAtKey(Replica replica, Op map, Row row, int at, int length, int sort, long n) {
        Spot spot = store.spotWith(map, row, at, length);
        if (spot != null) {
            return writeOn(replica, spot, sort, n);
        }
        Op op = store.make(replica, map, sort, n);
        store.keepKey(op, row, at, length);
        store.openKey(op);
        return op;
    }

    /* CANDIDATES are gathered before the new OP is among them. */
    private Op writeOn(Replica replica, Spot spot, int sort, long n) {
        Op maker = spot.maker;
        view.gather(spot);
        if (sort == ADD) {
            view.keepCounters();
        }
        Op op = store.make(replica, maker.object, sort, n);
        op.preds = view.rising();
        if (maker.object.sort == MAP) {
            store.keepKey(op, store.kept, maker.bytesAt, maker.keyLength);
        }
        spot.link(op);
        return op;
    }

    private Op writeBehind(Replica replica, Op list, Op behind, int sort, long n) {
        Op op = store.make(replica, list, sort, n);
        store.openElement(op, behind);
        return op;
    }

    private void giveString(Op op, Row string) {
        if (op.sort == STRING) {
            store.keepString(op, string, 0, string.length);
        }
    }

    private void eraseRun(Replica replica, Spot from, int n) {
        int left = n;
        for (Spot spot = from; spot != null && left > 0; spot = spot.next) {
            if (view.top(spot) != null) {
                writeOn(replica, spot, DELETE, 0);
                left--;
            }
        }
    }

    private void insertRun(Replica replica, Op text, Op behind) {
        Op before = behind;
        for (int k = 0; k < first.length; k++) {
            before = writeBehind(replica, text, before, STRING, 0);
            store.keepString(before, first, k, 1);
        }
    }

    /* All VALUES that the reader holds; answers the OPID of the first. */
    private int writeValues(Replica replica, Op map) {
        int opid = 0;
        for (int i = 0; i < reader.size; i++) {
            Value value = reader.values[i];
            Value around = value.around;
            Op op;
            if (around == null) {
                op = writeAtKey(replica, map, first, 0, first.length, value.sort, value.n);
                opid = op.id;
            } else if (around.sort == MAP) {
                op = writeAtKey(replica, around.op, reader.decoded, value.keyAt, value.keyLength, value.sort, value.n);
            } else {
                op = writeBehind(replica, around.op, around.last, value.sort, value.n);
                around.last = op;
            }
            if (value.sort == STRING) {
                store.keepString(op, reader.decoded, value.bytesAt, value.length);
            }
            value.op = op;
        }
        return opid;
    }

    private boolean isPath() {
        int at = 0;
        for (int steps = 0; steps < MOST_GIVEN && at >= 0 && at < first.length; steps++) {
            at = stepEnd(at);
        }
        return first.length > 0 && at >= 0;
    }

    /* Behind the step of a PATH that begins there; -1 if none does. */
    private int stepEnd(int at) {
        if (at == 0) {
            return keyEnd(0);
        }
        int sign = first.at(at);
        return sign == '.' ? keyEnd(at + 1) : sign == '[' ? indexEnd(at + 1) : -1;
    }

    private int keyEnd(int from) {
        int end = from;
        for (int i = 0; i <= MOST_KEY && isPathSign(first.at(end)); i++) {
            end++;
        }
        return end == from || end - from > MOST_KEY ? -1 : end;
    }

    private int indexEnd(int from) {
        int end = from;
        for (int i = 0; i < MOST_INDEX_DIGITS && isDigit(first.at(end)); i++) {
            end++;
        }
        return end == from || first.at(end) != ']' ? -1 : end + 1;
    }

    private static boolean isPathSign(int sign) {
        return isDigit(sign) || sign == '_' || sign >= 'a' && sign <= 'z' || sign >= 'A' && sign <= 'Z';
    }

    private static boolean isDigit(int sign) {
        return sign >= '0' && sign <= '9';
    }

    private Op keyOf(Op op, int from, int end) {
        Spot spot = op.sort == MAP ? store.spotWith(op, first, from, end - from) : null;
        return spot == null ? null : view.top(spot);
    }

    private Op elementOf(Op op, int from, int end) {
        int i = 0;
        for (int at = from + 1; at < end - 1; at++) {
            i = 10 * i + first.at(at) - '0';
        }
        Spot spot = op.sort == LIST || op.sort == TEXT ? view.spotAt(op, i) : null;
        return spot == null ? null : view.top(spot);
    }

    /* A row of bytes that is made once and used again. */
    private static final class Row {
        final byte[] bytes;
        int length;
        boolean spilt;

        Row(int most) {
            bytes = new byte[most];
        }

        void clear() {
            length = 0;
            spilt = false;
        }

        /* What doesn't fit is told by spilt, so that a writer needn't count ahead. */
        void write(int b) {
            if (length < bytes.length) {
                bytes[length] = (byte) b;
                length++;
            } else {
                spilt = true;
            }
        }

        void writeInt(int n) {
            write(n >>> 24);
            write(n >>> 16);
            write(n >>> 8);
            write(n);
        }

        void writeAll(Row from, int at, int size) {
            for (int i = 0; i < size; i++) {
                write(from.at(at + i));
            }
        }

        /* -1 behind the end: no sign equals it. */
        int at(int i) {
            return i < 0 || i >= length ? -1 : bytes[i] & 255;
        }

        /* Below 0, 0 or above, as bytes without sign go, a beginning first. */
        int compareWith(int at, int size, Row other, int otherAt, int otherSize) {
            for (int i = 0; i < size && i < otherSize; i++) {
                int difference = at(at + i) - other.at(otherAt + i);
                if (difference != 0) {
                    return difference;
                }
            }
            return size - otherSize;
        }
    }

    /* An OP. Its bytes are the KEY's, then the STRING's. */
    private static final class Op {
        final int id;
        final Op object;
        final int sort;
        final long n;
        int change;
        boolean inserts;
        Op behind;
        Op[] preds;
        int bytesAt;
        int keyLength;
        int stringLength;
        Spot spot;
        Op below;
        Spot spots;
        int struck;

        Op(int id, Op object, int sort, long n) {
            this.id = id;
            this.object = object;
            this.sort = sort;
            this.n = sort == NUMBER || sort == COUNTER || sort == ADD ? n : 0;
        }

        boolean isObject() {
            return sort >= MAP && sort <= TEXT;
        }

        boolean hasLong() {
            return sort == NUMBER || sort == COUNTER || sort == ADD;
        }

        boolean hasPred(Op op) {
            for (int i = 0; preds != null && i < preds.length; i++) {
                if (preds[i] == op) {
                    return true;
                }
            }
            return false;
        }
    }

    /* A KEY of a MAP or an ELEMENT, with all OPS of any replica there, the greatest OPID first. */
    private static final class Spot {
        final Op maker;
        Op ops;
        Spot next;

        Spot(Op maker) {
            this.maker = maker;
        }

        void link(Op op) {
            op.spot = this;
            if (ops == null || ops.id < op.id) {
                op.below = ops;
                ops = op;
                return;
            }
            Op above = ops;
            while (above.below != null && above.below.id > op.id) {
                above = above.below;
            }
            op.below = above.below;
            above.below = op;
        }
    }

    /* A CHANGE. Its clock says how many CHANGES of each ACTOR are it and what it depends on. */
    private static final class Change {
        final int actor;
        final int number;
        final int serial;
        final int firstCounter;
        final int size;
        final Change[] deps;
        int[] clock;

        Change(Replica replica, int serial, Change[] deps) {
            this.actor = replica.actor;
            this.number = replica.has[replica.actor] + 1;
            this.serial = serial;
            this.firstCounter = replica.top - replica.open + 1;
            this.size = replica.open;
            this.deps = deps;
        }
    }

    private static final class Replica {
        final int actor;
        final int[] has = new int[REPLICAS];
        final boolean[] waits = new boolean[MOST_CHANGES];
        /* At most one of each ACTOR, as a CHANGE depends on its ACTOR's one before, if not directly. */
        final Change[] heads = new Change[REPLICAS];
        Change looked;
        int changes;
        int waiting;
        int ops;
        int top;
        int open;

        Replica(int actor) {
            this.actor = actor;
        }

        boolean holds(Change change) {
            return change.number <= has[change.actor];
        }

        void expect(Change change) {
            if (!holds(change) && !waits[change.serial]) {
                waits[change.serial] = true;
                waiting++;
            }
        }

        boolean isReadyFor(Change change) {
            if (change.number != has[change.actor] + 1) {
                return false;
            }
            for (int i = 0; i < change.deps.length; i++) {
                if (!holds(change.deps[i])) {
                    return false;
                }
            }
            return true;
        }

        void gain(Change change) {
            has[change.actor] = change.number;
            changes++;
            for (int i = 0; i < change.deps.length; i++) {
                Change dep = change.deps[i];
                if (heads[dep.actor] == dep) {
                    heads[dep.actor] = null;
                }
            }
            heads[change.actor] = change;
        }

        int headsNow() {
            int size = 0;
            for (int a = 0; a < REPLICAS; a++) {
                if (heads[a] != null) {
                    size++;
                }
            }
            return size;
        }

        Change[] copyHeads() {
            Change[] copy = new Change[headsNow()];
            int size = 0;
            for (int a = 0; a < REPLICAS; a++) {
                if (heads[a] != null) {
                    copy[size] = heads[a];
                    size++;
                }
            }
            return copy;
        }

        int changesInView() {
            if (looked == null) {
                return changes;
            }
            int sum = 0;
            for (int a = 0; a < REPLICAS; a++) {
                sum += looked.clock[a];
            }
            return sum;
        }
    }

    /* What all replicas made. CHANGES stand in the order of their making, so DEPS stand before. */
    private static final class Store {
        final Op root = new Op(0, null, MAP, 0);
        final Op[] byId = new Op[REPLICAS * (MOST_OPS + 1)];
        final Row kept = new Row(MOST_KEPT);
        final Change[] changes = new Change[MOST_CHANGES];
        int changesMade;
        int opsMade;

        Op make(Replica replica, Op object, int sort, long n) {
            replica.top++;
            replica.ops++;
            replica.open++;
            opsMade++;
            Op op = new Op(REPLICAS * replica.top + replica.actor, object, sort, n);
            op.change = replica.has[replica.actor] + 1;
            op.bytesAt = kept.length;
            byId[op.id] = op;
            return op;
        }

        /* An OP that went stays in its chains, where no VIEW sees it. */
        void forget(int id) {
            Op op = byId[id];
            if (op != null) {
                op.change = GONE;
                byId[id] = null;
            }
        }

        void keepKey(Op op, Row row, int at, int length) {
            kept.writeAll(row, at, length);
            op.keyLength = length;
        }

        void keepString(Op op, Row row, int at, int length) {
            kept.writeAll(row, at, length);
            op.stringLength = length;
        }

        /* Below 0, if the KEY there stands before the one in the row. */
        int compareKey(Spot spot, Row row, int at, int length) {
            return kept.compareWith(spot.maker.bytesAt, spot.maker.keyLength, row, at, length);
        }

        Spot spotWith(Op map, Row row, int at, int length) {
            for (Spot spot = map.spots; spot != null; spot = spot.next) {
                int order = compareKey(spot, row, at, length);
                if (order == 0) {
                    return spot;
                }
                if (order > 0) {
                    return null;
                }
            }
            return null;
        }

        /* The first OP at its KEY: the KEY gets its place among the MAP's. */
        void openKey(Op op) {
            Spot before = null;
            Spot after = op.object.spots;
            while (after != null && compareKey(after, kept, op.bytesAt, op.keyLength) < 0) {
                before = after;
                after = after.next;
            }
            openBetween(op, before, after);
        }

        /* Ones behind an ELEMENT have greater OPIDS than it: so the greater ones passed are those that go ahead, with theirs. */
        void openElement(Op op, Op behind) {
            op.inserts = true;
            op.behind = behind;
            Spot before = behind == null ? null : behind.spot;
            Spot after = before == null ? op.object.spots : before.next;
            while (after != null && after.maker.id > op.id) {
                before = after;
                after = after.next;
            }
            openBetween(op, before, after);
        }

        void openBetween(Op op, Spot before, Spot after) {
            Spot spot = new Spot(op);
            spot.next = after;
            if (before == null) {
                op.object.spots = spot;
            } else {
                before.next = spot;
            }
            spot.link(op);
        }

        /* The OPEN OPS become a CHANGE; answers its number. */
        int close(Replica replica) {
            Change change = new Change(replica, changesMade, replica.copyHeads());
            changes[changesMade] = change;
            changesMade++;
            replica.gain(change);
            replica.open = 0;
            change.clock = replica.has.clone();
            return change.number;
        }

        Change changeAt(int actor, int number) {
            for (int i = 0; i < changesMade; i++) {
                if (changes[i].actor == actor && changes[i].number == number) {
                    return changes[i];
                }
            }
            return null;
        }

        /* What WAITS and can be had is had. One pass is enough, as what a CHANGE needs stands before it. */
        int settle(Replica replica) {
            int more = 0;
            for (int i = 0; i < changesMade && replica.waiting > 0; i++) {
                Change change = changes[i];
                if (replica.waits[i] && replica.isReadyFor(change)) {
                    replica.waits[i] = false;
                    replica.waiting--;
                    replica.gain(change);
                    replica.ops += change.size;
                    replica.top = Math.max(replica.top, change.firstCounter + change.size - 1);
                    more++;
                }
            }
            return more;
        }
    }

    /* The OPS that a replica's VIEW holds, and what they show. */
    private static final class View {
        final Store store;
        final int[] clock = new int[REPLICAS];
        /* A replica has at most one CANDIDATE at a place of each ACTOR: an ACTOR's next OP has its one before in PRED. */
        final Op[] found = new Op[REPLICAS];
        int size;
        int round;

        View(Store store) {
            this.store = store;
        }

        void show(Replica replica) {
            int[] from = replica.looked == null ? replica.has : replica.looked.clock;
            System.arraycopy(from, 0, clock, 0, REPLICAS);
            if (replica.looked == null) {
                /* OPEN OPS belong to the CHANGE that comes next. */
                clock[replica.actor]++;
            }
        }

        boolean shows(Op op) {
            return op.change <= clock[op.id & REPLICAS - 1];
        }

        Op opAt(int id) {
            if (id == 0) {
                return store.root;
            }
            Op op = id < 0 || id >= store.byId.length ? null : store.byId[id];
            return op == null || !shows(op) ? null : op;
        }

        /* Leaves the CANDIDATES in found. An OP's PRED are smaller, so they are struck before the walk comes to them. */
        void gather(Spot spot) {
            size = 0;
            round++;
            for (Op op = spot.ops; op != null; op = op.below) {
                if (op.sort != ADD && shows(op)) {
                    strikePreds(op);
                    if (op.sort != DELETE && op.struck != round && size < REPLICAS) {
                        found[size] = op;
                        size++;
                    }
                }
            }
        }

        void strikePreds(Op op) {
            for (int i = 0; op.preds != null && i < op.preds.length; i++) {
                op.preds[i].struck = round;
            }
        }

        void keepCounters() {
            int counters = 0;
            for (int i = 0; i < size; i++) {
                if (found[i].sort == COUNTER) {
                    found[counters] = found[i];
                    counters++;
                }
            }
            size = counters;
        }

        /* What gather left, the least OPID first; null for none, which most OPS have. */
        Op[] rising() {
            if (size == 0) {
                return null;
            }
            Op[] preds = new Op[size];
            for (int i = 0; i < size; i++) {
                preds[i] = found[size - 1 - i];
            }
            return preds;
        }

        Op top(Spot spot) {
            gather(spot);
            return size == 0 ? null : found[0];
        }

        long numberOf(Op op) {
            long sum = op.n;
            if (op.sort == COUNTER) {
                for (Op other = op.spot.ops; other != null; other = other.below) {
                    if (other.sort == ADD && shows(other) && other.hasPred(op)) {
                        sum += other.n;
                    }
                }
            }
            return sum;
        }

        int filledIn(Op object) {
            return filledBefore(null, object);
        }

        int filledBefore(Spot end, Op object) {
            int filled = 0;
            for (Spot spot = object.spots; spot != null && spot != end; spot = spot.next) {
                if (top(spot) != null) {
                    filled++;
                }
            }
            return filled;
        }

        Spot spotAt(Op object, int i) {
            int left = i;
            for (Spot spot = object.spots; spot != null && left >= 0; spot = spot.next) {
                if (top(spot) != null) {
                    if (left == 0) {
                        return spot;
                    }
                    left--;
                }
            }
            return null;
        }
    }

    /* A VALUE of a JSON text that was read; its bytes stand in the reader's decoded row. */
    private static final class Value {
        int sort;
        long n;
        Value around;
        int keyAt;
        int keyLength;
        int bytesAt;
        int length;
        boolean filled;
        Op op;
        Op last;

        void begin(Value around, int keyAt, int keyLength) {
            this.around = around;
            this.keyAt = keyAt;
            this.keyLength = keyLength;
            n = 0;
            bytesAt = 0;
            length = 0;
            filled = false;
            op = null;
            last = null;
        }
    }

    /* Reads a JSON text into VALUES, in its order. When it's wrong, at is left where it is. */
    private static final class JsonReader {
        final Value[] values = new Value[MOST_VALUES];
        final Row decoded = new Row(MOST_GIVEN);
        Row in;
        int size;
        int at;
        int depth;
        Value inside;
        boolean valueIsDue;
        int keyAt;
        int keyLength;

        JsonReader() {
            for (int i = 0; i < MOST_VALUES; i++) {
                values[i] = new Value();
            }
        }

        boolean parse(Row text) {
            in = text;
            size = 0;
            at = 0;
            depth = 0;
            inside = null;
            keyAt = 0;
            keyLength = 0;
            decoded.clear();
            skipBlanks();
            boolean right = readValue();
            for (int steps = 0; steps <= MOST_GIVEN && right && inside != null; steps++) {
                right = readInside() && (!valueIsDue || readValue());
            }
            if (right) {
                skipBlanks();
            }
            return right && at == in.length;
        }

        void skipBlanks() {
            for (int i = 0; i < MOST_GIVEN && isBlank(in.at(at)); i++) {
                at++;
            }
        }

        static boolean isBlank(int sign) {
            return sign == 9 || sign == 10 || sign == 13 || sign == 32;
        }

        /* The end of the innermost MAP or LIST, or where the next VALUE in it begins. */
        boolean readInside() {
            skipBlanks();
            if (in.at(at) == (inside.sort == MAP ? '}' : ']')) {
                at++;
                depth--;
                inside = inside.around;
                return true;
            }
            if (inside.filled) {
                if (in.at(at) != ',') {
                    return false;
                }
                at++;
                skipBlanks();
            }
            inside.filled = true;
            valueIsDue = true;
            return inside.sort != MAP || readKey();
        }

        boolean readKey() {
            int from = decoded.length;
            if (in.at(at) != '"' || !readString(MOST_KEY) || !isNewKey(from)) {
                return false;
            }
            keyAt = from;
            keyLength = decoded.length - from;
            at++;
            skipBlanks();
            if (in.at(at) != ':') {
                return false;
            }
            at++;
            skipBlanks();
            return true;
        }

        boolean isNewKey(int from) {
            int length = decoded.length - from;
            for (int i = 0; i < size; i++) {
                Value value = values[i];
                if (value.around == inside && decoded.compareWith(value.keyAt, value.keyLength, decoded, from, length) == 0) {
                    return false;
                }
            }
            return length > 0;
        }

        boolean readValue() {
            valueIsDue = false;
            if (size == MOST_VALUES) {
                return false;
            }
            Value value = values[size];
            value.begin(inside, keyAt, keyLength);
            size++;
            switch (in.at(at)) {
                case '{':
                    return openInside(value, MAP);
                case '[':
                    return openInside(value, LIST);
                case '"':
                    return readStringValue(value);
                case 'n':
                    return readWord(value, NULL, "null");
                case 'f':
                    return readWord(value, FALSE, "false");
                case 't':
                    return readWord(value, TRUE, "true");
                default:
                    return readNumber(value);
            }
        }

        boolean openInside(Value value, int sort) {
            if (depth == MOST_DEPTH) {
                return false;
            }
            depth++;
            at++;
            value.sort = sort;
            inside = value;
            return true;
        }

        boolean readStringValue(Value value) {
            value.sort = STRING;
            value.bytesAt = decoded.length;
            if (!readString(MOST_STRING)) {
                return false;
            }
            value.length = decoded.length - value.bytesAt;
            at++;
            return true;
        }

        /* Ends at the last quote, where a wrong KEY is wrong. */
        boolean readString(int most) {
            at++;
            for (int i = 0; i < most; i++) {
                int sign = in.at(at);
                if (sign == '"') {
                    return true;
                }
                if (sign < 32 || sign > 126) {
                    return false;
                }
                at++;
                if (sign != '\\') {
                    decoded.write(sign);
                } else if (!readEscaped()) {
                    return false;
                }
            }
            return in.at(at) == '"';
        }

        boolean readEscaped() {
            int sign = in.at(at);
            boolean isHex = sign == 'x';
            if (!isHex && sign != 'n' && sign != 't' && sign != '"' && sign != '\\' && sign != '/') {
                return false;
            }
            at++;
            int b = isHex ? 0 : sign == 'n' ? 10 : sign == 't' ? 9 : sign;
            for (int i = 0; isHex && i < 2; i++) {
                int digit = hexDigit(in.at(at));
                if (digit < 0) {
                    return false;
                }
                b = 16 * b + digit;
                at++;
            }
            decoded.write(b);
            return true;
        }

        static int hexDigit(int sign) {
            if (sign >= '0' && sign <= '9') {
                return sign - '0';
            }
            if (sign >= 'a' && sign <= 'f') {
                return sign - 'a' + 10;
            }
            return sign >= 'A' && sign <= 'F' ? sign - 'A' + 10 : -1;
        }

        boolean readWord(Value value, int sort, String word) {
            value.sort = sort;
            for (int i = 0; i < word.length(); i++) {
                if (in.at(at) != word.charAt(i)) {
                    return false;
                }
                at++;
            }
            return true;
        }

        /* A digit too much is left to be wrong as what follows the number. */
        boolean readNumber(Value value) {
            value.sort = NUMBER;
            boolean below = in.at(at) == '-';
            if (below) {
                at++;
            }
            if (!isDigit(in.at(at))) {
                return false;
            }
            int most = in.at(at) == '0' ? 1 : MOST_NUMBER_DIGITS;
            long n = 0;
            for (int i = 0; i < most && isDigit(in.at(at)); i++) {
                n = 10 * n + in.at(at) - '0';
                at++;
            }
            value.n = below ? -n : n;
            return true;
        }
    }

    /* Writes an OBJECT as JSON text. OBJECTS may stand thousands deep in one another: so it goes back by places, not by recursion. */
    private static final class JsonWriter {
        final View view;
        final Row row = new Row(MOST_TEXT);

        JsonWriter(View view) {
            this.view = view;
        }

        Row writeObject(Op start) {
            row.clear();
            if (start.sort == TEXT) {
                writePlain(start);
                return row;
            }
            Op object = start;
            Spot spot = enter(start);
            boolean going = true;
            for (int steps = 0; steps <= 3 * MOST_OPS && going && !row.spilt; steps++) {
                Op value = spot == null ? null : view.top(spot);
                if (spot == null) {
                    row.write(object.sort == MAP ? '}' : ']');
                    going = object != start;
                    spot = going ? object.spot.next : null;
                    object = going ? object.object : start;
                } else if (value == null) {
                    spot = spot.next;
                } else {
                    writeBefore(value);
                    boolean enters = value.sort == MAP || value.sort == LIST;
                    if (!enters) {
                        writePlain(value);
                    }
                    object = enters ? value : object;
                    spot = enters ? enter(value) : spot.next;
                }
            }
            return row;
        }

        Spot enter(Op object) {
            row.write(object.sort == MAP ? '{' : '[');
            return object.spots;
        }

        /* Only the first VALUE in an OBJECT has its bracket directly before it. */
        void writeBefore(Op value) {
            int latest = row.at(row.length - 1);
            if (latest != '{' && latest != '[') {
                row.write(',');
            }
            if (value.object.sort == MAP) {
                row.write('"');
                writeLetters(value.bytesAt, value.keyLength);
                row.write('"');
                row.write(':');
            }
        }

        void writePlain(Op value) {
            switch (value.sort) {
                case NULL:
                    writeWord("null");
                    break;
                case FALSE:
                    writeWord("false");
                    break;
                case TRUE:
                    writeWord("true");
                    break;
                case STRING:
                    row.write('"');
                    writeLetters(value.bytesAt + value.keyLength, value.stringLength);
                    row.write('"');
                    break;
                case TEXT:
                    row.write('"');
                    writeElements(value);
                    row.write('"');
                    break;
                default:
                    writeLong(view.numberOf(value));
                    break;
            }
        }

        void writeWord(String word) {
            for (int i = 0; i < word.length(); i++) {
                row.write(word.charAt(i));
            }
        }

        void writeElements(Op text) {
            for (Spot spot = text.spots; spot != null; spot = spot.next) {
                Op value = view.top(spot);
                if (value != null && value.sort == STRING) {
                    writeLetters(value.bytesAt, value.stringLength);
                }
            }
        }

        void writeLetters(int at, int length) {
            for (int i = 0; i < length; i++) {
                writeLetter(view.store.kept.at(at + i));
            }
        }

        void writeLetter(int b) {
            boolean isOwn = b == '"' || b == '\\' || b == 10;
            boolean isHex = !isOwn && (b < 32 || b > 126);
            if (isOwn || isHex) {
                row.write('\\');
            }
            if (isHex) {
                row.write('x');
                row.write(hexSign(b >> 4));
                row.write(hexSign(b & 15));
            } else {
                row.write(b == 10 ? 'n' : b);
            }
        }

        static int hexSign(int digit) {
            return digit < 10 ? '0' + digit : 'a' + digit - 10;
        }

        /* Below 0 there is one number more than above: so the digits are taken from there. */
        void writeLong(long n) {
            if (n < 0) {
                row.write('-');
            }
            long rest = n < 0 ? n : -n;
            long unit = 1;
            for (int i = 0; i < 18 && rest / unit <= -10; i++) {
                unit *= 10;
            }
            for (int i = 0; i < 19 && unit > 0; i++) {
                row.write('0' - (int) (rest / unit % 10));
                unit /= 10;
            }
        }
    }

    /* Writes SAVED into OUT, or compares OUT with what it would write. */
    private static final class Saver {
        private static final int[] CRC_OF_FOUR_BITS = {
            0x00000000, 0x1DB71064, 0x3B6E20C8, 0x26D930AC, 0x76DC4190, 0x6B6B51F4, 0x4DB26158, 0x5005713C,
            0xEDB88320, 0xF00F9344, 0xD6D6A3E8, 0xCB61B38C, 0x9B64C2B0, 0x86D3D2D4, 0xA00AE278, 0xBDBDF21C,
        };

        final Store store;
        final Row out;
        final int[] taken = new int[REPLICAS];
        boolean compares;
        boolean differs;
        int at;

        Saver(Store store, Row out) {
            this.store = store;
            this.out = out;
        }

        void writeSaved(Replica replica) {
            compares = false;
            out.clear();
            emitNumber(replica.changes);
            for (int a = 0; a < REPLICAS; a++) {
                for (int i = 0; i < store.changesMade; i++) {
                    Change change = store.changes[i];
                    if (change.actor == a && replica.holds(change)) {
                        emitChange(change);
                    }
                }
            }
            out.writeInt(crcOf(out.length));
        }

        /* Whether OUT is SAVED of some first CHANGES of each ACTOR; taken says how many of which. */
        boolean isRight() {
            compares = true;
            differs = false;
            at = 0;
            int left = changesTold();
            emitNumber(left);
            for (int a = 0; a < REPLICAS; a++) {
                taken[a] = 0;
                for (int i = 0; i < store.changesMade && !differs && left > 0; i++) {
                    Change change = store.changes[i];
                    if (change.actor == a && out.at(at) == a) {
                        emitChange(change);
                        taken[a]++;
                        left--;
                    }
                }
            }
            int crc = crcOf(at);
            for (int shift = 24; shift >= 0; shift -= 8) {
                emit(crc >>> shift & 255);
            }
            return !differs && left == 0 && at == out.length;
        }

        /* Two bytes tell any number of CHANGES that there can be. */
        int changesTold() {
            int low = out.at(0);
            if (low < 128) {
                return Math.max(0, low);
            }
            return low & 127 | Math.max(0, out.at(1)) << 7;
        }

        void emit(int b) {
            if (!compares) {
                out.write(b);
                return;
            }
            if (out.at(at) != b) {
                differs = true;
            }
            at++;
        }

        void emitNumber(long n) {
            long rest = n;
            for (int i = 0; i < 9 && rest >>> 7 != 0; i++) {
                emit((int) (rest & 127) | 128);
                rest >>>= 7;
            }
            emit((int) rest);
        }

        void emitBytes(int from, int length) {
            for (int i = 0; i < length; i++) {
                emit(store.kept.at(from + i));
            }
        }

        void emitChange(Change change) {
            emitNumber(change.actor);
            emitNumber(change.number);
            emitNumber(change.deps.length);
            for (int i = 0; i < change.deps.length; i++) {
                emitNumber(change.deps[i].actor);
                emitNumber(change.deps[i].number);
            }
            emitNumber(change.firstCounter);
            emitNumber(change.size);
            for (int i = 0; i < change.size; i++) {
                Op op = store.byId[REPLICAS * (change.firstCounter + i) + change.actor];
                if (op != null) {
                    emitOp(op);
                }
            }
        }

        void emitOp(Op op) {
            emitNumber(op.object.id);
            emitNumber(op.sort + (op.inserts ? INSERT_MARK : 0));
            if (op.object.sort == MAP) {
                emitNumber(op.keyLength);
                emitBytes(op.bytesAt, op.keyLength);
            } else if (op.inserts) {
                emitNumber(op.behind == null ? 0 : op.behind.id);
            } else {
                emitNumber(op.spot.maker.id);
            }
            if (op.hasLong()) {
                emitNumber(op.n << 1 ^ op.n >> 63);
            } else if (op.sort == STRING) {
                emitNumber(op.stringLength);
                emitBytes(op.bytesAt + op.keyLength, op.stringLength);
            }
            int preds = op.preds == null ? 0 : op.preds.length;
            emitNumber(preds);
            for (int i = 0; i < preds; i++) {
                emitNumber(op.preds[i].id);
            }
        }

        int crcOf(int length) {
            int crc = -1;
            for (int i = 0; i < length; i++) {
                crc ^= Math.max(0, out.at(i));
                crc = crc >>> 4 ^ CRC_OF_FOUR_BITS[crc & 15];
                crc = crc >>> 4 ^ CRC_OF_FOUR_BITS[crc & 15];
            }
            return ~crc;
        }
    }
}

import java.io.ByteArrayOutputStream;
import java.nio.charset.StandardCharsets;
import java.util.ArrayList;
import java.util.Arrays;
import java.util.HashMap;
import java.util.HashSet;
import java.util.List;
import java.util.Map;
import java.util.NoSuchElementException;
import java.util.Random;
import java.util.Set;
import java.util.TreeMap;
import java.util.TreeSet;
import java.util.zip.CRC32;

/**
 * Runs random calls on JoinedTrees and on a second program, which is written from the document's words with sets of
 * OPS and CHANGES and without regard to speed, and compares every answer.
 */
public final class ModelTest {
    private static final int RUNS = 120;
    private static final int CALLS = 512;

    /** Arguments, all left out as a rule: how many runs, from which seed on, and anything to tell how often each call answered what. */
    public static void main(String[] args) throws InterruptedException {
        int runs = args.length > 0 ? Integer.parseInt(args[0]) : RUNS;
        int from = args.length > 1 ? Integer.parseInt(args[1]) : 0;
        int[] wrong = {1};
        // the model goes through ELEMENTS by recursion, one level for each that stands behind another
        Thread thread = new Thread(null, () -> wrong[0] = wrongRuns(from, runs), "model", 256L << 20);
        thread.start();
        thread.join();
        System.out.println(wrong[0] == 0 ? "the model answers the same in " + runs + " runs" : "the model answers otherwise");
        if (args.length > 2) {
            System.out.println(Driver.SEEN);
        }
        System.exit(wrong[0] == 0 ? 0 : 1);
    }

    private static int wrongRuns(int from, int runs) {
        int wrong = 0;
        for (int seed = from; seed < from + runs && wrong < 5; seed++) {
            if (!new Driver(seed).run(CALLS)) {
                wrong++;
            }
        }
        return wrong;
    }

    // ------------------------------------------------------------------ the model

    static final class MOp {
        int id;
        int object;
        byte[] key;
        int place;
        boolean insert;
        int sort;
        long n;
        byte[] string;
        TreeSet<Integer> pred = new TreeSet<>();

        boolean isValue() {
            return sort <= 8;
        }
    }

    static final class MChange {
        int actor;
        int number;
        List<MChange> deps = new ArrayList<>();
        List<MOp> ops = new ArrayList<>();

        /** It and all it depends on. */
        void closure(Set<MChange> into) {
            if (into.add(this)) {
                for (MChange dep : deps) {
                    dep.closure(into);
                }
            }
        }
    }

    static final class MReplica {
        Set<MChange> has = new HashSet<>();
        Set<MChange> waits = new HashSet<>();
        List<MOp> open = new ArrayList<>();
        MChange looked;
    }

    static final class Wrong extends RuntimeException {
        private static final long serialVersionUID = 1;
        final int where;

        Wrong(int where) {
            this.where = where;
        }
    }

    /** The OPS that a replica shows, sorted by OBJECTS. */
    static final class MView {
        final List<MOp> ops = new ArrayList<>();
        final Map<Integer, MOp> byId = new HashMap<>();
        final Map<Integer, List<MOp>> byObject = new HashMap<>();
        final Set<Integer> struck = new HashSet<>();

        void take(List<MOp> more) {
            for (MOp op : more) {
                ops.add(op);
                byId.put(op.id, op);
                byObject.computeIfAbsent(op.object, o -> new ArrayList<>()).add(op);
                if (op.sort != 10) {
                    struck.addAll(op.pred);
                }
            }
        }

        List<MOp> in(int object) {
            return byObject.getOrDefault(object, new ArrayList<>());
        }
    }

    static final class Model {
        byte[] input = new byte[0];
        List<byte[]> arguments = new ArrayList<>();
        MReplica[] replicas = new MReplica[8];
        List<MChange> all = new ArrayList<>();
        int opsMade;
        int bytesMade;
        int where = -1;
        byte[] out = new byte[0];
        boolean saved;

        Model() {
            for (int r = 0; r < 8; r++) {
                replicas[r] = new MReplica();
            }
        }

        static void bad(boolean when) {
            if (when) {
                throw new IllegalArgumentException();
            }
        }

        static void missing(boolean when) {
            if (when) {
                throw new NoSuchElementException();
            }
        }

        static void refused(boolean when) {
            if (when) {
                throw new IllegalStateException();
            }
        }

        void full(int ops, int bytes) {
            if (opsMade + ops > 4000 || bytesMade + bytes > 24576) {
                throw new IndexOutOfBoundsException();
            }
        }

        List<byte[]> take() {
            List<byte[]> taken = arguments;
            arguments = new ArrayList<>();
            return taken;
        }

        MReplica replica(int r) {
            bad(r < 0 || r > 7);
            return replicas[r];
        }

        int feed(int[] five) {
            int held = input.length + 20;
            for (byte[] argument : arguments) {
                held += argument.length;
            }
            if (held > 8192) {
                throw new IndexOutOfBoundsException();
            }
            int at = input.length;
            input = Arrays.copyOf(input, at + 20);
            for (int i = 0; i < 20; i++) {
                input[at + i] = (byte) (five[i / 4] >> 24 - 8 * (i % 4));
            }
            return input.length;
        }

        int end(int n) {
            bad(n < 0 || n > 19 || n > input.length);
            arguments.add(Arrays.copyOf(input, input.length - n));
            if (arguments.size() > 2) {
                arguments.remove(0);
            }
            input = new byte[0];
            return arguments.size();
        }

        /** All OPS in the VIEW. */
        MView view(MReplica replica) {
            MView view = new MView();
            Set<MChange> changes = replica.has;
            if (replica.looked != null) {
                changes = new HashSet<>();
                replica.looked.closure(changes);
            } else {
                view.take(replica.open);
            }
            for (MChange change : changes) {
                view.take(change.ops);
            }
            return view;
        }

        /** 6, 7, 8, or missing. */
        static int kind(MView view, int object) {
            if (object == 0) {
                return 6;
            }
            MOp op = view.byId.get(object);
            missing(op == null || op.sort < 6 || op.sort > 8);
            return op.sort;
        }

        static List<MOp> visible(MView view, List<MOp> at) {
            List<MOp> candidates = new ArrayList<>();
            for (MOp op : at) {
                if (op.isValue() && !view.struck.contains(op.id)) {
                    candidates.add(op);
                }
            }
            candidates.sort((x, y) -> y.id - x.id);
            return candidates;
        }

        static List<MOp> atKey(MView view, int object, byte[] key) {
            List<MOp> at = new ArrayList<>();
            for (MOp op : view.in(object)) {
                if (op.key != null && Arrays.equals(op.key, key)) {
                    at.add(op);
                }
            }
            return visible(view, at);
        }

        static List<MOp> atElement(MView view, int object, int element) {
            List<MOp> at = new ArrayList<>();
            for (MOp op : view.in(object)) {
                if (op.key == null && (op.insert ? op.id == element : op.place == element)) {
                    at.add(op);
                }
            }
            return visible(view, at);
        }

        static void order(Map<Integer, TreeSet<Integer>> behind, int element, List<Integer> into) {
            for (int next : behind.getOrDefault(element, new TreeSet<>()).descendingSet()) {
                into.add(next);
                order(behind, next, into);
            }
        }

        static List<Integer> elements(MView view, int object) {
            Map<Integer, TreeSet<Integer>> behind = new HashMap<>();
            for (MOp op : view.in(object)) {
                if (op.insert) {
                    behind.computeIfAbsent(op.place, o -> new TreeSet<>()).add(op.id);
                }
            }
            List<Integer> order = new ArrayList<>();
            order(behind, 0, order);
            return order;
        }

        static List<Integer> indices(MView view, int object) {
            Set<Integer> filled = new HashSet<>();
            for (MOp op : visible(view, view.in(object))) {
                filled.add(op.insert ? op.id : op.place);
            }
            List<Integer> indices = new ArrayList<>(elements(view, object));
            indices.removeIf(element -> !filled.contains(element));
            return indices;
        }

        static List<byte[]> keys(MView view, int object) {
            TreeMap<String, byte[]> keys = new TreeMap<>();
            for (MOp op : visible(view, view.in(object))) {
                keys.put(new String(op.key, StandardCharsets.ISO_8859_1), op.key);
            }
            return new ArrayList<>(keys.values());
        }

        MOp make(int r, int object, byte[] key, int place, int sort, long n) {
            MReplica replica = replicas[r];
            int top = greatest(replica);
            MOp op = new MOp();
            op.id = 8 * (top + 1) + r;
            op.object = object;
            op.key = key;
            op.place = place;
            op.sort = sort;
            op.n = sort == 3 || sort == 5 || sort == 10 ? n : 0;
            replica.open.add(op);
            opsMade++;
            bytesMade += key == null ? 0 : key.length;
            return op;
        }

        void string(MOp op, byte[] string) {
            op.string = string;
            bytesMade += string.length;
        }

        int greatest(MReplica replica) {
            int top = 0;
            for (MChange change : replica.has) {
                for (MOp op : change.ops) {
                    top = Math.max(top, op.id / 8);
                }
            }
            for (MOp op : replica.open) {
                top = Math.max(top, op.id / 8);
            }
            return top;
        }

        static void preds(MOp op, List<MOp> candidates) {
            for (MOp candidate : candidates) {
                if (op.sort != 10 || candidate.sort == 5) {
                    op.pred.add(candidate.id);
                }
            }
        }

        static void needValue(int sort, List<byte[]> given, int others) {
            bad(sort < 0 || sort > 8);
            bad(given.size() != others + (sort == 4 ? 1 : 0));
            bad(sort == 4 && given.get(others).length > 1024);
        }

        static void needKey(byte[] key) {
            bad(key.length < 1 || key.length > 64);
        }

        int set(int r, int object, int sort, long n) {
            List<byte[]> given = take();
            MReplica replica = replica(r);
            needValue(sort, given, 1);
            byte[] key = given.get(0);
            needKey(key);
            MView view = view(replica);
            bad(kind(view, object) != 6);
            refused(replica.looked != null);
            full(1, key.length + (sort == 4 ? given.get(1).length : 0));
            return setNow(r, object, key, sort, n, sort == 4 ? given.get(1) : null).id;
        }

        MOp setNow(int r, int object, byte[] key, int sort, long n, byte[] string) {
            List<MOp> candidates = atKey(view(replicas[r]), object, key);
            MOp op = make(r, object, key, 0, sort, n);
            preds(op, candidates);
            if (string != null) {
                string(op, string);
            }
            return op;
        }

        MOp insertNow(int r, int object, int behind, int sort, long n, byte[] string) {
            MOp op = make(r, object, null, behind, sort, n);
            op.insert = true;
            if (string != null) {
                string(op, string);
            }
            return op;
        }

        int put(int r, int object, int i, int sort, long n) {
            List<byte[]> given = take();
            MReplica replica = replica(r);
            needValue(sort, given, 0);
            MView view = view(replica);
            bad(kind(view, object) == 6);
            List<Integer> indices = indices(view, object);
            missing(i < 0 || i >= indices.size());
            refused(replica.looked != null);
            full(1, sort == 4 ? given.get(0).length : 0);
            List<MOp> candidates = atElement(view, object, indices.get(i));
            MOp op = make(r, object, null, indices.get(i), sort, n);
            preds(op, candidates);
            if (sort == 4) {
                string(op, given.get(0));
            }
            return op.id;
        }

        int insert(int r, int object, int i, int sort, long n) {
            List<byte[]> given = take();
            MReplica replica = replica(r);
            needValue(sort, given, 0);
            MView view = view(replica);
            bad(kind(view, object) == 6);
            List<Integer> indices = indices(view, object);
            missing(i < 0 || i > indices.size());
            refused(replica.looked != null);
            full(1, sort == 4 ? given.get(0).length : 0);
            return insertNow(r, object, i == 0 ? 0 : indices.get(i - 1), sort, n, sort == 4 ? given.get(0) : null).id;
        }

        int splice(int r, int object, int i, int n) {
            List<byte[]> given = take();
            MReplica replica = replica(r);
            bad(given.size() != 1 || given.get(0).length > 1024 || n < 0);
            MView view = view(replica);
            bad(kind(view, object) != 8);
            List<Integer> indices = indices(view, object);
            missing(i < 0 || i > indices.size() || n > indices.size() - i);
            refused(replica.looked != null);
            byte[] string = given.get(0);
            full(n + string.length, string.length);
            for (int k = 0; k < n; k++) {
                List<MOp> candidates = atElement(view, object, indices.get(i + k));
                preds(make(r, object, null, indices.get(i + k), 9, 0), candidates);
            }
            int behind = i == 0 ? 0 : indices.get(i - 1);
            for (byte b : string) {
                behind = insertNow(r, object, behind, 4, 0, new byte[] {b}).id;
            }
            return indices(view(replica), object).size();
        }

        /** The key or the element, and the candidates there. */
        final class Place {
            byte[] key;
            int element;
            List<MOp> candidates;

            Place(MReplica replica, int object, int i, List<byte[]> given) {
                bad(given.size() != (i == -1 ? 1 : 0));
                if (i == -1) {
                    needKey(given.get(0));
                }
                MView view = view(replica);
                int kind = kind(view, object);
                bad(kind == 6 != (i == -1));
                if (i == -1) {
                    key = given.get(0);
                    candidates = atKey(view, object, key);
                } else {
                    List<Integer> indices = indices(view, object);
                    missing(i < 0 || i >= indices.size());
                    element = indices.get(i);
                    candidates = atElement(view, object, element);
                }
                missing(candidates.isEmpty());
            }
        }

        int erase(int r, int object, int i) {
            List<byte[]> given = take();
            MReplica replica = replica(r);
            Place place = new Place(replica, object, i, given);
            refused(replica.looked != null);
            full(1, place.key == null ? 0 : place.key.length);
            MOp op = make(r, object, place.key, place.element, 9, 0);
            preds(op, place.candidates);
            return op.id;
        }

        int add(int r, int object, int i, long n) {
            List<byte[]> given = take();
            MReplica replica = replica(r);
            Place place = new Place(replica, object, i, given);
            boolean any = false;
            for (MOp op : place.candidates) {
                any |= op.sort == 5;
            }
            missing(!any);
            refused(replica.looked != null);
            full(1, place.key == null ? 0 : place.key.length);
            MOp op = make(r, object, place.key, place.element, 10, n);
            preds(op, place.candidates);
            return op.id;
        }

        int read(int r, int object) {
            List<byte[]> given = take();
            MReplica replica = replica(r);
            bad(given.size() != 2);
            needKey(given.get(0));
            Json json = new Json(given.get(1));
            try {
                json.whole();
            } catch (Wrong e) {
                where = e.where;
                throw new IllegalArgumentException();
            }
            bad(kind(view(replica), object) != 6);
            refused(replica.looked != null);
            int bytes = given.get(0).length;
            for (Node node : json.nodes) {
                bytes += (node.key == null ? 0 : node.key.length) + (node.string == null ? 0 : node.string.length);
            }
            full(json.nodes.size(), bytes);
            for (Node node : json.nodes) {
                if (node.parent == null) {
                    node.id = setNow(r, object, given.get(0), node.sort, node.n, node.string).id;
                } else if (node.parent.sort == 6) {
                    node.id = setNow(r, node.parent.id, node.key, node.sort, node.n, node.string).id;
                } else {
                    List<Integer> indices = indices(view(replica), node.parent.id);
                    int behind = indices.isEmpty() ? 0 : indices.get(indices.size() - 1);
                    node.id = insertNow(r, node.parent.id, behind, node.sort, node.n, node.string).id;
                }
            }
            return json.nodes.get(0).id;
        }

        List<MChange> heads(MReplica replica) {
            Set<MChange> deps = new HashSet<>();
            for (MChange change : replica.has) {
                deps.addAll(change.deps);
            }
            List<MChange> heads = new ArrayList<>(replica.has);
            heads.removeIf(deps::contains);
            heads.sort((x, y) -> x.actor != y.actor ? x.actor - y.actor : x.number - y.number);
            return heads;
        }

        int of(MReplica replica, int actor) {
            int size = 0;
            for (MChange change : replica.has) {
                size += change.actor == actor ? 1 : 0;
            }
            return size;
        }

        int commit(int r) {
            MReplica replica = replica(r);
            refused(replica.open.isEmpty());
            if (all.size() == 1000) {
                throw new IndexOutOfBoundsException();
            }
            MChange change = new MChange();
            change.actor = r;
            change.number = of(replica, r) + 1;
            change.deps = heads(replica);
            change.ops = replica.open;
            replica.open = new ArrayList<>();
            replica.has.add(change);
            all.add(change);
            return change.number;
        }

        int drop(int r) {
            MReplica replica = replica(r);
            int gone = replica.open.size();
            replica.open.clear();
            return gone;
        }

        MChange change(int actor, int number) {
            for (MChange change : all) {
                if (change.actor == actor && change.number == number) {
                    return change;
                }
            }
            return null;
        }

        int settle(MReplica replica) {
            int before = replica.has.size();
            boolean more = true;
            while (more) {
                more = false;
                for (MChange change : new ArrayList<>(replica.waits)) {
                    boolean ready = replica.has.containsAll(change.deps)
                            && (change.number == 1 || replica.has.contains(change(change.actor, change.number - 1)));
                    if (ready) {
                        replica.waits.remove(change);
                        replica.has.add(change);
                        more = true;
                    }
                }
            }
            return replica.has.size() - before;
        }

        int send(int from, int to, int actor, int number) {
            MReplica giver = replica(from);
            MReplica taker = replica(to);
            bad(actor < 0 || actor > 7);
            MChange change = change(actor, number);
            missing(change == null || !giver.has.contains(change));
            refused(!taker.open.isEmpty());
            if (!taker.has.contains(change)) {
                taker.waits.add(change);
            }
            return settle(taker);
        }

        int join(int from, int to) {
            MReplica giver = replica(from);
            MReplica taker = replica(to);
            refused(!taker.open.isEmpty());
            taker.waits.addAll(giver.has);
            taker.waits.addAll(giver.waits);
            taker.waits.removeAll(taker.has);
            return settle(taker);
        }

        int look(int r, int actor, int number) {
            MReplica replica = replica(r);
            bad(actor < -1 || actor > 7);
            if (actor == -1) {
                replica.looked = null;
            } else {
                MChange change = change(actor, number);
                missing(change == null || !replica.has.contains(change));
                replica.looked = change;
            }
            return inView(replica);
        }

        int inView(MReplica replica) {
            if (replica.looked == null) {
                return replica.has.size();
            }
            Set<MChange> in = new HashSet<>();
            replica.looked.closure(in);
            return in.size();
        }

        int object(int r, int object, int what) {
            MReplica replica = replica(r);
            bad(what != 0 && what != 1);
            MView view = view(replica);
            int kind = kind(view, object);
            return what == 0 ? kind : kind == 6 ? keys(view, object).size() : indices(view, object).size();
        }

        int key(int r, int object, int i, int k) {
            MView view = view(replica(r));
            bad(kind(view, object) != 6);
            List<byte[]> keys = keys(view, object);
            missing(i < 0 || i >= keys.size() || k < -1 || k >= keys.get(i).length);
            return k == -1 ? keys.get(i).length : keys.get(i)[k] & 255;
        }

        static long number(MView view, MOp op) {
            long sum = op.n;
            for (MOp other : view.in(op.object)) {
                if (other.sort == 10 && other.pred.contains(op.id)) {
                    sum += other.n;
                }
            }
            return sum;
        }

        long candidate(int r, int object, int i, int c, int what) {
            List<byte[]> given = take();
            MReplica replica = replica(r);
            bad(what < 0 || what > 4);
            Place place = new Place(replica, object, i, given);
            missing(c < 0 || c >= place.candidates.size());
            MOp op = place.candidates.get(c);
            switch (what) {
                case 0: return op.sort;
                case 1: return op.id;
                case 2: return op.sort == 5 ? number(view(replica), op) : op.sort == 3 ? op.n : 0;
                case 3: return op.string == null ? 0 : op.string.length;
                default: return place.candidates.size();
            }
        }

        int letter(int r, int opid, int k) {
            MOp op = view(replica(r)).byId.get(opid);
            missing(op == null || op.string == null || k < 0 || k >= op.string.length);
            return op.string[k] & 255;
        }

        int element(int r, int object, int i) {
            MView view = view(replica(r));
            bad(kind(view, object) == 6);
            List<Integer> indices = indices(view, object);
            missing(i < 0 || i >= indices.size());
            return indices.get(i);
        }

        int index(int r, int object, int element) {
            MView view = view(replica(r));
            bad(kind(view, object) == 6);
            int before = 0;
            for (int other : elements(view, object)) {
                if (other == element) {
                    return before;
                }
                before += atElement(view, object, other).isEmpty() ? 0 : 1;
            }
            throw new NoSuchElementException();
        }

        int find(int r) {
            List<byte[]> given = take();
            MReplica replica = replica(r);
            bad(given.size() != 1);
            String path = new String(given.get(0), StandardCharsets.ISO_8859_1);
            bad(!path.matches("[A-Za-z0-9_]{1,64}(\\.[A-Za-z0-9_]{1,64}|\\[[0-9]{1,6}\\])*"));
            MView view = view(replica);
            int id = 0;
            for (String step : path.replace("[", ".[").split("\\.")) {
                int kind = kind(view, id);
                List<MOp> candidates;
                if (step.startsWith("[")) {
                    missing(kind == 6);
                    int i = Integer.parseInt(step.substring(1, step.length() - 1));
                    List<Integer> indices = indices(view, id);
                    missing(i >= indices.size());
                    candidates = atElement(view, id, indices.get(i));
                } else {
                    missing(kind != 6);
                    candidates = atKey(view, id, step.getBytes(StandardCharsets.ISO_8859_1));
                }
                missing(candidates.isEmpty());
                id = candidates.get(0).id;
            }
            return id;
        }

        static void quoted(byte[] bytes, StringBuilder into) {
            for (byte b : bytes) {
                int c = b & 255;
                if (c == '"') {
                    into.append("\\\"");
                } else if (c == '\\') {
                    into.append("\\\\");
                } else if (c == 10) {
                    into.append("\\n");
                } else if (c < 32 || c > 126) {
                    into.append(String.format("\\x%02x", c));
                } else {
                    into.append((char) c);
                }
            }
        }

        void json(MView view, MOp op, StringBuilder into) {
            switch (op.sort) {
                case 0: into.append("null"); break;
                case 1: into.append("false"); break;
                case 2: into.append("true"); break;
                case 3: into.append(op.n); break;
                case 4: into.append('"'); quoted(op.string, into); into.append('"'); break;
                case 5: into.append(number(view, op)); break;
                default: jsonObject(view, op.id, op.sort, into);
            }
        }

        void jsonObject(MView view, int object, int kind, StringBuilder into) {
            String comma = "";
            into.append(kind == 6 ? "{" : kind == 7 ? "[" : "\"");
            if (kind == 6) {
                for (byte[] key : keys(view, object)) {
                    into.append(comma).append('"');
                    quoted(key, into);
                    into.append("\":");
                    json(view, atKey(view, object, key).get(0), into);
                    comma = ",";
                }
            } else {
                for (int element : indices(view, object)) {
                    MOp value = atElement(view, object, element).get(0);
                    if (kind == 7) {
                        into.append(comma);
                        json(view, value, into);
                        comma = ",";
                    } else if (value.sort == 4) {
                        quoted(value.string, into);
                    }
                }
            }
            into.append(kind == 6 ? "}" : kind == 7 ? "]" : "\"");
        }

        int text(int r, int object) {
            MView view = view(replica(r));
            StringBuilder json = new StringBuilder();
            jsonObject(view, object, kind(view, object), json);
            refused(json.length() > 16384);
            out = json.toString().getBytes(StandardCharsets.ISO_8859_1);
            saved = false;
            return out.length;
        }

        static void number(ByteArrayOutputStream into, java.math.BigInteger n) {
            java.math.BigInteger rest = n;
            while (rest.bitLength() > 7) {
                into.write(rest.intValue() & 127 | 128);
                rest = rest.shiftRight(7);
            }
            into.write(rest.intValue());
        }

        static void number(ByteArrayOutputStream into, int n) {
            number(into, java.math.BigInteger.valueOf(n));
        }

        static void signed(ByteArrayOutputStream into, long v) {
            java.math.BigInteger twice = java.math.BigInteger.valueOf(v).shiftLeft(1);
            number(into, v < 0 ? twice.negate().subtract(java.math.BigInteger.ONE) : twice);
        }

        byte[] savedOf(List<MChange> changes) {
            changes.sort((x, y) -> x.actor != y.actor ? x.actor - y.actor : x.number - y.number);
            ByteArrayOutputStream into = new ByteArrayOutputStream();
            number(into, changes.size());
            for (MChange change : changes) {
                number(into, change.actor);
                number(into, change.number);
                number(into, change.deps.size());
                for (MChange dep : change.deps) {
                    number(into, dep.actor);
                    number(into, dep.number);
                }
                number(into, change.ops.get(0).id / 8);
                number(into, change.ops.size());
                for (MOp op : change.ops) {
                    number(into, op.object);
                    number(into, op.sort + (op.insert ? 16 : 0));
                    if (op.key != null) {
                        number(into, op.key.length);
                        into.writeBytes(op.key);
                    } else {
                        number(into, op.place);
                    }
                    if (op.sort == 3 || op.sort == 5 || op.sort == 10) {
                        signed(into, op.n);
                    }
                    if (op.sort == 4) {
                        number(into, op.string.length);
                        into.writeBytes(op.string);
                    }
                    number(into, op.pred.size());
                    for (int pred : op.pred) {
                        number(into, pred);
                    }
                }
            }
            CRC32 crc = new CRC32();
            crc.update(into.toByteArray());
            for (int shift = 24; shift >= 0; shift -= 8) {
                into.write((int) (crc.getValue() >> shift));
            }
            return into.toByteArray();
        }

        int save(int r) {
            MReplica replica = replica(r);
            refused(!replica.open.isEmpty());
            out = savedOf(new ArrayList<>(replica.has));
            saved = true;
            return out.length;
        }

        /** The first CHANGES of each ACTOR whose SAVED it is; null if it's damaged. They are guessed one by one: OUT begins like SAVED of them. */
        List<MChange> whose() {
            List<MChange> guess = new ArrayList<>();
            for (int limit = 0; limit <= all.size(); limit++) {
                byte[] made = savedOf(new ArrayList<>(guess));
                if (Arrays.equals(made, out)) {
                    return guess;
                }
                MChange next = null;
                for (MChange change : all) {
                    if (!guess.contains(change) && (change.number == 1 || guess.contains(change(change.actor, change.number - 1)))) {
                        List<MChange> longer = new ArrayList<>(guess);
                        longer.add(change);
                        boolean last = true;
                        for (MChange other : guess) {
                            last &= other.actor <= change.actor;
                        }
                        if (last && begins(savedOf(longer))) {
                            next = change;
                        }
                    }
                }
                if (next == null) {
                    return null;
                }
                guess.add(next);
            }
            return null;
        }

        boolean begins(byte[] made) {
            int from = made[0] < 0 ? 2 : 1;
            int outFrom = out.length > 0 && out[0] < 0 ? 2 : 1;
            int size = made.length - 4 - from;
            return out.length >= outFrom + size
                    && Arrays.equals(Arrays.copyOfRange(made, from, from + size), Arrays.copyOfRange(out, outFrom, outFrom + size));
        }

        int load(int r) {
            MReplica replica = replica(r);
            refused(!replica.open.isEmpty() || !saved);
            List<MChange> changes = whose();
            if (changes == null) {
                throw new ArithmeticException();
            }
            replica.waits.addAll(changes);
            replica.waits.removeAll(replica.has);
            return settle(replica);
        }

        int harm(int i, int bit) {
            bad(bit < 0 || bit > 7);
            missing(i < 0 || i >= out.length);
            out[i] ^= (byte) (1 << bit);
            return 0;
        }

        long out(int i) {
            bad(i < 0 || i > 8191);
            long eight = 0;
            for (int k = 8 * i; k < 8 * i + 8; k++) {
                eight = eight * 256 + (k < out.length ? out[k] & 255 : 0);
            }
            return eight;
        }

        int count(int r, int what) {
            MReplica replica = replica(r);
            int ops = replica.open.size();
            for (MChange change : replica.has) {
                ops += change.ops.size();
            }
            switch (what) {
                case 0: return replica.has.size();
                case 1: return replica.waits.size();
                case 2: return heads(replica).size();
                case 3: return replica.open.size();
                case 4: return ops;
                case 5: return greatest(replica);
                case 6: return inView(replica);
                default: return what >= 10 && what <= 17 ? of(replica, what - 10) : -1;
            }
        }

        int told(int what) {
            switch (what) {
                case 0: return input.length;
                case 1: return arguments.size();
                case 2: return opsMade;
                case 3: return all.size();
                case 4: return bytesMade;
                case 5: return where;
                case 6: return out.length;
                case 7: return saved ? 1 : 0;
                default: return -1;
            }
        }
    }

    static final class Node {
        Node parent;
        byte[] key;
        int sort;
        long n;
        byte[] string;
        int id;
    }

    /** A JSON text, read by recursion. */
    static final class Json {
        final byte[] in;
        final List<Node> nodes = new ArrayList<>();
        int at;

        Json(byte[] in) {
            this.in = in;
        }

        int sign() {
            return at < in.length ? in[at] & 255 : -1;
        }

        void wrong(boolean when) {
            if (when) {
                throw new Wrong(at);
            }
        }

        void expect(char sign) {
            wrong(sign() != sign);
            at++;
        }

        void blanks() {
            while (sign() == 9 || sign() == 10 || sign() == 13 || sign() == 32) {
                at++;
            }
        }

        void whole() {
            blanks();
            value(null, null, 0);
            blanks();
            wrong(at < in.length);
        }

        void value(Node parent, byte[] key, int depth) {
            wrong(nodes.size() == 500);
            int sign = sign();
            wrong(sign == -1 || "{[\"-0123456789nft".indexOf(sign) < 0);
            wrong((sign == '{' || sign == '[') && depth == 20);
            Node node = new Node();
            node.parent = parent;
            node.key = key;
            nodes.add(node);
            if (sign == '{') {
                node.sort = 6;
                map(node, depth + 1);
            } else if (sign == '[') {
                node.sort = 7;
                list(node, depth + 1);
            } else if (sign == '"') {
                node.sort = 4;
                node.string = string(1024);
                at++;
            } else if (sign == '-' || sign >= '0' && sign <= '9') {
                node.sort = 3;
                node.n = number();
            } else {
                node.sort = sign == 'n' ? 0 : sign == 'f' ? 1 : 2;
                for (char c : new String[] {"null", "false", "true"}[node.sort].toCharArray()) {
                    expect(c);
                }
            }
        }

        long number() {
            StringBuilder digits = new StringBuilder();
            if (sign() == '-') {
                digits.append('-');
                at++;
            }
            int from = at;
            wrong(sign() < '0' || sign() > '9');
            while (sign() >= '0' && sign() <= '9') {
                wrong(at - from == 18 || at - from == 1 && in[from] == '0');
                digits.append((char) sign());
                at++;
            }
            return Long.parseLong(digits.toString());
        }

        byte[] string(int most) {
            ByteArrayOutputStream bytes = new ByteArrayOutputStream();
            expect('"');
            while (sign() != '"') {
                wrong(bytes.size() == most || sign() < 32 || sign() > 126);
                int sign = sign();
                at++;
                if (sign == '\\') {
                    wrong("nt\"\\/x".indexOf(sign()) < 0);
                    int kind = sign();
                    at++;
                    if (kind == 'x') {
                        int b = hex() * 16;
                        bytes.write(b + hex());
                    } else {
                        bytes.write(kind == 'n' ? '\n' : kind == 't' ? '\t' : kind);
                    }
                } else {
                    bytes.write(sign);
                }
            }
            return bytes.toByteArray();
        }

        int hex() {
            int digit = sign() < 0 ? -1 : "0123456789abcdef".indexOf(Character.toLowerCase((char) sign()));
            wrong(digit < 0);
            at++;
            return digit;
        }

        void map(Node node, int depth) {
            expect('{');
            blanks();
            Set<String> seen = new HashSet<>();
            while (sign() != '}') {
                if (!seen.isEmpty()) {
                    expect(',');
                    blanks();
                }
                byte[] key = string(64);
                wrong(key.length == 0 || !seen.add(new String(key, StandardCharsets.ISO_8859_1)));
                at++;
                blanks();
                expect(':');
                blanks();
                value(node, key, depth);
                blanks();
            }
            at++;
        }

        void list(Node node, int depth) {
            expect('[');
            blanks();
            boolean filled = false;
            while (sign() != ']') {
                if (filled) {
                    expect(',');
                    blanks();
                }
                value(node, null, depth);
                filled = true;
                blanks();
            }
            at++;
        }
    }

    // ------------------------------------------------------------------ the driver

    static final class Driver {
        static final TreeMap<String, Integer> SEEN = new TreeMap<>();
        final long seed;
        final Random random;
        final JoinedTrees real = new JoinedTrees();
        final Model model = new Model();
        final List<String> trail = new ArrayList<>();
        final List<Integer> ids = new ArrayList<>();
        final int replicas;
        final int style;
        int calls;
        boolean right = true;

        Driver(long seed) {
            this.seed = seed;
            random = new Random(seed);
            replicas = 1 + random.nextInt(8);
            style = random.nextInt(5);
            ids.add(0);
        }

        /** So that most runs have OBJECTS of all kinds which all replicas know. */
        void prepare() {
            int sort = 5;
            for (String key : new String[] {"ab", "c", "a", "b"}) {
                give(key.getBytes(StandardCharsets.ISO_8859_1));
                remember(call("set", 0, 0, sort++, 3));
            }
            if (pick(0, 1) == 0) {
                give("one".getBytes(StandardCharsets.ISO_8859_1));
                call("splice", 0, ids.get(ids.size() - 1), 0, 0);
            }
            call("commit", 0);
            for (int r = 1; r < replicas; r++) {
                call("join", 0, r);
            }
        }

        /** All that can be seen in the VIEW of each replica. */
        void compareAll(int r) {
            MView view = model.view(model.replicas[r]);
            for (MOp op : view.ops) {
                if (random.nextInt(view.ops.size()) > 40) {
                    continue;
                }
                call("letter", r, op.id, 0);
                if (op.key != null) {
                    compareCandidates(r, op.object, -1, op.key);
                } else if (op.insert) {
                    call("index", r, op.object, op.id);
                    int i = Model.indices(view, op.object).indexOf(op.id);
                    if (i >= 0) {
                        call("element", r, op.object, i);
                        compareCandidates(r, op.object, i, null);
                    }
                }
                if (op.sort >= 6 && op.sort <= 8) {
                    call("object", r, op.id, 1);
                    call("text", r, op.id);
                }
            }
        }

        void compareCandidates(int r, int object, int i, byte[] key) {
            for (int c = 0; c < 3; c++) {
                for (int what = 0; what < 5; what++) {
                    if (key != null) {
                        give(key);
                    }
                    call("candidate", r, object, i, c, what);
                }
            }
        }

        boolean run(int most) {
            if (style != 0) {
                prepare();
            }
            while (calls < most && right) {
                step();
            }
            for (int r = 0; r < replicas && right && seed % 10 == 0; r++) {
                compareAll(r);
            }
            for (int r = 0; r < 8 && right; r++) {
                call("look", r, -1, 0);
                call("text", r, 0);
                for (int i = 0; i * 8 < model.out.length; i++) {
                    call("out", i);
                }
                for (int what = -1; what < 20; what++) {
                    call("count", r, what);
                }
            }
            for (int what = -1; what < 10; what++) {
                call("told", what);
            }
            return right;
        }

        int pick(int... from) {
            return from[random.nextInt(from.length)];
        }

        boolean rarely() {
            return random.nextInt(40) == 0;
        }

        int replica() {
            return rarely() ? pick(-1, 8, 7, 100) : random.nextInt(replicas);
        }

        int object() {
            if (rarely()) {
                return pick(-1, -8, 1, 8, 9, 32008, 1 << 30, Integer.MIN_VALUE, Integer.MAX_VALUE);
            }
            return random.nextInt(3) == 0 ? 0 : ids.get(Math.max(0, ids.size() - 1 - random.nextInt(Math.min(ids.size(), 30))));
        }

        int object(int r, int kind) {
            if (rarely() || r < 0 || r > 7) {
                return object();
            }
            MView view = model.view(model.replicas[r]);
            List<Integer> fit = new ArrayList<>();
            if (kind == 6) {
                fit.add(0);
            }
            for (MOp op : view.ops) {
                if (op.sort == kind || kind == -7 && (op.sort == 7 || op.sort == 8)) {
                    fit.add(op.id);
                }
            }
            return fit.isEmpty() ? object() : fit.get(random.nextInt(Math.min(fit.size(), 4)));
        }

        int sort() {
            return rarely() ? pick(-1, 9, 10, 20) : style == 1 ? pick(5, 5, 3, 7, 8, 6) : random.nextInt(9);
        }

        long number() {
            return pick(0, 1) == 0 ? random.nextInt(20) - 10
                    : pick(0, 1) == 0 ? random.nextLong() : pick(0, 1) == 0 ? Long.MIN_VALUE : Long.MAX_VALUE;
        }

        byte[] key() {
            if (rarely()) {
                return bytes(pick(0, 64, 65, 63));
            }
            if (random.nextInt(10) == 0) {
                return bytes(1 + random.nextInt(3));
            }
            return pick("a", "b", "ab", "c").getBytes(StandardCharsets.ISO_8859_1);
        }

        String pick(String... from) {
            return from[random.nextInt(from.length)];
        }

        byte[] bytes(int length) {
            byte[] bytes = new byte[length];
            for (int i = 0; i < length; i++) {
                bytes[i] = (byte) (pick(0, 1, 2) == 0 ? random.nextInt(256) : "abz\"\\\n\t x{[:,".charAt(random.nextInt(13)));
            }
            return bytes;
        }

        byte[] string() {
            return bytes(rarely() ? pick(1023, 1024, 1025) : style == 4 && pick(0, 1) == 0 ? 500 + random.nextInt(500) : random.nextInt(6));
        }

        void give(byte[] argument) {
            int at = 0;
            while (at < argument.length) {
                int[] five = new int[5];
                for (int i = 0; i < 20; i++) {
                    int b = at + i < argument.length ? argument[at + i] & 255 : random.nextInt(256);
                    five[i / 4] |= b << 24 - 8 * (i % 4);
                }
                // feeding isn't counted among the calls: long texts would use them all up
                compare("feed", answer(() -> (long) real.feed(five[0], five[1], five[2], five[3], five[4])), answer(() -> (long) model.feed(five)));
                at += 20;
            }
            call("end", at - argument.length);
        }

        void step() {
            if (rarely()) {
                odd();
                return;
            }
            int r = replica();
            int kind = random.nextInt(24);
            if (kind < 10) {
                change(r);
            } else if (kind < 12) {
                int at = r >= 0 && r < 8 && model.replicas[r].looked != null ? 0 : random.nextInt(4);
                call(pick("commit", "commit", "commit", "commit", "commit", "commit", "drop"), r);
                if (at == 3 && r >= 0 && r < 8) {
                    call("join", r, random.nextInt(replicas));
                }
            } else if (kind < 15) {
                spread(r);
            } else if (kind < 16) {
                look(r);
            } else if (kind < 22) {
                ask(r);
            } else {
                keep(r);
            }
        }

        void odd() {
            switch (random.nextInt(4)) {
                case 0:
                    call("end", pick(-1, 0, 1, 19, 20));
                    break;
                case 1:
                    give(bytes(random.nextInt(3)));
                    give(bytes(random.nextInt(3)));
                    if (pick(0, 1) == 0) {
                        give(bytes(random.nextInt(3)));
                    }
                    break;
                case 2:
                    call("told", random.nextInt(12) - 2);
                    break;
                default:
                    call("count", replica(), random.nextInt(22) - 2);
                    break;
            }
        }

        int place(int r, int object) {
            if (rarely() || r < 0 || r > 7) {
                return pick(-2, -1, 0, 1000, Integer.MAX_VALUE, Integer.MIN_VALUE);
            }
            int size = 0;
            try {
                size = Model.indices(model.view(model.replicas[r]), object).size();
            } catch (NoSuchElementException e) {
                size = 1;
            }
            return random.nextInt(size + 1);
        }

        void change(int r) {
            if (r >= 0 && r < 8 && model.replicas[r].looked != null && random.nextInt(3) > 0) {
                call("look", r, -1, random.nextInt());
            }
            int sort = sort();
            int object;
            switch (random.nextInt(9)) {
                case 0:
                case 1:
                    give(key());
                    if (sort == 4 != rarely()) {
                        give(string());
                    }
                    remember(call("set", r, object(r, 6), sort, number()));
                    break;
                case 2:
                case 3:
                    object = object(r, -7);
                    if (sort == 4 != rarely()) {
                        give(string());
                    }
                    remember(call("insert", r, object, place(r, object), sort, number()));
                    break;
                case 4:
                    object = object(r, -7);
                    if (sort == 4 != rarely()) {
                        give(string());
                    }
                    remember(call("put", r, object, place(r, object), sort, number()));
                    break;
                case 5:
                    object = object(r, 8);
                    give(string());
                    call("splice", r, object, place(r, object), rarely() ? pick(-1, 1000, Integer.MAX_VALUE) : random.nextInt(3));
                    break;
                case 6:
                case 7:
                    touch(pick("erase", "add", "add"), r);
                    break;
                default:
                    read(r);
                    break;
            }
        }

        void touch(String name, int r) {
            boolean keyed = pick(0, 1) == 0;
            int object = object(r, keyed ? 6 : -7);
            int i = keyed ? -1 : place(r, object);
            if (name.equals("add") && r >= 0 && r < 8) {
                for (MOp op : model.view(model.replicas[r]).ops) {
                    if (op.sort == 5 && pick(0, 1, 2) == 0) {
                        object = op.object;
                        keyed = op.key != null;
                        i = keyed ? -1 : Model.indices(model.view(model.replicas[r]), object).indexOf(op.id);
                        if (keyed) {
                            give(op.key);
                        }
                        remember(call(name, r, object, i, number()));
                        return;
                    }
                }
            }
            if (keyed != rarely()) {
                give(key());
            }
            if (name.equals("erase")) {
                remember(call(name, r, object, i));
            } else {
                remember(call(name, r, object, i, number()));
            }
        }

        void read(int r) {
            give(key());
            StringBuilder json = new StringBuilder();
            int most = rarely() ? 600 : 12;
            json(json, rarely() ? 22 : 3, new int[] {most}, rarely());
            if (pick(0, 1, 2) == 0 && json.length() > 0) {
                int at = random.nextInt(json.length());
                switch (random.nextInt(4)) {
                    case 0:
                        json.deleteCharAt(at);
                        break;
                    case 1:
                        json.setLength(at);
                        break;
                    case 2:
                        json.insert(at, pick("\"", "\\", "{", "}", "[", "]", ",", ":", "0", "-", "x", "\t", "\u007f", "\u0000", "n", "\\x4", "\\q"));
                        break;
                    default:
                        json.setCharAt(at, (char) random.nextInt(256));
                        break;
                }
            }
            byte[] text = json.toString().getBytes(StandardCharsets.ISO_8859_1);
            give(text.length > 8000 ? Arrays.copyOf(text, 8000) : text);
            remember(call("read", r, object(r, 6)));
            call("told", 5);
        }

        String blank() {
            return pick(0, 1, 2, 3) == 0 ? pick(" ", "\t", "\n", "\r", " \n ") : "";
        }

        void json(StringBuilder into, int depth, int[] left, boolean deep) {
            into.append(blank());
            left[0]--;
            int kind = deep ? pick(6, 7) : random.nextInt(left[0] > 400 ? 8 : 9);
            if (left[0] > 20 && kind < 6) {
                kind = pick(6, 7, 7);
            }
            switch (kind) {
                case 0:
                    into.append(pick("null", "true", "false"));
                    break;
                case 1:
                    into.append(pick("0", "-0", "12", "-7", "999999999999999999", "-123456789012345678", "1234567890123456789", "01", "-"));
                    break;
                case 2:
                case 3:
                    into.append('"').append(quoted(rarely() ? pick(1024, 1025) : random.nextInt(5))).append('"');
                    break;
                case 4:
                case 5:
                    into.append(random.nextInt(1000));
                    break;
                default:
                    into.append(kind == 6 ? '{' : '[');
                    int size = deep ? 1 : left[0] > 20 ? 30 + random.nextInt(600) : random.nextInt(4);
                    for (int i = 0; i < size && depth > 0 && left[0] > 0; i++) {
                        into.append(i > 0 ? "," : "").append(blank());
                        if (kind == 6) {
                            String key = rarely() ? quoted(pick(0, 64, 65)) : pick("k", "l", "m", "") + (rarely() ? "" : i);
                            into.append('"').append(key).append('"').append(blank()).append(':');
                        }
                        json(into, depth - 1, left, deep);
                        into.append(blank());
                    }
                    into.append(kind == 6 ? '}' : ']');
                    break;
            }
            into.append(blank());
        }

        String quoted(int length) {
            StringBuilder string = new StringBuilder();
            for (int i = 0; i < length; i++) {
                string.append(random.nextInt(4) > 0 ? "" + (char) ('a' + random.nextInt(26))
                        : pick("\\n", "\\t", "\\\"", "\\\\", "\\/", "\\x00", "\\xFf", "\\xa9", " ", "~"));
            }
            return string.toString();
        }

        void spread(int r) {
            int to = replica();
            if (to >= 0 && to < 8 && !model.replicas[to].open.isEmpty() && random.nextInt(4) > 0) {
                call(pick("commit", "commit", "commit", "commit", "drop"), to);
            }
            if (pick(0, 1) == 0) {
                call("join", r, to);
            } else {
                for (int i = 0; i < 3; i++) {
                    int actor = rarely() ? pick(-1, 8) : random.nextInt(replicas);
                    int size = r < 0 || r > 7 || actor < 0 || actor > 7 ? 1 : model.of(model.replicas[r], actor);
                    call("send", r, to, actor, rarely() ? pick(0, -1, 1001) : Math.max(random.nextInt(8) == 0 ? 0 : 1, size - random.nextInt(3) + (rarely() ? 1 : 0)));
                }
            }
        }

        void look(int r) {
            int actor = rarely() ? pick(-2, 8) : random.nextInt(replicas + 1) - 1;
            int size = r < 0 || r > 7 || actor < 0 || actor > 7 ? 1 : model.of(model.replicas[r], actor);
            call("look", r, actor, rarely() ? pick(0, -1, size + 1) : 1 + random.nextInt(Math.max(1, size)));
        }

        void ask(int r) {
            int object;
            switch (random.nextInt(9)) {
                case 0:
                    call("object", r, object(), rarely() ? pick(-1, 2) : random.nextInt(2));
                    break;
                case 1:
                    call("key", r, rarely() ? object() : object(r, 6), random.nextInt(5) - (rarely() ? 1 : 0), random.nextInt(4) - (rarely() ? 2 : 1));
                    break;
                case 2:
                case 3:
                    boolean keyed = pick(0, 1) == 0;
                    object = object(r, keyed ? 6 : -7);
                    int i = keyed ? -1 : place(r, object);
                    if (keyed != rarely()) {
                        give(key());
                    }
                    call("candidate", r, object, i, rarely() ? -1 : random.nextInt(3), rarely() ? pick(-1, 5) : random.nextInt(5));
                    break;
                case 4:
                    call("letter", r, object(r, 4), random.nextInt(5) - (rarely() ? 1 : 0));
                    break;
                case 5:
                    object = object(r, -7);
                    call("element", r, object, place(r, object));
                    break;
                case 6:
                    object = object(r, -7);
                    List<Integer> elements = new ArrayList<>(List.of(0, 8, -1));
                    for (MOp op : r < 0 || r > 7 ? new ArrayList<MOp>() : model.view(model.replicas[r]).ops) {
                        if (op.insert && (op.object == object || rarely())) {
                            elements.add(op.id);
                            elements.add(op.id);
                        }
                    }
                    call("index", r, object, elements.get(random.nextInt(elements.size())));
                    break;
                default:
                    StringBuilder path = new StringBuilder(pick("a", "b", "ab", "c", "k0"));
                    int steps = random.nextInt(4);
                    for (int s = 0; s < steps; s++) {
                        path.append(pick(".a", ".b", ".k0", ".k1", ".l0", "[0]", "[1]", "[2]", "[00]", rarely() ? pick(".", "[]", "[1234567]", "a", "..a", "[-1]", "[1", ".\u00e4") : "[0]"));
                    }
                    give(path.toString().getBytes(StandardCharsets.ISO_8859_1));
                    call("find", r);
                    break;
            }
        }

        void keep(int r) {
            switch (random.nextInt(5)) {
                case 0:
                case 1:
                    call("text", r, rarely() ? object() : 0);
                    showOut();
                    break;
                case 2:
                    if (r >= 0 && r < 8 && !model.replicas[r].open.isEmpty() && !rarely()) {
                        call("commit", r);
                    }
                    call("save", r);
                    showOut();
                    call("load", replica());
                    break;
                case 3:
                    call("load", r);
                    break;
                default:
                    if (random.nextInt(3) > 0) {
                        call("save", random.nextInt(replicas));
                    }
                    int i = rarely() ? pick(-1, model.out.length) : random.nextInt(model.out.length + 1);
                    int bit = rarely() ? pick(-1, 8) : random.nextInt(8);
                    call("harm", i, bit);
                    call("load", r);
                    if (random.nextInt(3) > 0) {
                        call("harm", i, bit);
                        call("load", r);
                    }
                    break;
            }
        }

        void showOut() {
            for (int i = 0; i <= Math.min(12, model.out.length / 8); i++) {
                call("out", i);
            }
        }

        void remember(Object answer) {
            if (answer instanceof Long) {
                ids.add((int) (long) (Long) answer);
            }
        }

        interface Call {
            long answer();
        }

        static Object answer(Call call) {
            try {
                return call.answer();
            } catch (RuntimeException e) {
                return e.getClass().getName();
            }
        }

        Object call(String name, long... a) {
            if (!name.equals("end") && !name.equals("out") && !name.equals("count") && !name.equals("told")) {
                calls++;
            }
            Object got = answer(() -> real(name, a));
            Object due = answer(() -> model(name, a));
            SEEN.merge(name + " " + (due instanceof Long ? "answers" : due), 1, Integer::sum);
            compare(name + Arrays.toString(a), got, due);
            return due;
        }

        void compare(String call, Object got, Object due) {
            trail.add(call + " -> " + due);
            if (right && !got.equals(due)) {
                right = false;
                System.out.println("seed " + seed + ", call " + calls + ": " + call + " answered " + got + ", due " + due);
                for (int i = Math.max(0, trail.size() - 25); i < trail.size(); i++) {
                    System.out.println("    " + trail.get(i));
                }
            }
        }

        long real(String name, long[] a) {
            int[] i = new int[a.length];
            for (int k = 0; k < a.length; k++) {
                i[k] = (int) a[k];
            }
            switch (name) {
                case "end": return real.end(i[0]);
                case "set": return real.set(i[0], i[1], i[2], a[3]);
                case "put": return real.put(i[0], i[1], i[2], i[3], a[4]);
                case "insert": return real.insert(i[0], i[1], i[2], i[3], a[4]);
                case "splice": return real.splice(i[0], i[1], i[2], i[3]);
                case "erase": return real.erase(i[0], i[1], i[2]);
                case "add": return real.add(i[0], i[1], i[2], a[3]);
                case "read": return real.read(i[0], i[1]);
                case "commit": return real.commit(i[0]);
                case "drop": return real.drop(i[0]);
                case "send": return real.send(i[0], i[1], i[2], i[3]);
                case "join": return real.join(i[0], i[1]);
                case "look": return real.look(i[0], i[1], i[2]);
                case "object": return real.object(i[0], i[1], i[2]);
                case "key": return real.key(i[0], i[1], i[2], i[3]);
                case "candidate": return real.candidate(i[0], i[1], i[2], i[3], i[4]);
                case "letter": return real.letter(i[0], i[1], i[2]);
                case "element": return real.element(i[0], i[1], i[2]);
                case "index": return real.index(i[0], i[1], i[2]);
                case "find": return real.find(i[0]);
                case "text": return real.text(i[0], i[1]);
                case "save": return real.save(i[0]);
                case "load": return real.load(i[0]);
                case "harm": real.harm(i[0], i[1]); return 0;
                case "out": return real.out(i[0]);
                case "count": return real.count(i[0], i[1]);
                case "told": return real.told(i[0]);
                default: throw new Error(name);
            }
        }

        long model(String name, long[] a) {
            int[] i = new int[a.length];
            for (int k = 0; k < a.length; k++) {
                i[k] = (int) a[k];
            }
            switch (name) {
                case "end": return model.end(i[0]);
                case "set": return model.set(i[0], i[1], i[2], a[3]);
                case "put": return model.put(i[0], i[1], i[2], i[3], a[4]);
                case "insert": return model.insert(i[0], i[1], i[2], i[3], a[4]);
                case "splice": return model.splice(i[0], i[1], i[2], i[3]);
                case "erase": return model.erase(i[0], i[1], i[2]);
                case "add": return model.add(i[0], i[1], i[2], a[3]);
                case "read": return model.read(i[0], i[1]);
                case "commit": return model.commit(i[0]);
                case "drop": return model.drop(i[0]);
                case "send": return model.send(i[0], i[1], i[2], i[3]);
                case "join": return model.join(i[0], i[1]);
                case "look": return model.look(i[0], i[1], i[2]);
                case "object": return model.object(i[0], i[1], i[2]);
                case "key": return model.key(i[0], i[1], i[2], i[3]);
                case "candidate": return model.candidate(i[0], i[1], i[2], i[3], i[4]);
                case "letter": return model.letter(i[0], i[1], i[2]);
                case "element": return model.element(i[0], i[1], i[2]);
                case "index": return model.index(i[0], i[1], i[2]);
                case "find": return model.find(i[0]);
                case "text": return model.text(i[0], i[1]);
                case "save": return model.save(i[0]);
                case "load": return model.load(i[0]);
                case "harm": return model.harm(i[0], i[1]);
                case "out": return model.out(i[0]);
                case "count": return model.count(i[0], i[1]);
                case "told": return model.told(i[0]);
                default: throw new Error(name);
            }
        }
    }
}

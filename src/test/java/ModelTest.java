import java.util.ArrayDeque;
import java.util.ArrayList;
import java.util.Arrays;
import java.util.Deque;
import java.util.HashMap;
import java.util.List;
import java.util.Map;
import java.util.Random;
import java.util.Set;
import java.util.TreeMap;
import java.util.TreeSet;

/** Random runs of calls, each answer set against a slow model that is written from the document's words alone. */
public final class ModelTest {
    private static final int NONE = -1;
    private static final int RUNS = 1500;
    private static final int CALLS = 512;
    private static final Set<String> WORDS =
        Set.of("head", "single", "many", "value", "in", "record", "or", "and", "less", "all");

    // ---- the model

    private static final class Fault extends Exception {
        private static final long serialVersionUID = 1;
        final int kind;
        final int place;

        Fault(int kind, int place) {
            this.kind = kind;
            this.place = place;
        }
    }

    private record Token(String text, int place) {
        boolean isEnd() {
            return text.isEmpty();
        }

        boolean isNumber() {
            return text.matches("[0-9]{1,3}");
        }

        boolean isName() {
            return text.matches("[a-z]{2,8}") && !WORDS.contains(text);
        }
    }

    private static final class Value {
        String name;
        int head;
        int parent = NONE;
        int chosen = 0;
    }

    private static final class Head {
        String name;
        boolean many;
        boolean all = false;
    }

    private static final class Entry {
        int rank;
        TreeSet<Integer> tags = new TreeSet<>();
    }

    private static final class World {
        List<Head> heads = new ArrayList<>();
        List<Value> values = new ArrayList<>();
        TreeMap<Integer, Entry> records = new TreeMap<>();
        String tape = "";
        int fault = 0;
        int place = NONE;
        List<Integer> answer = null;
        int work = 0;
        int reason = 0;
        int holder = NONE;

        World copy() {
            World w = new World();
            for (Head h : heads) {
                Head n = new Head();
                n.name = h.name;
                n.many = h.many;
                n.all = h.all;
                w.heads.add(n);
            }
            for (Value v : values) {
                Value n = new Value();
                n.name = v.name;
                n.head = v.head;
                n.parent = v.parent;
                n.chosen = v.chosen;
                w.values.add(n);
            }
            for (Map.Entry<Integer, Entry> e : records.entrySet()) {
                Entry n = new Entry();
                n.rank = e.getValue().rank;
                n.tags = new TreeSet<>(e.getValue().tags);
                w.records.put(e.getKey(), n);
            }
            w.tape = tape;
            w.fault = fault;
            w.place = place;
            w.answer = answer;
            w.work = work;
            w.reason = reason;
            w.holder = holder;
            return w;
        }

        int valueOf(String name) {
            for (int v = 0; v < values.size(); v++) {
                if (values.get(v).name.equals(name)) {
                    return v;
                }
            }
            return NONE;
        }

        boolean isTold(String name) {
            return valueOf(name) != NONE || heads.stream().anyMatch(h -> h.name.equals(name));
        }

        List<Integer> above(int value) {
            List<Integer> list = new ArrayList<>();
            for (int v = values.get(value).parent; v != NONE; v = values.get(v).parent) {
                list.add(v);
            }
            return list;
        }

        TreeSet<Integer> set(int value) {
            TreeSet<Integer> set = new TreeSet<>();
            for (Map.Entry<Integer, Entry> e : records.entrySet()) {
                for (int t : e.getValue().tags) {
                    if (t == value || above(t).contains(value)) {
                        set.add(e.getKey());
                    }
                }
            }
            return set;
        }

        /** LEFT, with what is chosen told by an array, and one head whose wants are overlooked. */
        TreeSet<Integer> left(int[] chosen, int without) {
            TreeSet<Integer> left = new TreeSet<>(records.keySet());
            for (int h = 0; h < heads.size(); h++) {
                List<Set<Integer>> wanted = new ArrayList<>();
                for (int v = 0; v < values.size(); v++) {
                    if (values.get(v).head == h && chosen[v] == 1 && h != without) {
                        wanted.add(set(v));
                    }
                }
                if (wanted.isEmpty()) {
                    continue;
                }
                boolean all = heads.get(h).all;
                left.removeIf(r -> all
                    ? wanted.stream().anyMatch(s -> !s.contains(r))
                    : wanted.stream().noneMatch(s -> s.contains(r)));
            }
            for (int v = 0; v < values.size(); v++) {
                if (chosen[v] == 2) {
                    left.removeAll(set(v));
                }
            }
            return left;
        }

        int[] chosen() {
            return values.stream().mapToInt(v -> v.chosen).toArray();
        }

        TreeSet<Integer> left() {
            return left(chosen(), NONE);
        }

        int counted(int value) {
            int head = values.get(value).head;
            TreeSet<Integer> set = set(value);
            set.retainAll(left(chosen(), heads.get(head).all ? NONE : head));
            return set.size();
        }

        int ahead(int value) {
            int[] chosen = chosen();
            chosen[value] = 1;
            return left(chosen, NONE).size();
        }

        List<Integer> sure() {
            TreeSet<Integer> left = left();
            List<Integer> list = new ArrayList<>();
            for (int v = 0; v < values.size() && !left.isEmpty(); v++) {
                if (values.get(v).chosen == 0 && set(v).containsAll(left)) {
                    list.add(v);
                }
            }
            return list;
        }

        List<Integer> idle() {
            List<Integer> list = new ArrayList<>();
            for (int v = 0; v < values.size(); v++) {
                if (values.get(v).chosen == 0 && ahead(v) == 0) {
                    list.add(v);
                }
            }
            return list;
        }

        int parting() {
            TreeSet<Integer> left = left();
            int best = NONE;
            int least = Integer.MAX_VALUE;
            for (int v = 0; v < values.size() && !left.isEmpty(); v++) {
                if (values.get(v).chosen == 0) {
                    TreeSet<Integer> inside = set(v);
                    inside.retainAll(left);
                    int greater = Math.max(inside.size(), left.size() - inside.size());
                    if (greater < least) {
                        least = greater;
                        best = v;
                    }
                }
            }
            return best;
        }

        List<Integer> shown() {
            List<Integer> list = new ArrayList<>(left());
            list.sort((a, b) -> records.get(a).rank != records.get(b).rank
                ? records.get(b).rank - records.get(a).rank : a - b);
            return list;
        }

        /** NAMED as a list; null: by no three. */
        List<Integer> named(int record) {
            if (records.size() == 1) {
                return List.of();
            }
            for (int size = 1; size <= 3; size++) {
                List<Integer> found = namedBy(record, size, new ArrayList<>(), new TreeSet<>(records.keySet()));
                if (found != null) {
                    return found;
                }
            }
            return null;
        }

        private List<Integer> namedBy(int record, int size, List<Integer> taken, TreeSet<Integer> common) {
            if (taken.size() == size) {
                return common.equals(new TreeSet<>(Set.of(record))) ? taken : null;
            }
            int from = taken.isEmpty() ? 0 : taken.get(taken.size() - 1) + 1;
            for (int v = from; v < values.size(); v++) {
                TreeSet<Integer> fewer = set(v);
                fewer.retainAll(common);
                if (fewer.contains(record)) {
                    List<Integer> more = new ArrayList<>(taken);
                    more.add(v);
                    List<Integer> found = namedBy(record, size, more, fewer);
                    if (found != null) {
                        return found;
                    }
                }
            }
            return null;
        }
    }

    /** {KIND, SIZE, records, rows} by block. */
    private static Map<Integer, int[]> boxes(Set<Integer> set) {
        Map<Integer, int[]> boxes = new TreeMap<>();
        for (int block = 0; block < 8; block++) {
            int amount = 0;
            int rows = 0;
            for (int p = 0; p < 32; p++) {
                if (set.contains(32 * block + p)) {
                    amount++;
                    if (p == 0 || !set.contains(32 * block + p - 1)) {
                        rows++;
                    }
                }
            }
            if (amount > 0) {
                int[] sizes = {amount, 2 * rows, 4};
                int kind = 0;
                for (int i = 1; i < 3; i++) {
                    if (sizes[i] < sizes[kind]) {
                        kind = i;
                    }
                }
                boxes.put(block, new int[] {kind, sizes[kind], amount, rows});
            }
        }
        return boxes;
    }

    private static int size(Set<Integer> set) {
        return boxes(set).values().stream().mapToInt(b -> b[1]).sum();
    }

    private static int work(Set<Integer> one, Set<Integer> other, String join) {
        Map<Integer, int[]> a = boxes(one);
        Map<Integer, int[]> b = boxes(other);
        int work = 0;
        for (int block = 0; block < 8; block++) {
            int x = a.containsKey(block) ? a.get(block)[1] : 0;
            int y = b.containsKey(block) ? b.get(block)[1] : 0;
            switch (join) {
                case "and" -> work += x > 0 && y > 0 ? x + y : 0;
                case "or" -> work += x + y;
                default -> work += x > 0 ? x + y : 0;
            }
        }
        return work;
    }

    private static final class Parser {
        final World world;
        final String text;
        int at = 0;
        Token token;
        int facts = 0;
        int work = 0;

        Parser(World world, String text) throws Fault {
            this.world = world;
            this.text = text;
            next();
        }

        /** A token that can't be is kept as it is and fits nowhere. */
        void next() {
            while (at < text.length() && (text.charAt(at) == 10 || text.charAt(at) == 32)) {
                at++;
            }
            int start = at;
            if (at < text.length()) {
                String kind = Character.toString(text.charAt(at)).matches("[a-z]") ? "[a-z]"
                    : Character.toString(text.charAt(at)).matches("[0-9]") ? "[0-9]" : "";
                at++;
                while (!kind.isEmpty() && at < text.length() && Character.toString(text.charAt(at)).matches(kind)) {
                    at++;
                }
            }
            token = new Token(text.substring(start, at), start);
        }

        boolean is(String word) {
            return token.text().equals(word);
        }

        void check(boolean fine, int kind) throws Fault {
            if (!fine) {
                throw new Fault(kind, token.place());
            }
        }

        void scheme() throws Fault {
            while (!token.isEnd()) {
                if (is("head")) {
                    head();
                } else if (is("value")) {
                    value();
                } else {
                    check(is("record"), 1);
                    record();
                }
                check(is(";"), 1);
                next();
            }
        }

        void head() throws Fault {
            check(world.heads.size() < 4, 4);
            next();
            check(token.isName(), 1);
            check(!world.isTold(token.text()), 3);
            Head h = new Head();
            h.name = token.text();
            next();
            check(is("single") || is("many"), 1);
            h.many = is("many");
            world.heads.add(h);
            next();
        }

        void value() throws Fault {
            check(!world.heads.isEmpty() && world.values.size() < 20, 4);
            next();
            check(token.isName(), 1);
            check(!world.isTold(token.text()), 3);
            Value v = new Value();
            v.name = token.text();
            v.head = world.heads.size() - 1;
            next();
            if (is("in")) {
                next();
                check(token.isName(), 1);
                v.parent = world.valueOf(token.text());
                check(v.parent != NONE, 3);
                check(world.values.get(v.parent).head == v.head, 3);
                next();
            }
            world.values.add(v);
        }

        void record() throws Fault {
            next();
            check(token.isNumber(), 1);
            int number = Integer.parseInt(token.text());
            check(number < 256, 2);
            check(!world.records.containsKey(number), 5);
            next();
            check(token.isNumber(), 1);
            Entry e = new Entry();
            e.rank = Integer.parseInt(token.text());
            next();
            while (token.isName()) {
                int v = world.valueOf(token.text());
                check(v != NONE, 3);
                check(!e.tags.contains(v), 6);
                for (int t : e.tags) {
                    check(world.heads.get(world.values.get(v).head).many
                        || world.values.get(t).head != world.values.get(v).head, 6);
                }
                e.tags.add(v);
                next();
            }
            world.records.put(number, e);
        }

        TreeSet<Integer> question(int depth) throws Fault {
            TreeSet<Integer> set = part(depth);
            while (is("or")) {
                next();
                set = join(set, part(depth), "or");
            }
            return set;
        }

        TreeSet<Integer> part(int depth) throws Fault {
            TreeSet<Integer> set = fact(depth);
            while (is("and") || is("less")) {
                String join = token.text();
                next();
                set = join(set, fact(depth), join);
            }
            return set;
        }

        TreeSet<Integer> join(TreeSet<Integer> one, TreeSet<Integer> other, String join) {
            work += work(one, other, join);
            TreeSet<Integer> set = new TreeSet<>(one);
            switch (join) {
                case "and" -> set.retainAll(other);
                case "or" -> set.addAll(other);
                default -> set.removeAll(other);
            }
            return set;
        }

        TreeSet<Integer> fact(int depth) throws Fault {
            TreeSet<Integer> set;
            if (is("[")) {
                check(depth < 6, 8);
                next();
                set = question(depth + 1);
                check(is("]"), 1);
            } else if (is("all")) {
                set = new TreeSet<>(world.records.keySet());
                check(++facts <= 30, 7);
            } else {
                check(token.isName(), 1);
                check(world.valueOf(token.text()) != NONE, 3);
                set = world.set(world.valueOf(token.text()));
                check(++facts <= 30, 7);
            }
            next();
            return set;
        }
    }

    private static final class Model {
        World w = new World();
        final Map<Integer, World> images = new HashMap<>();
        /** The whole world ahead of each act; an undo takes over only what acts can change. */
        final Deque<World> acts = new ArrayDeque<>();

        int feed(int... numbers) {
            if (w.tape.length() + 20 > 600) {
                return NONE;
            }
            StringBuilder text = new StringBuilder(w.tape);
            for (int n : numbers) {
                for (int i = 3; i >= 0; i--) {
                    text.append((char) (n >>> 8 * i & 255));
                }
            }
            w.tape = text.toString();
            return w.tape.length();
        }

        int end(int n) {
            if (n < 0 || n > w.tape.length()) {
                return NONE;
            }
            w.tape = w.tape.substring(0, n);
            return n;
        }

        private String takeTape() {
            String text = w.tape;
            w.tape = "";
            w.fault = 0;
            w.place = NONE;
            return text;
        }

        int scheme() {
            String text = takeTape();
            World fresh = new World();
            try {
                new Parser(fresh, text).scheme();
            } catch (Fault f) {
                w.fault = f.kind;
                w.place = f.place;
                return NONE;
            }
            w.heads = fresh.heads;
            w.values = fresh.values;
            w.records = fresh.records;
            acts.clear();
            return w.records.size();
        }

        int ask() {
            String text = takeTape();
            try {
                Parser p = new Parser(w, text);
                TreeSet<Integer> set = p.question(0);
                p.check(p.token.isEnd(), 1);
                w.answer = new ArrayList<>(set);
                w.work = p.work;
                return set.size();
            } catch (Fault f) {
                w.fault = f.kind;
                w.place = f.place;
                return NONE;
            }
        }

        int asked(int what) {
            if (w.answer == null) {
                return NONE;
            }
            return what == 0 ? w.answer.size() : what == 1 ? w.work : what == 2 ? size(new TreeSet<>(w.answer))
                : what < 10 ? NONE : at(w.answer, what - 10);
        }

        int fault(int what) {
            return what == 0 ? w.fault : what == 1 ? w.place : NONE;
        }

        private int refuse(int reason) {
            w.reason = reason;
            w.holder = NONE;
            return reason;
        }

        private void remember() {
            acts.addLast(w.copy());
            if (acts.size() > 10) {
                acts.removeFirst();
            }
            refuse(0);
        }

        private static boolean range(int n, int most) {
            return 0 <= n && n <= most;
        }

        private boolean isValue(int v) {
            return range(v, w.values.size() - 1);
        }

        int add(int r, int rank) {
            if (!range(r, 255) || !range(rank, 999)) {
                return refuse(1);
            }
            if (w.records.containsKey(r)) {
                return refuse(2);
            }
            remember();
            Entry e = new Entry();
            e.rank = rank;
            w.records.put(r, e);
            return 0;
        }

        int drop(int r) {
            if (!range(r, 255)) {
                return refuse(1);
            }
            if (!w.records.containsKey(r)) {
                return refuse(3);
            }
            remember();
            w.records.remove(r);
            return 0;
        }

        int tag(int r, int v) {
            if (!range(r, 255) || !isValue(v)) {
                return refuse(1);
            }
            if (!w.records.containsKey(r)) {
                return refuse(3);
            }
            Entry e = w.records.get(r);
            if (e.tags.contains(v)) {
                return refuse(2);
            }
            int head = w.values.get(v).head;
            for (int t : e.tags) {
                if (w.values.get(t).head == head && !w.heads.get(head).many) {
                    refuse(4);
                    w.holder = t;
                    return 4;
                }
            }
            remember();
            e.tags.add(v);
            return 0;
        }

        int untag(int r, int v) {
            if (!range(r, 255) || !isValue(v)) {
                return refuse(1);
            }
            if (!w.records.containsKey(r) || !w.records.get(r).tags.contains(v)) {
                return refuse(3);
            }
            remember();
            w.records.get(r).tags.remove(v);
            return 0;
        }

        int rank(int r, int rank) {
            if (!range(r, 255) || !range(rank, 999)) {
                return refuse(1);
            }
            if (!w.records.containsKey(r)) {
                return refuse(3);
            }
            if (w.records.get(r).rank == rank) {
                return refuse(2);
            }
            remember();
            w.records.get(r).rank = rank;
            return 0;
        }

        int choose(int v, int how) {
            if (!isValue(v) || !range(how, 2)) {
                return refuse(1);
            }
            if (w.values.get(v).chosen == how) {
                return refuse(2);
            }
            remember();
            w.values.get(v).chosen = how;
            return 0;
        }

        int go(int h, boolean all) {
            if (!range(h, w.heads.size() - 1)) {
                return refuse(1);
            }
            if (w.heads.get(h).all == all) {
                return refuse(2);
            }
            remember();
            w.heads.get(h).all = all;
            return 0;
        }

        int why(int level, int what) {
            if (!range(level, 1) || !range(what, 1)) {
                return NONE;
            }
            int reason = level == 0 ? w.reason : w.reason == 4 ? 5 : 0;
            if (reason == 0) {
                return 0;
            }
            return what == 0 ? reason : reason == 5 ? w.holder : NONE;
        }

        int undo() {
            if (acts.isEmpty()) {
                return NONE;
            }
            World before = acts.removeLast();
            w.heads = before.heads;
            w.values = before.values;
            w.records = before.records;
            return acts.size();
        }

        int count(int what) {
            List<int[]> boxes = new ArrayList<>();
            for (int v = 0; v < w.values.size(); v++) {
                boxes.addAll(boxes(w.set(v)).values());
            }
            return switch (what) {
                case 0 -> w.heads.size();
                case 1 -> w.values.size();
                case 2 -> w.records.size();
                case 3 -> w.left().size();
                case 4 -> boxes.stream().mapToInt(b -> b[1]).sum();
                case 5 -> boxes.size();
                case 6, 7, 8 -> (int) boxes.stream().filter(b -> b[0] == what - 6).count();
                case 9 -> w.records.values().stream().mapToInt(e -> e.tags.size()).sum();
                case 10 -> acts.size();
                case 11 -> w.tape.length();
                case 12 -> w.sure().size();
                case 13 -> w.idle().size();
                case 14 -> w.parting();
                default -> NONE;
            };
        }

        private static int at(List<Integer> list, int k) {
            return k >= 0 && k < list.size() ? list.get(k) : NONE;
        }

        private static int letter(String name, int what) {
            return what >= 10 && what - 10 < name.length() ? name.charAt(what - 10) : NONE;
        }

        int head(int h, int what) {
            if (!range(h, w.heads.size() - 1)) {
                return NONE;
            }
            return switch (what) {
                case 0 -> w.heads.get(h).many ? 1 : 0;
                case 1 -> (int) w.values.stream().filter(v -> v.head == h).count();
                case 2 -> w.heads.get(h).all ? 1 : 0;
                case 3 -> (int) w.values.stream().filter(v -> v.head == h && v.chosen == 1).count();
                default -> letter(w.heads.get(h).name, what);
            };
        }

        int value(int v, int what) {
            if (!isValue(v)) {
                return NONE;
            }
            return switch (what) {
                case 0 -> w.values.get(v).head;
                case 1 -> w.values.get(v).parent;
                case 2 -> w.above(v).size();
                case 3 -> w.set(v).size();
                case 4 -> (int) w.records.values().stream().filter(e -> e.tags.contains(v)).count();
                case 5 -> size(w.set(v));
                case 6 -> boxes(w.set(v)).size();
                case 7 -> w.counted(v);
                case 8 -> w.ahead(v);
                case 9 -> w.values.get(v).chosen;
                default -> letter(w.values.get(v).name, what);
            };
        }

        int box(int v, int block, int what) {
            if (!isValue(v) || !boxes(w.set(v)).containsKey(block) || !range(what, 3)) {
                return NONE;
            }
            int[] order = {0, 2, 1, 3};
            return boxes(w.set(v)).get(block)[order[what]];
        }

        int record(int r, int what) {
            Entry e = w.records.get(r);
            if (e == null) {
                return NONE;
            }
            return what == 0 ? e.rank : what == 1 ? e.tags.size() : what == 2 ? (w.left().contains(r) ? 1 : 0)
                : what < 10 ? NONE : at(new ArrayList<>(e.tags), what - 10);
        }

        boolean has(int r, int v) {
            return isValue(v) && w.set(v).contains(r);
        }

        int left(int k, boolean shown) {
            return at(shown ? w.shown() : new ArrayList<>(w.left()), k);
        }

        int told(int k, boolean idle) {
            return at(idle ? w.idle() : w.sure(), k);
        }

        int both(int v, int o, int what) {
            if (!isValue(v) || !isValue(o) || !range(what, 5)) {
                return NONE;
            }
            TreeSet<Integer> a = w.set(v);
            TreeSet<Integer> b = w.set(o);
            if (what >= 3) {
                return work(a, b, what == 3 ? "and" : what == 4 ? "or" : "less");
            }
            if (what == 0) {
                a.retainAll(b);
            } else if (what == 1) {
                a.addAll(b);
            } else {
                a.removeAll(b);
            }
            return a.size();
        }

        int alike(int v) {
            int best = NONE;
            long[] most = {-1, 1};
            for (int o = 0; isValue(v) && o < w.values.size(); o++) {
                if (o != v) {
                    long up = both(v, o, 0);
                    long down = Math.max(1, both(v, o, 1));
                    if (up * most[1] > most[0] * down) {
                        most = new long[] {up, down};
                        best = o;
                    }
                }
            }
            return best;
        }

        int named(int r, int k) {
            List<Integer> named = w.records.containsKey(r) ? w.named(r) : null;
            if (named == null) {
                return -2;
            }
            return k == NONE ? named.size() : k >= 0 && k < named.size() ? named.get(k) : -2;
        }

        int likes(int r) {
            if (!w.records.containsKey(r)) {
                return NONE;
            }
            return (int) w.records.values().stream()
                .filter(e -> e.tags.containsAll(w.records.get(r).tags)).count();
        }

        int spread(int many) {
            if (!range(many, 20)) {
                return NONE;
            }
            int amount = 0;
            for (int r : w.left()) {
                int in = 0;
                for (int v = 0; v < w.values.size(); v++) {
                    in += w.set(v).contains(r) ? 1 : 0;
                }
                amount += in == many ? 1 : 0;
            }
            return amount;
        }

        boolean image(int k) {
            if (!range(k, 2)) {
                return false;
            }
            images.put(k, w.copy());
            return true;
        }

        boolean again(int k) {
            if (!images.containsKey(k)) {
                return false;
            }
            w = images.get(k).copy();
            acts.clear();
            return true;
        }
    }

    // ---- random runs

    private final Random random;
    private final int run;
    private final boolean dense;
    private FacetSieve x = new FacetSieve();
    private Model m = new Model();
    private int calls = 0;
    private final List<String> trail = new ArrayList<>();
    private static int wrong = 0;
    private static long answers = 0;

    private ModelTest(int run) {
        this.run = run;
        random = new Random(run);
        dense = run % 3 == 0;
    }

    private void due(String call, int got, int want) {
        calls++;
        answers++;
        trail.add(call + " = " + want);
        if (got != want) {
            wrong++;
            System.out.println("run " + run + ": " + call + " answered " + got + ", due is " + want);
            if (wrong == 1) {
                trail.forEach(t -> System.out.println("    " + t));
            }
        }
    }

    private void due(String call, boolean got, boolean want) {
        due(call, got ? 1 : 0, want ? 1 : 0);
    }

    private int upTo(int n) {
        return random.nextInt(n + 1);
    }

    private boolean chance(int percent) {
        return random.nextInt(100) < percent;
    }

    private boolean coin() {
        return random.nextBoolean();
    }

    private static final int[] WILD = {
        Integer.MIN_VALUE, Integer.MAX_VALUE, -1, -2, -32, 256, 257, 1000, 20, 21, 4, 8, 32, 600, 601, 10, 1 << 30};

    private int some(int most) {
        return chance(6) ? WILD[random.nextInt(WILD.length)] : upTo(Math.max(most, 0));
    }

    private int someRecord() {
        if (chance(60) && !m.w.records.isEmpty()) {
            List<Integer> there = new ArrayList<>(m.w.records.keySet());
            return there.get(random.nextInt(there.size()));
        }
        return some(dense ? 70 : 255);
    }

    private int someValue() {
        return some(m.w.values.size() - (chance(90) ? 1 : 0));
    }

    private int someHead() {
        return some(m.w.heads.size() - (chance(90) ? 1 : 0));
    }

    private String name() {
        StringBuilder name = new StringBuilder();
        int length = chance(80) ? 2 : 2 + upTo(6);
        for (int i = 0; i < length; i++) {
            name.append((char) ('a' + (length == 2 ? upTo(5) : upTo(25))));
        }
        return WORDS.contains(name.toString()) ? "zz" : name.toString();
    }

    private String blank() {
        return chance(90) ? " " : chance(50) ? "\n" : "  ";
    }

    private String someScheme() {
        StringBuilder text = new StringBuilder();
        List<List<String>> heads = new ArrayList<>();
        List<Boolean> many = new ArrayList<>();
        Set<String> told = new TreeSet<>();
        Set<Integer> there = new TreeSet<>();
        int most = chance(85) ? 560 : 700;
        int values = 0;
        while (text.length() < most && !chance(1)) {
            int what = upTo(11);
            StringBuilder line = new StringBuilder();
            if (heads.isEmpty() || what == 0) {
                String name = name();
                if ((told.contains(name) || heads.size() == 4) && chance(99)) {
                    continue;
                }
                told.add(name);
                boolean isMany = coin();
                line.append("head").append(blank()).append(name).append(isMany ? " many" : " single");
                heads.add(new ArrayList<>());
                many.add(isMany);
            } else if (what <= 4) {
                String name = name();
                List<String> latest = heads.get(heads.size() - 1);
                if ((told.contains(name) || values == 20) && chance(99)) {
                    continue;
                }
                line.append("value").append(blank()).append(name);
                if (!latest.isEmpty() && chance(40)) {
                    line.append(" in ").append(latest.get(random.nextInt(latest.size())));
                }
                told.add(name);
                latest.add(name);
                values++;
            } else {
                int number = chance(1) ? upTo(999) : dense ? upTo(50) : upTo(255);
                if (!there.add(number) && chance(99)) {
                    continue;
                }
                line.append("record").append(blank()).append(number).append(blank()).append(coin() ? upTo(3) : upTo(999));
                for (int h = 0; h < heads.size(); h++) {
                    List<String> names = new ArrayList<>(heads.get(h));
                    java.util.Collections.shuffle(names, random);
                    int tags = many.get(h) || chance(1) ? upTo(3) : upTo(1);
                    for (int i = 0; i < Math.min(tags, names.size()); i++) {
                        line.append(blank()).append(names.get(i));
                    }
                }
            }
            line.append(chance(95) ? ";" : " ; ");
            if (text.length() + line.length() > 600) {
                break;
            }
            text.append(line);
        }
        return text.toString();
    }

    private String someName() {
        if (m.w.values.isEmpty() || chance(2)) {
            return chance(50) || m.w.heads.isEmpty() ? name() : m.w.heads.get(upTo(m.w.heads.size() - 1)).name;
        }
        return chance(10) ? "all" : m.w.values.get(upTo(m.w.values.size() - 1)).name;
    }

    private String someQuestion(int depth) {
        StringBuilder text = new StringBuilder();
        int facts = chance(3) ? 28 + upTo(5) : 1 + upTo(3);
        for (int i = 0; i < facts; i++) {
            if (i > 0) {
                text.append(new String[] {" and ", " or ", " less "}[upTo(2)]);
            }
            if (chance(25) && depth < 8) {
                text.append('[').append(someQuestion(depth + 1)).append(']');
            } else {
                text.append(someName());
            }
        }
        if (depth == 0 && chance(8)) {
            int deep = 4 + upTo(4);
            return "[".repeat(deep) + text + "]".repeat(deep);
        }
        return text.toString();
    }

    /** Now and then a byte or a word is put in, taken out, or put for another. */
    private String spoiled(String text, int percent) {
        StringBuilder spoilt = new StringBuilder(text);
        for (int i = 0; i < 2 && chance(percent); i++) {
            int at = upTo(spoilt.length());
            String[] pieces = {" ", "", "x", "ab", ";", "[", "]", "7", "1234", " in ", " all ", " head ", "A", "\n", "\t",
                " many", "abcdefghi", "\u0000", "\u00ff", " 300 ", " and ", "\u00e1"};
            if (coin() && at < spoilt.length()) {
                spoilt.deleteCharAt(at);
            }
            spoilt.insert(at, pieces[upTo(pieces.length - 1)]);
        }
        return chance(percent / 3) ? spoilt.substring(0, upTo(spoilt.length())) : spoilt.toString();
    }

    private void tell(String text) {
        for (int at = 0; at < text.length(); at += 20) {
            int[] n = new int[5];
            for (int i = 0; i < 20; i++) {
                n[i / 4] = n[i / 4] << 8 | (at + i < text.length() ? text.charAt(at + i) : ' ');
            }
            due("feed" + Arrays.toString(n), x.feed(n[0], n[1], n[2], n[3], n[4]), m.feed(n));
        }
        int length = Math.min(600, text.length());
        due("end(" + length + ")", x.end(length), m.end(length));
    }

    private void tellScheme() {
        due("end(0)", x.end(0), m.end(0));
        String text = spoiled(someScheme(), 12);
        tell(text);
        due("scheme() of " + text, x.scheme(), m.scheme());
        askFault();
    }

    private void tellQuestion() {
        due("end(0)", x.end(0), m.end(0));
        String text = spoiled(someQuestion(0), 10);
        tell(text.length() > 600 ? text.substring(0, 600) : text);
        if (chance(20)) {
            int k = some(2);
            due("image(" + k + ")", x.image(k), m.image(k));
        }
        due("ask() of " + text, x.ask(), m.ask());
        askFault();
        for (int what = 0; what < 3; what++) {
            due("asked(" + what + ")", x.asked(what), m.asked(what));
        }
        int what = 10 + some(8);
        due("asked(" + what + ")", x.asked(what), m.asked(what));
    }

    private void askFault() {
        due("fault(0)", x.fault(0), m.fault(0));
        due("fault(1)", x.fault(1), m.fault(1));
    }

    private void act() {
        int r = someRecord();
        int v = someValue();
        int n = chance(50) ? some(3) : some(999);
        switch (upTo(9)) {
            case 0 -> due("add(" + r + ", " + n + ")", x.add(r, n), m.add(r, n));
            case 1 -> due("drop(" + r + ")", x.drop(r), m.drop(r));
            case 2, 3, 4 -> due("tag(" + r + ", " + v + ")", x.tag(r, v), m.tag(r, v));
            case 5 -> due("untag(" + r + ", " + v + ")", x.untag(r, v), m.untag(r, v));
            case 6 -> due("rank(" + r + ", " + n + ")", x.rank(r, n), m.rank(r, n));
            case 7, 8 -> {
                int how = some(2);
                due("choose(" + v + ", " + how + ")", x.choose(v, how), m.choose(v, how));
            }
            default -> {
                int h = someHead();
                boolean all = coin();
                due("go(" + h + ", " + all + ")", x.go(h, all), m.go(h, all));
            }
        }
        if (chance(40)) {
            int level = some(1);
            int what = some(1);
            due("why(" + level + ", " + what + ")", x.why(level, what), m.why(level, what));
        }
    }

    private void look() {
        int what = some(15);
        int r = someRecord();
        int v = someValue();
        int o = someValue();
        int k = chance(70) ? some(3) : some(30);
        boolean flag = coin();
        switch (upTo(14)) {
            case 0, 1 -> due("count(" + what + ")", x.count(what), m.count(what));
            case 2 -> due("head(" + o + ", " + what + ")", x.head(o, what), m.head(o, what));
            case 3, 4 -> due("value(" + v + ", " + what + ")", x.value(v, what), m.value(v, what));
            case 5 -> {
                int block = some(dense ? 2 : 7);
                int w = some(4);
                due("box(" + v + ", " + block + ", " + w + ")", x.box(v, block, w), m.box(v, block, w));
            }
            case 6 -> due("record(" + r + ", " + what + ")", x.record(r, what), m.record(r, what));
            case 7 -> due("has(" + r + ", " + v + ")", x.has(r, v), m.has(r, v));
            case 8 -> due("left(" + k + ", " + flag + ")", x.left(k, flag), m.left(k, flag));
            case 9 -> due("told(" + k + ", " + flag + ")", x.told(k, flag), m.told(k, flag));
            case 10 -> {
                int w = some(6);
                due("both(" + v + ", " + o + ", " + w + ")", x.both(v, o, w), m.both(v, o, w));
            }
            case 11 -> due("alike(" + v + ")", x.alike(v), m.alike(v));
            case 12 -> {
                int at = upTo(4) - 1;
                due("named(" + r + ", " + at + ")", x.named(r, at), m.named(r, at));
            }
            case 13 -> due("likes(" + r + ")", x.likes(r), m.likes(r));
            default -> {
                int many = chance(80) ? some(5) : some(20);
                due("spread(" + many + ")", x.spread(many), m.spread(many));
            }
        }
    }

    private void rarely() {
        int k = some(2);
        switch (upTo(8)) {
            case 8 -> {
                due("ask() as the tape is", x.ask(), m.ask());
                askFault();
            }
            case 0 -> due("image(" + k + ")", x.image(k), m.image(k));
            case 1 -> due("again(" + k + ")", x.again(k), m.again(k));
            case 2 -> due("asked(" + k + ")", x.asked(k), m.asked(k));
            case 3 -> {
                due("fault(" + k + ")", x.fault(k), m.fault(k));
                int n = some(40);
                due("end(" + n + ")", x.end(n), m.end(n));
            }
            case 4 -> {
                int[] n = {random.nextInt(), random.nextInt(), random.nextInt(), random.nextInt(), random.nextInt()};
                due("feed" + Arrays.toString(n), x.feed(n[0], n[1], n[2], n[3], n[4]), m.feed(n));
            }
            default -> due("undo()", x.undo(), m.undo());
        }
    }

    private void runAll() {
        int schemes = chance(90) ? 1 : 5;
        for (int i = 0; i < 4 && (i < schemes || m.w.heads.isEmpty()); i++) {
            tellScheme();
        }
        while (calls < CALLS - 45) {
            int what = upTo(99);
            if (what < 45) {
                look();
            } else if (what < 85) {
                act();
            } else if (what < 93) {
                rarely();
            } else if (what < 99) {
                tellQuestion();
            } else if (chance(20)) {
                tellScheme();
            }
        }
    }

    public static void main(String[] args) {
        int runs = args.length > 0 ? Integer.parseInt(args[0]) : RUNS;
        int faults = 0;
        for (int run = 0; run < runs && wrong < 20; run++) {
            ModelTest test = new ModelTest(run);
            test.runAll();
            faults += test.m.w.values.isEmpty() ? 1 : 0;
        }
        System.out.println(answers + " answers of " + runs + " runs looked at (" + faults + " runs without a value), "
            + wrong + " wrong");
        if (wrong != 0 || answers == 0) {
            System.exit(1);
        }
    }
}

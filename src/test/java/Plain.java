import java.util.ArrayList;
import java.util.Collections;
import java.util.IdentityHashMap;
import java.util.List;
import java.util.Set;

/**
 * The document once more, as plainly as it can be written: trees of objects, and rows that are
 * laid out anew for each question. The random runs compare SegmentYard with it.
 */
final class Plain {
    static final class Type {
        int number, database, keys, rule, coming, going;
        Type up, target;

        int level() {
            return up == null ? 1 : up.level() + 1;
        }

        boolean isBelow(Type other) {
            return up != null && (up == other || up.isBelow(other));
        }
    }

    static final class Segment {
        Type type;
        Segment up;
        int[] fields = new int[3];
        List<Segment> children = new ArrayList<>();

        boolean isBelow(Segment other) {
            return up != null && (up == other || up.isBelow(other));
        }

        Segment upTo(Type wanted) {
            return type == wanted ? this : up == null ? null : up.upTo(wanted);
        }
    }

    static final class Condition {
        boolean isOr;
        int field, comparison, number;

        boolean isMet(Segment s) {
            int n = s.fields[field];
            return switch (comparison) {
                case 0 -> n == number;
                case 1 -> n != number;
                case 2 -> n < number;
                case 3 -> n <= number;
                case 4 -> n > number;
                default -> n >= number;
            };
        }
    }

    static final class Argument {
        Type type;
        int codes;
        List<Condition> conditions = new ArrayList<>();

        boolean has(int code) {
            return (codes & code) == code;
        }

        boolean isFulfilled(Segment s) {
            if (conditions.isEmpty()) {
                return true;
            }
            List<List<Condition>> parts = new ArrayList<>();
            for (Condition c : conditions) {
                if (parts.isEmpty() || c.isOr) {
                    parts.add(new ArrayList<>());
                }
                parts.get(parts.size() - 1).add(c);
            }
            return parts.stream().anyMatch(part -> part.stream().allMatch(c -> c.isMet(s)));
        }
    }

    static final class View {
        int database, set;
        Segment at, aheadOf, parent;
        boolean isBehindAll;
        List<Segment> held = new ArrayList<>();
        List<Boolean> kept = new ArrayList<>();

        void place(Segment newAt, Segment newAheadOf, boolean behind) {
            at = newAt;
            aheadOf = newAheadOf;
            isBehindAll = behind;
        }

        void release() {
            held = new ArrayList<>();
            kept = new ArrayList<>();
        }
    }

    final List<Type> types = new ArrayList<>();
    final List<List<Segment>> roots = List.of(new ArrayList<>(), new ArrayList<>(), new ArrayList<>());
    final List<View> views = List.of(new View(), new View(), new View(), new View());
    List<Argument> list = new ArrayList<>();
    final int[][] area = new int[4][3];

    static void index(boolean good) {
        if (!good) throw new IndexOutOfBoundsException();
    }

    static void range(boolean good) {
        if (!good) throw new IllegalArgumentException();
    }

    static void state(boolean good) {
        if (!good) throw new IllegalStateException();
    }

    static boolean in(int n, int low, int high) {
        return low <= n && n <= high;
    }

    // ---- rows

    List<Segment> row(int database) {
        List<Segment> row = new ArrayList<>();
        for (Segment root : roots.get(database)) lay(root, row);
        return row;
    }

    private void lay(Segment s, List<Segment> row) {
        row.add(s);
        for (Type t : types) {
            for (Segment child : s.children) {
                if (child.type == t) lay(child, row);
            }
        }
    }

    List<Segment> everything() {
        List<Segment> all = new ArrayList<>();
        for (int d = 0; d < 3; d++) all.addAll(row(d));
        return all;
    }

    List<Segment> siblings(Type type, Segment up) {
        return up == null ? roots.get(type.database) : up.children;
    }

    List<Segment> twins(Type type, Segment up) {
        List<Segment> twins = new ArrayList<>();
        for (Segment s : siblings(type, up)) {
            if (s.type == type) twins.add(s);
        }
        return twins;
    }

    Segment root(Type type, int key) {
        for (Segment s : roots.get(type.database)) {
            if (s.fields[0] == key) return s;
        }
        return null;
    }

    Segment second(Segment s) {
        return s.type.target == null ? null : root(s.type.target, s.fields[2]);
    }

    // ---- types, views, arguments, area

    int type(int database, int parent, int keys, int rule) {
        index(in(database, 0, 2) && in(parent, -1, types.size() - 1));
        Type up = parent == -1 ? null : types.get(parent);
        range(up == null || up.database == database);
        range(in(keys, 0, 2) && in(rule, 0, 2) && (up != null || keys == 0));
        state(row(database).isEmpty());
        if (up == null) {
            for (Type t : types) state(t.database != database);
        }
        state((up == null || up.level() < 4) && types.size() < 12);
        Type t = new Type();
        t.number = types.size();
        t.database = database;
        t.up = up;
        t.keys = keys;
        t.rule = rule;
        types.add(t);
        return t.number;
    }

    void tie(int type, int root, int coming, int going) {
        index(in(type, 0, types.size() - 1) && in(root, 0, types.size() - 1));
        Type t = types.get(type);
        Type r = types.get(root);
        range(t.up != null && r.up == null && in(coming, 0, 1) && in(going, 0, 2));
        state(row(t.database).isEmpty() && t.target == null);
        t.target = r;
        t.coming = coming;
        t.going = going;
    }

    void open(int view, int database, int set) {
        index(in(view, 0, 3) && in(database, 0, 2));
        range(in(set, 0, 4095));
        View v = views.get(view);
        v.database = database;
        v.set = set;
        v.parent = null;
        v.place(null, null, false);
        v.release();
    }

    int argument(int type, int codes) {
        index(in(type, 0, types.size() - 1));
        range(in(codes, 0, 63));
        state(list.size() < 4);
        Argument a = new Argument();
        a.type = types.get(type);
        a.codes = codes;
        list.add(a);
        return list.size();
    }

    int condition(boolean isOr, int field, int comparison, int number) {
        index(in(field, 0, 2));
        range(in(comparison, 0, 5) && in(number, 0, 999));
        state(!list.isEmpty());
        List<Condition> conditions = list.get(list.size() - 1).conditions;
        state(conditions.size() < 3);
        Condition c = new Condition();
        c.isOr = isOr;
        c.field = field;
        c.comparison = comparison;
        c.number = number;
        conditions.add(c);
        return conditions.size();
    }

    int clear() {
        int n = list.size();
        list = new ArrayList<>();
        return n;
    }

    int put(int slot, int field, int number) {
        index(in(slot, 0, 3) && in(field, 0, 2));
        range(in(number, 0, 999));
        int before = area[slot][field];
        area[slot][field] = number;
        return before;
    }

    int area(int slot, int field) {
        index(in(slot, 0, 3) && in(field, 0, 2));
        return area[slot][field];
    }

    // ---- getting

    boolean sees(View v, Type t) {
        return t.database == v.database && (v.set & 1 << t.number) != 0 && (t.up == null || sees(v, t.up));
    }

    boolean isInOrder(View v) {
        for (int i = 0; i < list.size(); i++) {
            if (!sees(v, list.get(i).type)) return false;
            if (i > 0 && !list.get(i).type.isBelow(list.get(i - 1).type)) return false;
        }
        return true;
    }

    boolean isRight(View v, Segment s, List<Argument> arguments) {
        if (!sees(v, s.type)) return false;
        if (!arguments.isEmpty() && arguments.get(arguments.size() - 1).type != s.type) return false;
        for (Argument a : arguments) {
            Segment one = s.upTo(a.type);
            if (!a.isFulfilled(one)) return false;
            List<Segment> twins = twins(one.type, one.up);
            int lies = twins.indexOf(one);
            if (a.has(2) && twins.subList(0, lies).stream().anyMatch(a::isFulfilled)) return false;
            if (a.has(4) && twins.subList(lies + 1, twins.size()).stream().anyMatch(a::isFulfilled)) return false;
            if (a.has(8) && (v.at == null || (v.at != one && !v.at.isBelow(one)))) return false;
        }
        return true;
    }

    int get(int view, int how, boolean isHold) {
        index(in(view, 0, 3));
        range(in(how, 0, 2));
        View v = views.get(view);
        List<Argument> arguments = list;
        v.release();
        boolean isGood = isInOrder(v);
        clear();
        if (!isGood) return 4;
        if (how == 2 && v.parent == null) return 5;
        List<Segment> row = row(v.database);
        int start = 0;
        if (how != 0) {
            start = ahead(view) + (v.at != null ? 1 : 0);
        }
        for (Segment s : row.subList(start, row.size())) {
            if (how == 2 && !s.isBelow(v.parent)) continue;
            if (!isRight(v, s, arguments)) continue;
            return got(v, s, arguments, how, isHold);
        }
        if (how == 1 && arguments.isEmpty()) {
            v.place(null, null, false);
            return 3;
        }
        return 7;
    }

    private int got(View v, Segment s, List<Argument> arguments, int how, boolean isHold) {
        int status = 0;
        if (arguments.isEmpty() && how != 0 && v.at != null) {
            if (s.type.level() < v.at.type.level()) status = 1;
            else if (s.type.level() == v.at.type.level() && s.type != v.at.type) status = 2;
        }
        List<Segment> path = new ArrayList<>();
        List<Boolean> kept = new ArrayList<>();
        Segment parentage = s;
        for (int i = 0; i < arguments.size(); i++) {
            Argument a = arguments.get(i);
            if (a.has(16)) parentage = s.upTo(a.type);
            if (a.has(1) || i == arguments.size() - 1) {
                path.add(s.upTo(a.type));
                kept.add(a.has(32));
            }
        }
        if (arguments.isEmpty()) {
            path.add(s);
            kept.add(false);
        }
        for (int i = 0; i < path.size(); i++) area[i] = path.get(i).fields.clone();
        if (isHold) {
            v.held = path;
            v.kept = kept;
        }
        if (how != 2) v.parent = parentage;
        v.place(s, null, false);
        return status;
    }

    // ---- inserting

    int insert(int view) {
        index(in(view, 0, 3));
        View v = views.get(view);
        List<Argument> arguments = list;
        v.release();
        boolean isGood = isInOrder(v) && !arguments.isEmpty();
        clear();
        if (!isGood) return 4;
        int first = arguments.size() - 1;
        for (int i = arguments.size() - 1; i >= 0; i--) {
            if (arguments.get(i).has(1)) first = i;
        }
        List<Argument> news = arguments.subList(first, arguments.size());
        List<Argument> leads = arguments.subList(0, first);
        for (int i = 0; i < news.size(); i++) {
            Argument a = news.get(i);
            if (!a.conditions.isEmpty()) return 4;
            if (i > 0 && a.type.up != news.get(i - 1).type) return 4;
        }
        if (first > 0 && news.get(0).type.up != leads.get(first - 1).type) return 4;
        Type type = news.get(0).type;
        Segment up = null;
        if (first > 0) {
            for (Segment s : row(v.database)) {
                if (up == null && isRight(v, s, leads)) up = s;
            }
        } else if (type.up != null && v.at != null) {
            up = v.at.upTo(type.up);
        }
        if (up == null && type.up != null) return 7;
        if (type.keys == 0) {
            for (Segment twin : twins(type, up)) {
                if (twin.fields[0] == area[0][0]) return 9;
            }
        }
        List<int[]> made = new ArrayList<>();
        boolean isMissing = false;
        for (int i = 0; i < news.size(); i++) {
            Type t = news.get(i).type;
            if (t.target == null || (t.target == type && area[0][0] == area[i][2])) continue;
            isMissing |= !look(t, area[i][2], made);
        }
        if (isMissing) return 10;
        if (everything().size() + made.size() + news.size() > 60) return 11;
        makeAll(made);
        Segment added = up;
        Segment here = v.at;
        for (int i = 0; i < news.size(); i++) added = add(news.get(i).type, added, area[i], here);
        v.place(added, null, false);
        v.parent = added;
        return 0;
    }

    /** False, if a root is missing that is not made. */
    private boolean look(Type t, int key, List<int[]> made) {
        if (t.target == null || root(t.target, key) != null) return true;
        if (t.coming == 0) return false;
        for (int[] one : made) {
            if (one[0] == t.target.number && one[1] == key) return true;
        }
        made.add(new int[] {t.target.number, key});
        return true;
    }

    private void makeAll(List<int[]> made) {
        for (int[] one : made) add(types.get(one[0]), null, new int[] {one[1], 0, 0}, null);
    }

    private Segment add(Type t, Segment up, int[] fields, Segment here) {
        Segment s = new Segment();
        s.type = t;
        s.up = up;
        s.fields = fields.clone();
        List<Segment> twins = twins(t, up);
        int low = 0;
        int high = twins.size();
        if (t.keys != 2) {
            low = (int) twins.stream().filter(x -> x.fields[0] < s.fields[0]).count();
            high = (int) twins.stream().filter(x -> x.fields[0] <= s.fields[0]).count();
        }
        int lies = t.rule == 1 ? high : low;
        if (t.rule == 2) {
            int found = twins.indexOf(here);
            if (found >= low && found < high) lies = found;
        }
        List<Segment> siblings = siblings(t, up);
        siblings.add(lies == twins.size() ? siblings.size() : siblings.indexOf(twins.get(lies)), s);
        return s;
    }

    // ---- replacing and deleting

    int replace(int view) {
        index(in(view, 0, 3));
        View v = views.get(view);
        List<Segment> held = v.held;
        List<Boolean> kept = v.kept;
        v.release();
        clear();
        if (held.isEmpty()) return 6;
        List<int[]> made = new ArrayList<>();
        boolean isMissing = false;
        for (int i = 0; i < held.size(); i++) {
            Segment s = held.get(i);
            if (kept.get(i)) continue;
            if (s.type.keys != 2 && s.fields[0] != area[i][0]) return 8;
            if (s.fields[2] != area[i][2]) isMissing |= !look(s.type, area[i][2], made);
        }
        if (isMissing) return 10;
        if (everything().size() + made.size() > 60) return 11;
        makeAll(made);
        for (int i = 0; i < held.size(); i++) {
            if (!kept.get(i)) held.get(i).fields = area[i].clone();
        }
        return 0;
    }

    int delete(int view) {
        index(in(view, 0, 3));
        View v = views.get(view);
        List<Segment> held = v.held;
        v.release();
        clear();
        if (held.isEmpty()) return 6;
        Segment got = held.get(held.size() - 1);
        List<Segment> all = everything();
        Set<Segment> gone = Collections.newSetFromMap(new IdentityHashMap<>());
        for (Segment s : all) {
            if (s == got || s.isBelow(got)) gone.add(s);
            if (second(s) == got && s.type.going == 2) {
                for (Segment below : all) {
                    if (below == s || below.isBelow(s)) gone.add(below);
                }
            }
        }
        for (Segment s : all) {
            if (second(s) == got && s.type.going == 0 && !gone.contains(s)) return 12;
        }
        for (View other : views) leave(other, gone);
        for (Segment s : gone) siblings(s.type, s.up).remove(s);
        return 0;
    }

    private void leave(View v, Set<Segment> gone) {
        Segment mark = v.at != null ? v.at : v.aheadOf;
        if (mark != null && gone.contains(mark)) {
            List<Segment> row = row(v.database);
            Segment next = null;
            for (int i = row.size() - 1; i > row.indexOf(mark); i--) {
                if (!gone.contains(row.get(i))) next = row.get(i);
            }
            v.place(null, next, next == null);
        }
        if (gone.contains(v.parent)) v.parent = null;
        if (v.held.stream().anyMatch(gone::contains)) v.release();
    }

    // ---- what there is

    int types() {
        return types.size();
    }

    int count(int database) {
        index(in(database, 0, 2));
        return row(database).size();
    }

    int rowAt(int database, int place) {
        index(in(database, 0, 2) && in(place, 0, row(database).size() - 1));
        Segment s = row(database).get(place);
        return 1000 * s.type.number + s.fields[0];
    }

    int fieldAt(int database, int place, int field) {
        index(in(database, 0, 2) && in(place, 0, row(database).size() - 1) && in(field, 0, 2));
        return row(database).get(place).fields[field];
    }

    int at(int view) {
        index(in(view, 0, 3));
        View v = views.get(view);
        return v.at == null ? -1 : row(v.database).indexOf(v.at);
    }

    int ahead(int view) {
        index(in(view, 0, 3));
        View v = views.get(view);
        List<Segment> row = row(v.database);
        if (v.isBehindAll) return row.size();
        return v.at != null ? row.indexOf(v.at) : v.aheadOf != null ? row.indexOf(v.aheadOf) : 0;
    }

    int parent(int view) {
        index(in(view, 0, 3));
        View v = views.get(view);
        return v.parent == null ? -1 : row(v.database).indexOf(v.parent);
    }

    int holds(int view) {
        index(in(view, 0, 3));
        return views.get(view).held.size();
    }

    long keys(int view) {
        index(in(view, 0, 3));
        Segment s = views.get(view).at;
        return s == null ? -1 : keysTo(s);
    }

    private long keysTo(Segment s) {
        return (s.up == null ? 0 : keysTo(s.up) * 1000) + s.fields[0];
    }

    int second(int view) {
        index(in(view, 0, 3));
        Segment s = views.get(view).at;
        Segment root = s == null ? null : second(s);
        return root == null ? -1 : row(root.type.database).indexOf(root);
    }

    int tied(int view) {
        index(in(view, 0, 3));
        Segment s = views.get(view).at;
        return s == null ? 0 : (int) everything().stream().filter(x -> second(x) == s).count();
    }
}

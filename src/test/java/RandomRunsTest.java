import java.util.ArrayList;
import java.util.List;

/** Long runs of calls, the same ones each time, on a SegmentYard and on the plain model beside it. */
public final class RandomRunsTest {
    private static final int RUNS = 100, CALLS = 500;

    private static long seed;
    private static SegmentYard yard;
    private static Plain plain;
    private static int most;
    private static final List<String> told = new ArrayList<>();
    private static final int[][] statuses = new int[4][13];

    public static void main(String[] args) {
        for (int run = 0; run < RUNS && Due.isAllRight(); run++) {
            Due.part("random run " + run);
            seed = 7919L * run + 11;
            play(run);
        }
        if (!Due.isAllRight()) {
            told.subList(Math.max(0, told.size() - 25), told.size()).forEach(System.out::println);
        }
        Due.part("what the random runs meet");
        int[][] due = {{0, 1, 2, 3, 4, 5, 7}, {0, 4, 7, 9, 10, 11}, {0, 6, 8, 10, 11}, {0, 6, 12}};
        for (int call = 0; call < due.length; call++) {
            for (int status : due[call]) {
                Due.isTrue("status " + status + " of call " + call, statuses[call][status] > 5);
            }
        }
        Due.end();
    }

    private static void play(int run) {
        yard = new SegmentYard();
        plain = new Plain();
        told.clear();
        most = run % 3 == 0 ? 3 : run % 3 == 1 ? 8 : 40;
        defineTypes();
        for (int view = 0; view < 4; view++) {
            openOne(view);
        }
        for (int call = 0; call < CALLS && Due.isAllRight(); call++) {
            step(run);
            compareAll();
        }
    }

    /** A number from 0 on below the end. */
    private static int any(int end) {
        seed = seed * 6364136223846793005L + 1442695040888963407L;
        return (int) ((seed >>> 33) % end);
    }

    private static boolean isOneOf(int number) {
        return any(number) == 0;
    }

    /** Does the same call on both, compares what comes of it, and answers the status, or NONE if it throws. */
    private static long both(String call, Due.Call one, Due.Call other) {
        told.add(call);
        long[] answers = {-99, -99};
        int thrown = Due.thrown(() -> answers[0] = one.answer());
        int due = Due.thrown(() -> answers[1] = other.answer());
        Due.is(call + " throws", due, thrown);
        Due.is(call, answers[1], answers[0]);
        return answers[0];
    }

    private static void defineTypes() {
        int databases = 1 + any(3);
        for (int i = 0; i < databases; i++) {
            defineType(i, -1);
        }
        int more = 2 + any(9);
        for (int i = 0; i < more; i++) {
            int parent = any(plain.types());
            defineType(plain.types.get(parent).database, parent);
        }
        for (int i = 0; i < plain.types(); i++) {
            if (!isOneOf(3)) {
                tieOne(i, any(plain.types()));
                tieOne(i, any(databases));
            }
        }
    }

    private static void defineType(int database, int parent) {
        int keys = parent == -1 && plain.types() < 3 ? 0 : any(3);
        int rule = any(3);
        both("type(" + database + ", " + parent + ", " + keys + ", " + rule + ")",
            () -> yard.type(database, parent, keys, rule), () -> plain.type(database, parent, keys, rule));
    }

    private static void tieOne(int type, int root) {
        int coming = any(2);
        int going = any(3);
        both("tie(" + type + ", " + root + ", " + coming + ", " + going + ")", () -> {
            yard.tie(type, root, coming, going);
            return 0;
        }, () -> {
            plain.tie(type, root, coming, going);
            return 0;
        });
    }

    private static void openOne(int view) {
        int database = isOneOf(12) ? any(3) : plain.types.get(any(plain.types())).database;
        int set = isOneOf(4) ? any(4096) | any(4096) : 4095;
        both("open(" + view + ", " + database + ", " + set + ")", () -> {
            yard.open(view, database, set);
            return 0;
        }, () -> {
            plain.open(view, database, set);
            return 0;
        });
    }

    private static void step(int run) {
        int what = any(100);
        boolean isFilling = run % 4 == 0;
        int growth = isFilling ? 55 : 35;
        if (what < growth) {
            insertOne();
        } else if (what < 78) {
            getOne(isOneOf(3));
        } else if (what < 88) {
            getOne(true);
            putSome();
            replaceOne();
        } else if (what < 93 && isFilling && !isOneOf(8)) {
            getOne(true);
            putOne(any(2), 2, any(1000));
            putOne(any(2), 2, any(1000));
            replaceOne();
        } else if (what < 91) {
            getOne(true);
            deleteOne();
        } else if (what < 93) {
            replaceOne();
            deleteOne();
        } else if (what < 95) {
            openOne(any(4));
        } else if (what < 97) {
            both("clear()", () -> yard.clear(), () -> plain.clear());
            defineType(any(3), any(plain.types() + 1) - 1);
            tieOne(any(plain.types()), any(plain.types()));
        } else {
            wrongOne();
        }
    }

    private static void putOne(int slot, int field, int number) {
        both("put(" + slot + ", " + field + ", " + number + ")",
            () -> yard.put(slot, field, number), () -> plain.put(slot, field, number));
    }

    private static void putSome() {
        int puts = any(6);
        for (int i = 0; i < puts; i++) {
            putOne(any(4), isOneOf(8) ? 0 : 1 + any(2), any(most));
        }
    }

    private static void listOne(int type, int codes) {
        both("argument(" + type + ", " + codes + ")", () -> yard.argument(type, codes), () -> plain.argument(type, codes));
    }

    private static void conditions(int number) {
        for (int i = 0; i < number; i++) {
            boolean isOr = isOneOf(2);
            int field = any(3);
            int comparison = any(6);
            int other = any(most);
            both("condition(" + isOr + ", " + field + ", " + comparison + ", " + other + ")",
                () -> yard.condition(isOr, field, comparison, other), () -> plain.condition(isOr, field, comparison, other));
        }
    }

    private static int anyCodes() {
        return isOneOf(3) ? any(64) : isOneOf(2) ? 1 << any(6) : any(2) * 33;
    }

    /** Lists arguments down to some type of a view, now and then with gaps, or with a wrong one. */
    private static void listPath(int view, boolean isInsert) {
        List<Plain.Type> seen = new ArrayList<>();
        for (Plain.Type t : plain.types) {
            if (plain.sees(plain.views.get(view), t)) seen.add(t);
        }
        if (seen.isEmpty() || isOneOf(25)) {
            listOne(any(plain.types()), anyCodes());
            return;
        }
        List<Plain.Type> path = new ArrayList<>();
        for (Plain.Type t = seen.get(any(seen.size())); t != null; t = t.up) path.add(0, t);
        int start = isOneOf(2) ? any(path.size()) : 0;
        int firstNew = isInsert ? any(path.size() + 1) : path.size();
        for (int i = start; i < path.size(); i++) {
            boolean isNew = i >= firstNew || isInsert && i == path.size() - 1;
            if (i < path.size() - 1 && isOneOf(isNew ? 30 : 6)) continue;
            listOne(path.get(i).number, isNew ? anyCodes() | 1 : isInsert ? anyCodes() & 62 : anyCodes());
            conditions(isNew ? any(30) / 29 : isOneOf(3) ? any(4) : 0);
        }
    }

    private static void insertOne() {
        int view = any(4);
        int puts = any(7);
        for (int i = 0; i < puts; i++) {
            putOne(any(4), any(3), any(most));
        }
        if (!isOneOf(20)) {
            listPath(view, true);
        }
        long status = both("insert(" + view + ")", () -> yard.insert(view), () -> plain.insert(view));
        statuses[1][(int) Math.max(0, status)]++;
    }

    private static void getOne(boolean isHold) {
        int view = any(4);
        int how = any(3);
        if (isOneOf(2)) {
            listPath(view, false);
        }
        long status = both("get(" + view + ", " + how + ", " + isHold + ")",
            () -> yard.get(view, how, isHold), () -> plain.get(view, how, isHold));
        statuses[0][(int) Math.max(0, status)]++;
    }

    private static int holder() {
        for (int view = 0; view < 4; view++) {
            if (plain.holds(view) > 0 && !isOneOf(3)) return view;
        }
        return any(4);
    }

    private static void replaceOne() {
        int view = holder();
        long status = both("replace(" + view + ")", () -> yard.replace(view), () -> plain.replace(view));
        statuses[2][(int) Math.max(0, status)]++;
    }

    private static void deleteOne() {
        int view = holder();
        long status = both("delete(" + view + ")", () -> yard.delete(view), () -> plain.delete(view));
        statuses[3][(int) Math.max(0, status)]++;
    }

    /** A call with numbers that are often out of range. */
    private static void wrongOne() {
        int a = any(8) - 2;
        int b = any(8) - 2;
        int c = isOneOf(2) ? any(8) - 2 : any(2) * 1000;
        int d = any(4) * 1000 - 1000;
        int codes = any(5) * 32 - 32;
        boolean is = isOneOf(2);
        both("put(" + a + ", " + b + ", " + d + ")", () -> yard.put(a, b, d), () -> plain.put(a, b, d));
        both("area(" + a + ", " + b + ")", () -> yard.area(a, b), () -> plain.area(a, b));
        both("argument(" + a + ", " + codes + ")", () -> yard.argument(a, codes), () -> plain.argument(a, codes));
        both("condition(" + is + ", " + a + ", " + b + ", " + c + ")",
            () -> yard.condition(is, a, b, c), () -> plain.condition(is, a, b, c));
        both("get(" + a + ", " + b + ", " + is + ")", () -> yard.get(a, b, is), () -> plain.get(a, b, is));
        both("count(" + a + ")", () -> yard.count(a), () -> plain.count(a));
        both("rowAt(" + a + ", " + b + ")", () -> yard.rowAt(a, b), () -> plain.rowAt(a, b));
        both("rowAnew(" + a + ", " + b + ")", () -> yard.rowAnew(a, b), () -> plain.rowAt(a, b));
        both("fieldAt(" + a + ", " + b + ", " + c + ")", () -> yard.fieldAt(a, b, c), () -> plain.fieldAt(a, b, c));
        both("holds(" + a + ")", () -> yard.holds(a), () -> plain.holds(a));
        both("insert(" + a + ")", () -> yard.insert(a), () -> plain.insert(a));
        both("replace(" + a + ")", () -> yard.replace(a), () -> plain.replace(a));
        both("delete(" + a + ")", () -> yard.delete(a), () -> plain.delete(a));
    }

    private static void compareAll() {
        Due.is("types()", plain.types(), yard.types());
        for (int database = 0; database < 3; database++) {
            List<Plain.Segment> row = plain.row(database);
            Due.is("count(" + database + ")", row.size(), yard.count(database));
            for (int place = 0; place < Math.min(row.size(), yard.count(database)); place++) {
                Plain.Segment s = row.get(place);
                String where = "(" + database + ", " + place + ")";
                Due.is("rowAt" + where, 1000 * s.type.number + s.fields[0], yard.rowAt(database, place));
                Due.is("rowAnew" + where, 1000 * s.type.number + s.fields[0], yard.rowAnew(database, place));
                for (int field = 0; field < 3; field++) {
                    Due.is("fieldAt" + where + field, s.fields[field], yard.fieldAt(database, place, field));
                }
            }
        }
        for (int view = 0; view < 4; view++) {
            Due.is("at(" + view + ")", plain.at(view), yard.at(view));
            Due.is("ahead(" + view + ")", plain.ahead(view), yard.ahead(view));
            Due.is("parent(" + view + ")", plain.parent(view), yard.parent(view));
            Due.is("holds(" + view + ")", plain.holds(view), yard.holds(view));
            Due.is("keys(" + view + ")", plain.keys(view), yard.keys(view));
            Due.is("second(" + view + ")", plain.second(view), yard.second(view));
            Due.is("tied(" + view + ")", plain.tied(view), yard.tied(view));
            for (int field = 0; field < 3; field++) {
                Due.is("area(" + view + ", " + field + ")", plain.area(view, field), yard.area(view, field));
            }
        }
    }
}

/** A test for each promise: ordinary inputs, the edges that the document names, and wrong inputs. */
public final class PromisesTest extends Yards {
    private static final int[] NO_DATABASES = {LOW, -1, 3, HIGH};
    private static final int[] NO_VIEWS = {LOW, -1, 4, HIGH};
    private static final int[] NO_NUMBERS = {LOW, -1, 1000, HIGH};

    public static void main(String[] args) {
        newObject();
        type();
        tie();
        open();
        argument();
        condition();
        clear();
        putAndArea();
        getWays();
        getCodes();
        getStatuses();
        insertPaths();
        insertStatuses();
        twins();
        replace();
        delete();
        positions();
        tiedDeleting();
        tiedComing();
        full();
        rows();
        viewAnswers();
        Due.end();
    }

    // ---- promises

    private static void newObject() {
        Due.part("promise 1");
        SegmentYard x = new SegmentYard();
        Due.is("types()", 0, x.types());
        for (int database = 0; database < 3; database++) {
            Due.is("count()", 0, x.count(database));
        }
        for (int view = 0; view < 4; view++) {
            Due.is("at()", NONE, x.at(view));
            Due.is("ahead()", 0, x.ahead(view));
            Due.is("parent()", NONE, x.parent(view));
            Due.is("holds()", 0, x.holds(view));
            Due.is("keys()", NONE, x.keys(view));
            Due.is("second()", NONE, x.second(view));
            Due.is("tied()", 0, x.tied(view));
            for (int field = 0; field < 3; field++) {
                Due.is("area()", 0, x.area(view, field));
            }
        }
        Due.is("clear()", 0, x.clear());
        x.type(0, NONE, 0, 0);
        x.argument(0, 0);
        Due.is("a new view sees no types", SegmentYard.BAD, x.insert(0));
        x.open(1, 0, 1);
        Due.is("insert(1)", SegmentYard.OK, one(x, 1, 0, 5));
        Due.is("a new view sees no segments", SegmentYard.NOT_FOUND, x.get(0, SegmentYard.UNIQUE_GET, false));
        one(x, 1, 0, 4);
        one(x, 1, 0, 3);
        row(x, 0, 3, 4, 5);
        Due.is("a new view is ahead of all", 0, x.ahead(0));
        Due.is("and at none", NONE, x.at(0));
        Due.is("and has no parent", NONE, x.parent(0));
        Due.is("and sees none to get next", SegmentYard.END, x.get(0, SegmentYard.NEXT, false));
    }

    private static void type() {
        Due.part("promise 2");
        SegmentYard x = new SegmentYard();
        for (int database : NO_DATABASES) {
            Due.throwsIt("type of no database", Due.INDEX, () -> x.type(database, NONE, 9, 9));
        }
        for (int parent : new int[] {LOW, -2, 0, 12, HIGH}) {
            Due.throwsIt("type below no type", Due.INDEX, () -> x.type(0, parent, 9, 9));
        }
        for (int wrong : new int[] {LOW, -1, 3, HIGH}) {
            Due.throwsIt("type with wrong keys", Due.ARGUMENT, () -> x.type(0, NONE, wrong, 0));
            Due.throwsIt("type with a wrong rule", Due.ARGUMENT, () -> x.type(0, NONE, 0, wrong));
        }
        Due.throwsIt("root type MANY", Due.ARGUMENT, () -> x.type(0, NONE, SegmentYard.MANY, 0));
        Due.throwsIt("root type UNKEYED", Due.ARGUMENT, () -> x.type(0, NONE, SegmentYard.UNKEYED, 0));
        Due.is("no type was defined", 0, x.types());
        Due.is("root type of 1", 0, x.type(1, NONE, 0, 2));
        Due.throwsIt("parent of another database", Due.ARGUMENT, () -> x.type(0, 0, 0, 0));
        Due.throwsIt("a second root type", Due.STATE, () -> x.type(1, NONE, 0, 0));
        Due.throwsIt("wrong keys ahead of a second root type", Due.ARGUMENT, () -> x.type(1, NONE, 1, 0));
        Due.is("level 2", 1, x.type(1, 0, 1, 0));
        Due.is("level 3", 2, x.type(1, 1, 2, 0));
        Due.is("level 4", 3, x.type(1, 2, 0, 0));
        Due.throwsIt("level 5", Due.STATE, () -> x.type(1, 3, 0, 0));
        x.open(0, 1, 1);
        one(x, 0, 0, 1);
        Due.throwsIt("a type of a database with segments", Due.STATE, () -> x.type(1, 0, 0, 0));
        Due.is("a type of another database", 4, x.type(0, NONE, 0, 0));
        hold(x, 0, 0, 0, 1);
        x.delete(0);
        for (int type = 5; type < 12; type++) {
            Due.is("once the segments are gone", type, x.type(1, 0, 2, 2));
        }
        Due.is("types()", 12, x.types());
        Due.throwsIt("a thirteenth type", Due.STATE, () -> x.type(1, 0, 0, 0));
        Due.throwsIt("a thirteenth type below none", Due.INDEX, () -> x.type(1, 12, 0, 0));
        Due.is("types()", 12, x.types());
    }

    private static void tie() {
        Due.part("promise 3");
        SegmentYard x = yard();
        for (int wrong : new int[] {LOW, -1, 7, HIGH}) {
            Due.throwsIt("tie of no type", Due.INDEX, () -> x.tie(wrong, 5, 9, 9));
            Due.throwsIt("tie to no type", Due.INDEX, () -> x.tie(1, wrong, 9, 9));
        }
        Due.throwsIt("tie of a root type", Due.ARGUMENT, () -> x.tie(0, 5, 0, 0));
        Due.throwsIt("tie to a type that is no root type", Due.ARGUMENT, () -> x.tie(1, 6, 0, 0));
        for (int wrong : new int[] {LOW, -1, 3, HIGH}) {
            Due.throwsIt("tie with wrong going", Due.ARGUMENT, () -> x.tie(1, 5, 0, wrong));
        }
        for (int wrong : new int[] {LOW, -1, 2, HIGH}) {
            Due.throwsIt("tie with wrong coming", Due.ARGUMENT, () -> x.tie(1, 5, wrong, 0));
        }
        Due.is("tie", 0, Due.thrown(() -> x.tie(1, 5, SegmentYard.MUST, SegmentYard.BOUND)));
        Due.throwsIt("tied anew", Due.STATE, () -> x.tie(1, 0, 0, 0));
        Due.throwsIt("tied anew, wrongly", Due.ARGUMENT, () -> x.tie(1, 0, 2, 0));
        Due.is("tied to a root of its own database", 0, Due.thrown(() -> x.tie(3, 0, 1, 2)));
        one(x, 2, 5, 1);
        Due.is("the database of the root may have segments", 0, Due.thrown(() -> x.tie(2, 5, 0, 0)));
        Due.throwsIt("the database of the type may not", Due.STATE, () -> x.tie(6, 0, 0, 0));
    }

    private static void open() {
        Due.part("promise 4");
        SegmentYard x = filled();
        for (int view : NO_VIEWS) {
            Due.throwsIt("open of no view", Due.INDEX, () -> x.open(view, 0, -1));
        }
        for (int database : NO_DATABASES) {
            Due.throwsIt("open for no database", Due.INDEX, () -> x.open(0, database, -1));
        }
        for (int types : new int[] {LOW, -1, 4096, HIGH}) {
            Due.throwsIt("open for wrong types", Due.ARGUMENT, () -> x.open(0, 0, types));
        }
        hold(x, 0, 1, 0, 5);
        Due.throwsIt("open with a wrong set", Due.ARGUMENT, () -> x.open(0, 0, 4096));
        Due.is("nothing changed", 1, x.holds(0));
        x.argument(0, 0);
        x.open(0, 0, 4095);
        Due.is("at()", NONE, x.at(0));
        Due.is("ahead()", 0, x.ahead(0));
        Due.is("parent()", NONE, x.parent(0));
        Due.is("holds()", 0, x.holds(0));
        Due.is("the list stays", 1, x.clear());
        x.open(0, 0, 1 | 1 << 3 | 1 << 4 | 1 << 2);
        for (int place : new int[] {0, 5, 6}) {
            x.get(0, SegmentYard.NEXT, false);
            Due.is("seen without type 1, and without what is below that", place, x.at(0));
        }
        x.open(0, 0, 4094);
        Due.is("without the root type nothing is seen", SegmentYard.END, x.get(0, SegmentYard.NEXT, false));
        x.open(0, 1, 4095);
        x.argument(0, 0);
        Due.is("a type of another database", SegmentYard.BAD, x.get(0, SegmentYard.NEXT, false));
        x.open(0, 2, 0);
        Due.is("a database without types", SegmentYard.NOT_FOUND, x.get(0, SegmentYard.UNIQUE_GET, false));
    }

    private static void argument() {
        Due.part("promise 5");
        SegmentYard x = yard();
        for (int type : new int[] {LOW, -1, 7, 12, HIGH}) {
            Due.throwsIt("argument of no type", Due.INDEX, () -> x.argument(type, 64));
        }
        for (int codes : new int[] {LOW, -1, 64, HIGH}) {
            Due.throwsIt("argument with wrong codes", Due.ARGUMENT, () -> x.argument(0, codes));
        }
        for (int listed = 1; listed <= 4; listed++) {
            Due.is("argument", listed, x.argument(6, 63));
        }
        Due.throwsIt("a fifth argument", Due.STATE, () -> x.argument(0, 0));
        Due.throwsIt("a fifth argument with wrong codes", Due.ARGUMENT, () -> x.argument(0, 64));
        Due.throwsIt("a fifth argument of no type", Due.INDEX, () -> x.argument(7, 64));
        Due.is("clear()", 4, x.clear());
        Due.is("argument", 1, x.argument(0, 0));
        Due.is("a call empties the list", SegmentYard.NOT_FOUND, x.get(0, SegmentYard.UNIQUE_GET, false));
        Due.is("clear()", 0, x.clear());
        int[] statuses = {SegmentYard.BAD, SegmentYard.NOT_HELD, SegmentYard.NOT_HELD};
        for (int call = 0; call < 3; call++) {
            x.argument(6, 0);
            int status = call == 0 ? x.insert(0) : call == 1 ? x.replace(0) : x.delete(0);
            Due.is("call " + call, statuses[call], status);
            Due.is("the list behind call " + call, 0, x.clear());
        }
        x.argument(0, 0);
        Due.throwsIt("get of no view", Due.INDEX, () -> x.get(4, 0, false));
        Due.throwsIt("get in no way", Due.ARGUMENT, () -> x.get(0, 3, false));
        Due.is("a call that throws leaves the list", 1, x.clear());
        x.argument(0, 0);
        x.condition(false, 0, 0, 1);
        x.clear();
        Due.is("an argument is listed without conditions", 1, x.argument(0, 0));
        Due.is("its first condition", 1, x.condition(false, 0, 0, 1));
    }

    private static void condition() {
        Due.part("promise 6");
        SegmentYard x = filled();
        Due.throwsIt("condition without an argument", Due.STATE, () -> x.condition(false, 0, 0, 0));
        x.argument(0, 0);
        for (int field : new int[] {LOW, -1, 3, HIGH}) {
            Due.throwsIt("condition on no field", Due.INDEX, () -> x.condition(false, field, 6, -1));
        }
        for (int comparison : new int[] {LOW, -1, 6, HIGH}) {
            Due.throwsIt("condition with no comparison", Due.ARGUMENT, () -> x.condition(false, 0, comparison, 0));
        }
        for (int number : NO_NUMBERS) {
            Due.throwsIt("condition with a wrong number", Due.ARGUMENT, () -> x.condition(false, 0, 0, number));
        }
        for (int conditions = 1; conditions <= 3; conditions++) {
            Due.is("condition", conditions, x.condition(true, 2, 5, 999));
        }
        Due.throwsIt("a fourth condition", Due.STATE, () -> x.condition(false, 0, 0, 0));
        Due.is("the next argument has its own", 2, x.argument(1, 0));
        Due.is("condition", 1, x.condition(false, 0, 0, 0));
        x.clear();
        comparisons(x);
        joined(x);
    }

    /** Which of the roots with 10 and 20 fulfil a comparison with 10, 15 and 20: bits 1 and 2. */
    private static void comparisons(SegmentYard x) {
        int[][] due = {{1, 0, 2}, {2, 3, 1}, {0, 1, 1}, {1, 1, 3}, {2, 2, 0}, {3, 2, 2}};
        for (int comparison = 0; comparison < 6; comparison++) {
            for (int i = 0; i < 3; i++) {
                int set = 0;
                x.open(0, 0, 4095);
                for (int root = 0; root < 2; root++) {
                    x.argument(0, 0);
                    x.condition(false, 0, comparison, 10 + 5 * i);
                    if (x.get(0, SegmentYard.NEXT, false) == SegmentYard.OK) {
                        set |= x.area(0, 0) == 10 ? 1 : 2;
                    }
                }
                Due.is("comparison " + comparison + " with " + (10 + 5 * i), due[comparison][i], set);
            }
        }
    }

    /** true, false and so on: conditions on the key of root 10, joined by AND or OR. */
    private static void joined(SegmentYard x) {
        for (int mix = 0; mix < 32; mix++) {
            boolean a = (mix & 1) != 0;
            boolean b = (mix & 2) != 0;
            boolean c = (mix & 4) != 0;
            boolean isOrB = (mix & 8) != 0;
            boolean isOrC = (mix & 16) != 0;
            boolean due;
            if (isOrB) {
                due = isOrC ? a || b || c : a || b && c;
            } else {
                due = isOrC ? a && b || c : a && b && c;
            }
            x.argument(0, 0);
            x.condition(true, 0, a ? SegmentYard.SAME : SegmentYard.GREATER, a ? 10 : 500);
            x.condition(isOrB, 1, b ? SegmentYard.SAME : SegmentYard.GREATER, b ? 2 : 500);
            x.condition(isOrC, 2, c ? SegmentYard.SAME : SegmentYard.GREATER, c ? 0 : 500);
            int status = x.get(0, SegmentYard.UNIQUE_GET, false);
            boolean isFirst = status == SegmentYard.OK && x.at(0) == 0;
            Due.is("joined conditions " + mix, due ? 1 : 0, isFirst ? 1 : 0);
        }
    }

    private static void clear() {
        Due.part("promise 7");
        SegmentYard x = filled();
        Due.is("clear()", 0, x.clear());
        same(x, 0, 0, 0, 20);
        x.argument(1, 0);
        Due.is("clear()", 2, x.clear());
        Due.is("clear()", 0, x.clear());
        x.get(0, SegmentYard.UNIQUE_GET, true);
        Due.is("no argument is left", 0, x.at(0));
        x.clear();
        Due.is("what is held stays", 1, x.holds(0));
    }

    private static void putAndArea() {
        Due.part("promises 8 and 9");
        SegmentYard x = new SegmentYard();
        for (int slot = 0; slot < 4; slot++) {
            for (int field = 0; field < 3; field++) {
                Due.is("put", 0, x.put(slot, field, 100 * slot + field));
            }
        }
        for (int slot = 0; slot < 4; slot++) {
            for (int field = 0; field < 3; field++) {
                Due.is("area", 100 * slot + field, x.area(slot, field));
                Due.is("put", 100 * slot + field, x.put(slot, field, 999));
                Due.is("put", 999, x.put(slot, field, 0));
            }
        }
        for (int slot : NO_VIEWS) {
            Due.throwsIt("put in no slot", Due.INDEX, () -> x.put(slot, 0, -1));
            Due.throwsIt("area of no slot", Due.INDEX, () -> x.area(slot, 0));
        }
        for (int field : NO_DATABASES) {
            Due.throwsIt("put in no field", Due.INDEX, () -> x.put(0, field, -1));
            Due.throwsIt("area of no field", Due.INDEX, () -> x.area(0, field));
        }
        for (int number : NO_NUMBERS) {
            Due.throwsIt("put of a wrong number", Due.ARGUMENT, () -> x.put(3, 2, number));
        }
        Due.is("area", 0, x.area(3, 2));
    }

    private static void getWays() {
        Due.part("promise 10, ways");
        SegmentYard x = filled();
        row(x, 0, 10, 1005, 3007, 3002, 1006, 2001, 20);
        int[] statuses = {0, 0, 0, 0, SegmentYard.HIGHER, SegmentYard.OTHER, SegmentYard.HIGHER, SegmentYard.END, 0};
        for (int i = 0; i < statuses.length; i++) {
            Due.is("next " + i, statuses[i], x.get(0, SegmentYard.NEXT, false));
            Due.is("at " + i, i == 7 ? NONE : i == 8 ? 0 : i, x.at(0));
        }
        x.argument(3, 0);
        Due.is("next of a type", SegmentYard.OK, x.get(0, SegmentYard.NEXT, false));
        Due.is("at", 2, x.at(0));
        Due.is("area", 7, x.area(0, 0));
        Due.is("area", 4, x.area(0, 1));
        Due.is("it is the parent", 2, x.parent(0));
        x.argument(2, 0);
        Due.is("unique of a type", SegmentYard.OK, x.get(0, SegmentYard.UNIQUE_GET, false));
        Due.is("at", 5, x.at(0));
        x.argument(2, 0);
        Due.is("no next", SegmentYard.NOT_FOUND, x.get(0, SegmentYard.NEXT, false));
        Due.is("nothing changes", 5, x.at(0));
        Due.is("nothing changes", 5, x.parent(0));
        go(x, 0, 1, 0, 5);
        Due.is("within", SegmentYard.OK, x.get(0, SegmentYard.WITHIN, false));
        Due.is("the parent stays", 1, x.parent(0));
        Due.is("within", SegmentYard.OK, x.get(0, SegmentYard.WITHIN, false));
        Due.is("at", 3, x.at(0));
        Due.is("no more within", SegmentYard.NOT_FOUND, x.get(0, SegmentYard.WITHIN, true));
        Due.is("at", 3, x.at(0));
        Due.is("holds", 0, x.holds(0));
        go(x, 0, 0, 0, 10);
        x.get(0, SegmentYard.WITHIN, false);
        x.get(0, SegmentYard.WITHIN, false);
        x.get(0, SegmentYard.WITHIN, false);
        Due.is("higher within", SegmentYard.HIGHER, x.get(0, SegmentYard.WITHIN, false));
        Due.is("other within", SegmentYard.OTHER, x.get(0, SegmentYard.WITHIN, false));
        Due.is("the parent itself is not within", SegmentYard.NOT_FOUND, x.get(0, SegmentYard.WITHIN, false));
        x.argument(1, SegmentYard.PARENTAGE);
        x.argument(3, 0);
        x.condition(false, 0, SegmentYard.SAME, 2);
        Due.is("unique with parentage", SegmentYard.OK, x.get(0, SegmentYard.UNIQUE_GET, false));
        Due.is("parent", 1, x.parent(0));
        Due.is("at", 3, x.at(0));
        x.argument(3, 0);
        Due.is("within, but behind the position", SegmentYard.NOT_FOUND, x.get(0, SegmentYard.WITHIN, false));
        x.argument(0, SegmentYard.PARENTAGE);
        x.argument(1, SegmentYard.PARENTAGE);
        x.argument(3, 0);
        x.get(0, SegmentYard.UNIQUE_GET, false);
        Due.is("the last one with PARENTAGE", 1, x.parent(0));
        x.argument(3, SegmentYard.PARENTAGE);
        Due.is("within", SegmentYard.OK, x.get(0, SegmentYard.WITHIN, false));
        Due.is("the parent stays whatever the codes", 1, x.parent(0));
    }

    private static void getCodes() {
        Due.part("promise 10, codes");
        SegmentYard x = filled();
        fill(x, 3, 901, 902, 903);
        x.argument(0, SegmentYard.PATH);
        x.argument(1, 0);
        x.argument(3, 0);
        Due.is("get", SegmentYard.OK, x.get(0, SegmentYard.UNIQUE_GET, true));
        Due.is("holds", 2, x.holds(0));
        Due.is("slot 0", 10, x.area(0, 0));
        Due.is("slot 1", 7, x.area(1, 0));
        Due.is("slot 3 stays", 901, x.area(3, 0));
        x.argument(0, SegmentYard.PATH);
        x.argument(1, SegmentYard.PATH);
        x.argument(3, SegmentYard.PATH);
        Due.is("get", SegmentYard.OK, x.get(0, SegmentYard.UNIQUE_GET, true));
        Due.is("holds", 3, x.holds(0));
        Due.is("slot 1", 3, x.area(1, 1));
        Due.is("slot 2", 4, x.area(2, 1));
        x.argument(3, SegmentYard.FIRST_TWIN);
        x.condition(false, 1, SegmentYard.GREATER, 4);
        Due.is("first twin that fulfils it", SegmentYard.OK, x.get(0, SegmentYard.UNIQUE_GET, false));
        Due.is("at", 3, x.at(0));
        x.argument(3, SegmentYard.LAST_TWIN);
        x.condition(false, 1, SegmentYard.LESS, 5);
        Due.is("last twin that fulfils it", SegmentYard.OK, x.get(0, SegmentYard.UNIQUE_GET, false));
        Due.is("at", 2, x.at(0));
        x.argument(3, SegmentYard.LAST_TWIN | SegmentYard.FIRST_TWIN);
        Due.is("both", SegmentYard.NOT_FOUND, x.get(0, SegmentYard.UNIQUE_GET, false));
        x.argument(0, SegmentYard.LAST_TWIN);
        Due.is("roots are twins", SegmentYard.OK, x.get(0, SegmentYard.UNIQUE_GET, false));
        Due.is("at", 6, x.at(0));
        x.argument(0, SegmentYard.FIRST_TWIN);
        Due.is("first root", SegmentYard.NOT_FOUND, x.get(0, SegmentYard.NEXT, false));
        go(x, 0, 3, 0, 7);
        x.argument(1, SegmentYard.HELD_HERE);
        x.argument(3, 0);
        Due.is("below the one that the view is below", SegmentYard.OK, x.get(0, SegmentYard.NEXT, false));
        Due.is("at", 3, x.at(0));
        x.argument(3, SegmentYard.HELD_HERE);
        Due.is("the one at which the view is", SegmentYard.OK, x.get(0, SegmentYard.UNIQUE_GET, false));
        Due.is("at", 3, x.at(0));
        x.argument(0, SegmentYard.HELD_HERE);
        x.argument(2, 0);
        Due.is("held here", SegmentYard.OK, x.get(0, SegmentYard.UNIQUE_GET, false));
        x.open(0, 0, 4095);
        x.argument(0, SegmentYard.HELD_HERE);
        Due.is("a view that is at none", SegmentYard.NOT_FOUND, x.get(0, SegmentYard.UNIQUE_GET, false));
    }

    private static void getStatuses() {
        Due.part("promise 10, statuses");
        SegmentYard x = filled();
        for (int view : NO_VIEWS) {
            Due.throwsIt("get of no view", Due.INDEX, () -> x.get(view, 9, false));
        }
        for (int how : new int[] {LOW, -1, 3, HIGH}) {
            Due.throwsIt("get in no way", Due.ARGUMENT, () -> x.get(0, how, false));
        }
        int[][] bad = {{1, 0}, {0, 0}, {0, 1, 2}, {2, 3}, {5}, {0, 6}, {3, 1}};
        for (int how = 0; how < 3; how++) {
            for (int[] types : bad) {
                hold(x, 0, 1, 0, 6);
                for (int type : types) {
                    x.argument(type, 0);
                }
                Due.is("a bad list", SegmentYard.BAD, x.get(0, how, true));
                Due.is("the hold is lost", 0, x.holds(0));
                Due.is("the position stays", 4, x.at(0));
            }
        }
        x.argument(0, 0);
        x.argument(3, 0);
        x.argument(4, 0);
        Due.is("in order with gaps", SegmentYard.NOT_FOUND, x.get(0, SegmentYard.UNIQUE_GET, false));
        x.open(0, 0, 4095);
        x.argument(5, 0);
        Due.is("BAD is ahead of NO_PARENT", SegmentYard.BAD, x.get(0, SegmentYard.WITHIN, false));
        Due.is("within without a parent", SegmentYard.NO_PARENT, x.get(0, SegmentYard.WITHIN, false));
        x.put(0, 0, 55);
        same(x, 0, 0, 0, 11);
        Due.is("not found", SegmentYard.NOT_FOUND, x.get(0, SegmentYard.UNIQUE_GET, true));
        Due.is("the area stays", 55, x.area(0, 0));
        go(x, 0, 0, 0, 20);
        Due.is("end", SegmentYard.END, x.get(0, SegmentYard.NEXT, true));
        Due.is("the parent stays", 6, x.parent(0));
        Due.is("ahead of all", 0, x.ahead(0));
        Due.is("ahead of all at none", SegmentYard.OK, x.get(0, SegmentYard.NEXT, false));
        go(x, 0, 3, 0, 2);
        same(x, 1, 0, 0, 6);
        Due.is("with arguments it is OK", SegmentYard.OK, x.get(0, SegmentYard.NEXT, false));
        go(x, 0, 3, 0, 2);
        Due.is("with UNIQUE_GET it is OK", SegmentYard.OK, x.get(0, SegmentYard.UNIQUE_GET, false));
    }

    private static void insertPaths() {
        Due.part("promise 11, paths");
        SegmentYard x = yard();
        for (int view : NO_VIEWS) {
            Due.throwsIt("insert of no view", Due.INDEX, () -> x.insert(view));
        }
        for (int slot = 0; slot < 4; slot++) {
            fill(x, slot, 10 + slot, 20 + slot, 30 + slot);
        }
        x.argument(0, SegmentYard.PATH);
        x.argument(1, 0);
        x.argument(3, 63);
        x.argument(4, 0);
        Due.is("a whole path", SegmentYard.OK, x.insert(0));
        row(x, 0, 10, 1011, 3012, 4013);
        for (int place = 0; place < 4; place++) {
            Due.is("fieldAt", 20 + place, x.fieldAt(0, place, 1));
            Due.is("fieldAt", 30 + place, x.fieldAt(0, place, 2));
        }
        Due.is("at the last one", 3, x.at(0));
        Due.is("which is the parent", 3, x.parent(0));
        Due.is("keys", 10011012013L, x.keys(0));
        one(x, 1, 0, 5);
        x.argument(1, 0);
        x.argument(3, 0);
        Due.is("the last one, below the first that is right", SegmentYard.OK, x.insert(1));
        row(x, 0, 5, 10, 1011, 3012, 4013, 3005);
        same(x, 0, 0, 0, 5);
        x.argument(1, SegmentYard.PATH);
        x.argument(3, 0);
        fill(x, 0, 1);
        fill(x, 1, 2);
        Due.is("two below root 5", SegmentYard.OK, x.insert(1));
        row(x, 0, 5, 1001, 3002, 10, 1011, 3012, 4013, 3005);
        fill(x, 0, 77);
        x.argument(2, 0);
        Due.is("below the root above the position", SegmentYard.OK, x.insert(1));
        row(x, 0, 5, 1001, 3002, 2077, 10, 1011, 3012, 4013, 3005);
        Due.is("the other view stays at its segment", 7, x.at(0));
        x.argument(0, SegmentYard.LAST_TWIN);
        x.argument(2, SegmentYard.LAST_TWIN | SegmentYard.HELD_HERE | SegmentYard.KEPT);
        Due.is("codes of the new ones do not matter", SegmentYard.OK, x.insert(1));
        Due.is("at", 9, x.at(1));
        Due.is("rowAt", 2077, x.rowAt(0, 9));
    }

    private static void insertStatuses() {
        Due.part("promise 11, statuses");
        SegmentYard x = filled();
        Due.is("an empty list", SegmentYard.BAD, x.insert(0));
        int[][] bad = {{0, 3}, {1, 0}, {5}, {0, 0}, {0, 1, 4}};
        for (int[] types : bad) {
            for (int type : types) {
                x.argument(type, 0);
            }
            Due.is("a bad list", SegmentYard.BAD, x.insert(0));
        }
        same(x, 0, 0, 0, 999);
        Due.is("a new one with a condition", SegmentYard.BAD, x.insert(0));
        x.argument(0, SegmentYard.PATH);
        same(x, 1, 0, 0, 999);
        Due.is("a new one with a condition", SegmentYard.BAD, x.insert(0));
        x.argument(0, SegmentYard.PATH);
        x.argument(3, 0);
        Due.is("a new one of no child type", SegmentYard.BAD, x.insert(0));
        x.argument(1, 0);
        Due.is("at none", SegmentYard.NOT_FOUND, x.insert(0));
        go(x, 0, 2, 0, 1);
        x.argument(3, 0);
        Due.is("no parent above", SegmentYard.NOT_FOUND, x.insert(0));
        same(x, 0, 0, 0, 30);
        x.argument(1, 0);
        Due.is("no root that is right", SegmentYard.NOT_FOUND, x.insert(0));
        hold(x, 0, 2, 0, 1);
        fill(x, 0, 10);
        x.argument(0, 0);
        Due.is("a root twice", SegmentYard.DOUBLE, x.insert(0));
        Due.is("the hold is lost", 0, x.holds(0));
        Due.is("the position stays", 5, x.at(0));
        Due.is("a child twice", SegmentYard.DOUBLE, one(x, 0, 2, 1));
        same(x, 0, 0, 0, 20);
        x.argument(2, 0);
        Due.is("below another root", SegmentYard.OK, x.insert(0));
        x.open(0, 0, 1 << 1);
        x.argument(1, 0);
        Due.is("a type whose parent is not seen", SegmentYard.BAD, x.insert(0));
    }

    private static void twins() {
        Due.part("promise 11, twins");
        // twins with the same key, by FIRST, LAST and HERE, in the order in which they lie in the end
        int[][] orders = {{4, 3, 2, 1}, {1, 2, 3, 4}, {2, 4, 3, 1}};
        for (int keys = 1; keys <= 2; keys++) {
            for (int rule = 0; rule < 3; rule++) {
                SegmentYard x = new SegmentYard();
                x.type(0, NONE, 0, 0);
                x.type(0, 0, keys, rule);
                x.open(0, 0, 3);
                one(x, 0, 0, 1);
                one(x, 0, 1, 5, 1);
                go(x, 0, 0, 0, 1);
                one(x, 0, 1, 5, 2);
                go(x, 0, 1, 1, 1);
                one(x, 0, 1, 5, 3);
                one(x, 0, 1, 5, 4);
                int[] order = orders[rule];
                seconds(x, 0, 0, order[0], order[1], order[2], order[3]);
                row(x, 0, 1, 1005, 1005, 1005, 1005);
            }
        }
        keyedTwins();
        unkeyedTwins();
    }

    private static void keyedTwins() {
        for (int rule = 0; rule < 3; rule++) {
            SegmentYard x = new SegmentYard();
            x.type(0, NONE, 0, rule);
            x.type(0, 0, SegmentYard.MANY, rule);
            x.type(0, 0, SegmentYard.UNIQUE, rule);
            x.open(0, 0, 7);
            for (int root : new int[] {3, 1, 2}) {
                one(x, 0, 0, root);
            }
            row(x, 0, 1, 2, 3);
            for (int key : new int[] {7, 5, 9, 6, 5}) {
                one(x, 0, 1, key);
            }
            for (int key : new int[] {7, 5, 9, 6}) {
                one(x, 0, 2, key);
            }
            row(x, 0, 1, 2, 1005, 1005, 1006, 1007, 1009, 2005, 2006, 2007, 2009, 3);
        }
    }

    private static void unkeyedTwins() {
        int[][] due = {{1005, 1009, 1007}, {1007, 1009, 1005}, {1005, 1009, 1007}};
        for (int rule = 0; rule < 3; rule++) {
            SegmentYard x = new SegmentYard();
            x.type(0, NONE, 0, 0);
            x.type(0, 0, SegmentYard.UNKEYED, rule);
            x.open(0, 0, 3);
            one(x, 0, 0, 1);
            for (int key : new int[] {7, 9, 5}) {
                one(x, 0, 1, key);
            }
            row(x, 0, 1, due[rule][0], due[rule][1], due[rule][2]);
        }
    }

    private static void replace() {
        Due.part("promise 12");
        SegmentYard x = filled();
        for (int view : NO_VIEWS) {
            Due.throwsIt("replace of no view", Due.INDEX, () -> x.replace(view));
        }
        Due.is("nothing held", SegmentYard.NOT_HELD, x.replace(0));
        hold(x, 0, 1, 0, 5);
        fill(x, 0, 5, 100, 200);
        Due.is("replace", SegmentYard.OK, x.replace(0));
        Due.is("fieldAt", 100, x.fieldAt(0, 1, 1));
        Due.is("fieldAt", 200, x.fieldAt(0, 1, 2));
        Due.is("at", 1, x.at(0));
        Due.is("parent", 1, x.parent(0));
        Due.is("the hold is lost", SegmentYard.NOT_HELD, x.replace(0));
        for (int type = 0; type < 3; type++) {
            x.argument(type, 0);
            x.get(0, SegmentYard.UNIQUE_GET, true);
            x.put(0, 0, 900);
            Due.is("another key", SegmentYard.KEY_CHANGED, x.replace(0));
            Due.is("the hold is lost", 0, x.holds(0));
        }
        row(x, 0, 10, 1005, 3007, 3002, 1006, 2001, 20);
        hold(x, 0, 3, 0, 7);
        x.put(0, 0, 1);
        Due.is("another key of an unkeyed one", SegmentYard.OK, x.replace(0));
        row(x, 0, 10, 1005, 3001, 3002, 1006, 2001, 20);
        keptOnes(x);
        hold(x, 0, 0, 0, 20);
        x.argument(0, 0);
        x.put(0, 1, 555);
        Due.is("arguments do not matter", SegmentYard.OK, x.replace(0));
        Due.is("fieldAt", 555, x.fieldAt(0, 6, 1));
        Due.is("the list is empty", 0, x.clear());
        hold(x, 0, 0, 0, 20);
        x.get(0, SegmentYard.NEXT, false);
        Due.is("another get loses the hold", SegmentYard.NOT_HELD, x.replace(0));
        hold(x, 0, 0, 0, 20);
        one(x, 0, 0, 30);
        Due.is("inserting loses the hold", SegmentYard.NOT_HELD, x.delete(0));
    }

    private static void keptOnes(SegmentYard x) {
        x.argument(0, SegmentYard.PATH);
        x.argument(1, SegmentYard.PATH | SegmentYard.KEPT);
        x.argument(3, 0);
        Due.is("get", SegmentYard.OK, x.get(0, SegmentYard.UNIQUE_GET, true));
        fill(x, 0, 10, 11, 12);
        fill(x, 1, 999, 999, 999);
        fill(x, 2, 8, 81, 82);
        Due.is("replace of those not kept", SegmentYard.OK, x.replace(0));
        row(x, 0, 10, 1005, 3008, 3002, 1006, 2001, 20);
        seconds(x, 0, 11, 100, 81);
        x.argument(0, SegmentYard.PATH);
        x.argument(1, 0);
        Due.is("get", SegmentYard.OK, x.get(0, SegmentYard.UNIQUE_GET, true));
        fill(x, 0, 10, 44, 0);
        fill(x, 1, 999, 55, 0);
        Due.is("one of the keys changed", SegmentYard.KEY_CHANGED, x.replace(0));
        seconds(x, 0, 11, 100, 81);
        x.argument(1, SegmentYard.KEPT);
        x.get(0, SegmentYard.UNIQUE_GET, true);
        x.put(0, 0, 999);
        Due.is("the last one is kept", SegmentYard.OK, x.replace(0));
        row(x, 0, 10, 1005, 3008, 3002, 1006, 2001, 20);
    }

    private static void delete() {
        Due.part("promise 13");
        SegmentYard x = filled();
        for (int view : NO_VIEWS) {
            Due.throwsIt("delete of no view", Due.INDEX, () -> x.delete(view));
        }
        Due.is("nothing held", SegmentYard.NOT_HELD, x.delete(0));
        x.argument(0, SegmentYard.PATH);
        x.argument(1, SegmentYard.PATH | SegmentYard.KEPT);
        Due.is("get", SegmentYard.OK, x.get(0, SegmentYard.UNIQUE_GET, true));
        x.argument(2, 0);
        Due.is("delete of the one got, with what is below", SegmentYard.OK, x.delete(0));
        Due.is("the list is empty", 0, x.clear());
        row(x, 0, 10, 1006, 2001, 20);
        Due.is("at", NONE, x.at(0));
        Due.is("ahead", 1, x.ahead(0));
        Due.is("parent", NONE, x.parent(0));
        Due.is("holds", 0, x.holds(0));
        Due.is("nothing held", SegmentYard.NOT_HELD, x.delete(0));
        Due.is("next from the one ahead of which it is", SegmentYard.OK, x.get(0, SegmentYard.NEXT, false));
        Due.is("at", 1, x.at(0));
        hold(x, 0, 0, 0, 10);
        Due.is("delete", SegmentYard.OK, x.delete(0));
        row(x, 0, 20);
        Due.is("ahead", 0, x.ahead(0));
        hold(x, 0, 0, 0, 20);
        Due.is("delete", SegmentYard.OK, x.delete(0));
        row(x, 0);
        one(x, 1, 0, 40);
        Due.is("behind all stays so", 1, x.ahead(0));
        Due.is("none behind", SegmentYard.END, x.get(0, SegmentYard.NEXT, false));
        Due.is("ahead of all then", SegmentYard.OK, x.get(0, SegmentYard.NEXT, false));
    }

    private static void positions() {
        Due.part("positions");
        SegmentYard x = filled();
        x.argument(0, SegmentYard.PATH);
        x.argument(1, SegmentYard.PARENTAGE);
        x.condition(false, 0, SegmentYard.SAME, 6);
        x.get(1, SegmentYard.UNIQUE_GET, true);
        Due.is("holds", 2, x.holds(1));
        hold(x, 0, 1, 0, 6);
        x.delete(0);
        Due.is("at", NONE, x.at(1));
        Due.is("ahead of the next one", 4, x.ahead(1));
        Due.is("parent", NONE, x.parent(1));
        Due.is("it holds none", 0, x.holds(1));
        one(x, 0, 0, 5);
        same(x, 0, 0, 0, 10);
        fill(x, 0, 9);
        x.argument(1, 0);
        x.insert(0);
        row(x, 0, 5, 10, 1005, 3007, 3002, 1009, 2001, 20);
        Due.is("it stays ahead of that one", 6, x.ahead(1));
        Due.is("from that one on", SegmentYard.OK, x.get(1, SegmentYard.NEXT, false));
        Due.is("at", 6, x.at(1));
        x.open(1, 0, 4095);
        go(x, 1, 3, 0, 2);
        hold(x, 0, 0, 0, 10);
        x.delete(0);
        Due.is("ahead of the next that is not deleted with it", 1, x.ahead(1));
        hold(x, 0, 0, 0, 20);
        x.delete(0);
        Due.is("behind all", 1, x.ahead(1));
        one(x, 0, 0, 99);
        Due.is("behind all", 2, x.ahead(1));
        x.open(1, 0, 4095);
        one(x, 0, 0, 1);
        Due.is("ahead of all", 0, x.ahead(1));
        go(x, 1, 0, 0, 99);
        one(x, 0, 0, 50);
        Due.is("it stays at its segment", 3, x.at(1));
        Due.is("and with its parent", 3, x.parent(1));
        hold(x, 0, 0, 0, 99);
        x.delete(0);
        x.argument(1, 0);
        Due.is("at none there is no parent", SegmentYard.NOT_FOUND, x.insert(1));
    }

    private static void tiedDeleting() {
        Due.part("promise 13, second parents");
        for (int going = 0; going < 3; going++) {
            SegmentYard x = tiedYard(SegmentYard.ALL, going);
            one(x, 0, 0, 1);
            one(x, 0, 0, 2);
            one(x, 0, 1, 7, 0, 1);
            one(x, 0, 2, 8);
            one(x, 2, 3, 5);
            one(x, 2, 4, 6, 0, 1);
            Due.is("second", 0, x.second(2));
            go(x, 1, 2, 0, 8);
            hold(x, 0, 0, 0, 1);
            Due.is("tied", 2, x.tied(0));
            if (going == SegmentYard.BOUND) {
                Due.is("one is bound", SegmentYard.TIED, x.delete(0));
                Due.is("the hold is lost", 0, x.holds(0));
                row(x, 0, 1, 2, 1007, 2008);
                row(x, 1, 3005, 4006);
                Due.is("at", 0, x.at(0));
            } else {
                Due.is("delete", SegmentYard.OK, x.delete(0));
                row(x, 0, 2);
                Due.is("behind all", 1, x.ahead(1));
                Due.is("second", NONE, x.second(2));
                Due.is("at", going == SegmentYard.ALL ? NONE : 1, x.at(2));
                Due.is("count", going == SegmentYard.ALL ? 1 : 2, x.count(1));
                one(x, 0, 0, 1);
                Due.is("such a root anew", going == SegmentYard.ALL ? 0 : 1, x.tied(0));
                Due.is("second", going == SegmentYard.ALL ? NONE : 0, x.second(2));
            }
        }
        boundBelow();
    }

    private static void boundBelow() {
        SegmentYard x = tiedYard(SegmentYard.BOUND, SegmentYard.LOOSE);
        one(x, 0, 0, 1);
        one(x, 0, 1, 7, 0, 1);
        one(x, 0, 0, 2);
        hold(x, 0, 0, 0, 1);
        Due.is("a bound one below the root", SegmentYard.OK, x.delete(0));
        row(x, 0, 2);
        go(x, 0, 0, 0, 2);
        one(x, 0, 1, 8, 0, 3);
        row(x, 0, 2, 1008, 3);
        hold(x, 0, 0, 0, 3);
        Due.is("a bound one below another root", SegmentYard.TIED, x.delete(0));
        hold(x, 0, 1, 0, 8);
        Due.is("the bound one itself", SegmentYard.OK, x.delete(0));
        hold(x, 0, 0, 0, 3);
        Due.is("then the root", SegmentYard.OK, x.delete(0));
        SegmentYard y = new SegmentYard();
        y.type(0, NONE, 0, 0);
        y.type(1, NONE, 0, 0);
        y.type(1, 1, SegmentYard.MANY, 0);
        y.type(1, 2, SegmentYard.MANY, 0);
        y.tie(2, 0, SegmentYard.MUST, SegmentYard.ALL);
        y.tie(3, 0, SegmentYard.MUST, SegmentYard.BOUND);
        y.open(0, 0, 4095);
        y.open(1, 1, 4095);
        one(y, 0, 0, 1);
        one(y, 1, 1, 1);
        one(y, 1, 2, 1, 0, 1);
        one(y, 1, 3, 1, 0, 1);
        go(y, 1, 1, 0, 1);
        hold(y, 0, 0, 0, 1);
        Due.is("a bound one below one that goes with all", SegmentYard.OK, y.delete(0));
        row(y, 0);
        row(y, 1, 1001);
    }

    private static void tiedComing() {
        Due.part("promises 11 and 12, second parents");
        SegmentYard x = tiedYard(SegmentYard.LOOSE, SegmentYard.LOOSE);
        one(x, 2, 3, 5);
        Due.is("MUST", SegmentYard.NO_TARGET, one(x, 2, 4, 6, 0, 9));
        row(x, 1, 3005);
        one(x, 0, 0, 1);
        Due.is("MAKE", SegmentYard.OK, one(x, 0, 1, 6, 3, 9));
        row(x, 0, 1, 1006, 9);
        Due.is("the other fields of one made", 0, x.fieldAt(0, 2, 1));
        Due.is("the other fields of one made", 0, x.fieldAt(0, 2, 2));
        Due.is("second", 2, x.second(0));
        Due.is("MUST, and there it is", SegmentYard.OK, one(x, 2, 4, 6, 0, 9));
        hold(x, 0, 1, 0, 6);
        x.put(0, 2, 0);
        Due.is("replacing makes one", SegmentYard.OK, x.replace(0));
        row(x, 0, 0, 1, 1006, 9);
        hold(x, 2, 4, 0, 6);
        x.put(0, 2, 8);
        Due.is("replacing needs one", SegmentYard.NO_TARGET, x.replace(2));
        Due.is("fieldAt", 9, x.fieldAt(1, 1, 2));
        hold(x, 0, 0, 0, 9);
        Due.is("delete", SegmentYard.OK, x.delete(0));
        hold(x, 2, 4, 0, 6);
        x.put(0, 1, 4);
        Due.is("the same number is not looked at", SegmentYard.OK, x.replace(2));
        Due.is("second", NONE, x.second(2));
        fill(x, 0, 77);
        fill(x, 1, 5, 0, 77);
        x.argument(0, SegmentYard.PATH);
        x.argument(1, 0);
        Due.is("a root among the new ones", SegmentYard.OK, x.insert(0));
        row(x, 0, 0, 1, 1006, 77, 1005);
        x.argument(0, SegmentYard.PATH);
        x.argument(1, 0);
        Due.is("DOUBLE is ahead of all else", SegmentYard.DOUBLE, x.insert(0));
        severalNeeds();
    }

    private static SegmentYard chain(int coming, int otherComing) {
        SegmentYard x = new SegmentYard();
        x.type(0, NONE, 0, 0);
        x.type(1, NONE, 0, 0);
        x.type(1, 1, SegmentYard.UNKEYED, 0);
        x.type(1, 2, SegmentYard.UNKEYED, 0);
        x.type(1, 3, SegmentYard.UNKEYED, 0);
        x.tie(2, 0, coming, 0);
        x.tie(3, 0, otherComing, 0);
        x.tie(4, 1, coming, 0);
        x.open(0, 1, 4095);
        for (int type = 1; type < 5; type++) {
            x.argument(type, type == 1 ? SegmentYard.PATH : 0);
            fill(x, type - 1, type, 0, 40);
        }
        return x;
    }

    private static void severalNeeds() {
        SegmentYard x = chain(SegmentYard.MAKE, SegmentYard.MAKE);
        Due.is("one root made once, one of its own database", SegmentYard.OK, x.insert(0));
        row(x, 0, 40);
        row(x, 1, 1001, 2002, 3003, 4004, 1040);
        Due.is("at", 3, x.at(0));
        Due.is("second", 4, x.second(0));
        SegmentYard y = chain(SegmentYard.MAKE, SegmentYard.MUST);
        Due.is("all is looked at first", SegmentYard.NO_TARGET, y.insert(0));
        row(y, 0);
        row(y, 1);
        SegmentYard z = chain(SegmentYard.MAKE, SegmentYard.MAKE);
        z.insert(0);
        for (int type = 1; type < 5; type++) {
            z.argument(type, SegmentYard.PATH);
        }
        Due.is("get", SegmentYard.OK, z.get(0, SegmentYard.UNIQUE_GET, true));
        Due.is("holds", 4, z.holds(0));
        z.put(1, 2, 50);
        z.put(2, 2, 50);
        z.put(3, 2, 1);
        Due.is("replacing several", SegmentYard.OK, z.replace(0));
        row(z, 0, 40, 50);
        row(z, 1, 1001, 2002, 3003, 4004, 1040);
        Due.is("second", 0, z.second(0));
    }

    private static void full() {
        Due.part("full");
        SegmentYard x = tiedYard(SegmentYard.LOOSE, SegmentYard.LOOSE);
        one(x, 2, 3, 1);
        for (int key = 0; key < 58; key++) {
            Due.is("insert", SegmentYard.OK, one(x, 0, 0, key));
        }
        Due.is("two, with the one made", SegmentYard.FULL, one(x, 0, 1, 0, 0, 999));
        fill(x, 0, 100);
        fill(x, 1, 0, 0, 100);
        x.argument(0, SegmentYard.PATH);
        x.argument(1, 0);
        Due.is("two new ones", SegmentYard.FULL, x.insert(0));
        Due.is("count", 58, x.count(0));
        Due.is("the last but none", SegmentYard.OK, one(x, 0, 1, 0, 0, 5));
        Due.is("DOUBLE is ahead of FULL", SegmentYard.DOUBLE, one(x, 0, 0, 5));
        Due.is("a sixty-first", SegmentYard.FULL, one(x, 0, 0, 500));
        Due.is("NO_TARGET is ahead of FULL", SegmentYard.NO_TARGET, one(x, 2, 4, 0, 0, 999));
        Due.is("in another database", SegmentYard.FULL, one(x, 2, 4, 0, 0, 5));
        hold(x, 0, 1, 0, 0);
        x.put(0, 2, 998);
        Due.is("replacing would make one", SegmentYard.FULL, x.replace(0));
        hold(x, 0, 1, 0, 0);
        x.put(0, 2, 6);
        Due.is("replacing", SegmentYard.OK, x.replace(0));
        hold(x, 0, 0, 0, 0);
        x.delete(0);
        Due.is("room again", SegmentYard.OK, one(x, 0, 0, 500));
        Due.is("count", 59, x.count(0));
        Due.is("rowAt", 500, x.rowAt(0, 58));
        Due.is("rowAnew", 500, x.rowAnew(0, 58));
    }

    private static void rows() {
        Due.part("promises 14 to 18");
        SegmentYard x = filled();
        Due.is("types", 7, x.types());
        for (int database : NO_DATABASES) {
            Due.throwsIt("count of no database", Due.INDEX, () -> x.count(database));
            Due.throwsIt("rowAt of no database", Due.INDEX, () -> x.rowAt(database, 0));
            Due.throwsIt("rowAnew of no database", Due.INDEX, () -> x.rowAnew(database, 0));
            Due.throwsIt("fieldAt of no database", Due.INDEX, () -> x.fieldAt(database, 0, 0));
            Due.throwsIt("fieldAt of no field", Due.INDEX, () -> x.fieldAt(0, 0, database));
        }
        for (int place : new int[] {LOW, -1, 7, 60, HIGH}) {
            Due.throwsIt("rowAt of no place", Due.INDEX, () -> x.rowAt(0, place));
            Due.throwsIt("rowAnew of no place", Due.INDEX, () -> x.rowAnew(0, place));
            Due.throwsIt("fieldAt of no place", Due.INDEX, () -> x.fieldAt(0, place, 0));
        }
        Due.throwsIt("rowAt of an empty database", Due.INDEX, () -> x.rowAt(1, 0));
        one(x, 2, 5, 999, 998, 997);
        one(x, 2, 6, 3);
        row(x, 1, 5999, 6003);
        row(x, 2);
        Due.is("fieldAt", 999, x.fieldAt(1, 0, 0));
        Due.is("fieldAt", 998, x.fieldAt(1, 0, 1));
        Due.is("fieldAt", 997, x.fieldAt(1, 0, 2));
        row(x, 0, 10, 1005, 3007, 3002, 1006, 2001, 20);
    }

    private static void viewAnswers() {
        Due.part("promises 19 to 25");
        SegmentYard x = tiedYard(SegmentYard.LOOSE, SegmentYard.LOOSE);
        for (int view : NO_VIEWS) {
            Due.throwsIt("at of no view", Due.INDEX, () -> x.at(view));
            Due.throwsIt("ahead of no view", Due.INDEX, () -> x.ahead(view));
            Due.throwsIt("parent of no view", Due.INDEX, () -> x.parent(view));
            Due.throwsIt("holds of no view", Due.INDEX, () -> x.holds(view));
            Due.throwsIt("keys of no view", Due.INDEX, () -> x.keys(view));
            Due.throwsIt("second of no view", Due.INDEX, () -> x.second(view));
            Due.throwsIt("tied of no view", Due.INDEX, () -> x.tied(view));
        }
        one(x, 0, 0, 999);
        one(x, 0, 1, 998, 0, 999);
        one(x, 0, 2, 997, 0, 999);
        Due.is("keys", 999998997L, x.keys(0));
        Due.is("a type that is not tied", NONE, x.second(0));
        Due.is("not a root", 0, x.tied(0));
        Due.is("at", 2, x.at(0));
        Due.is("ahead", 2, x.ahead(0));
        go(x, 0, 1, 0, 998);
        Due.is("second", 0, x.second(0));
        Due.is("keys", 999998L, x.keys(0));
        go(x, 0, 0, 0, 999);
        Due.is("tied", 1, x.tied(0));
        Due.is("a root has no second parent", NONE, x.second(0));
        one(x, 2, 3, 0);
        one(x, 2, 4, 1, 0, 999);
        one(x, 2, 4, 2, 0, 999);
        Due.is("tied, of all databases", 3, x.tied(0));
        Due.is("second, in the row of its database", 0, x.second(2));
        Due.is("keys with zeros", 2L, x.keys(2));
        go(x, 3, 3, 0, 0);
        Due.is("a root with the key 0", 0L, x.keys(3));
        Due.is("a root of another type", 0, x.tied(3));
        one(x, 1, 0, 5);
        Due.is("second has moved", 1, x.second(2));
        Due.is("at has moved", 1, x.at(0));
        Due.is("parent has moved", 1, x.parent(0));
        for (int type = 0; type < 3; type++) {
            x.argument(type, SegmentYard.PATH);
        }
        x.get(1, SegmentYard.UNIQUE_GET, true);
        Due.is("holds", 3, x.holds(1));
        x.open(1, 0, 0);
        Due.is("holds", 0, x.holds(1));
    }
}

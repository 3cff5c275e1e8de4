/** What the document says under the heading of each promise: for each sentence a test of its own. */
final class BoundsOfPromises extends Yards {
    private static final String NO_VIEW = "Throws `IndexOutOfBoundsException` if there is no such view";
    private static final String NO_DATABASE = "Throws `IndexOutOfBoundsException` if there is no such database";

    private BoundsOfPromises() {
    }

    static void run() {
        newObject();
        type();
        tie();
        open();
        argument();
        condition();
        clear();
        put();
        area();
        get();
        insert();
        replace();
        delete();
        types();
        count();
        rowAt();
        rowAnew();
        fieldAt();
        at();
        ahead();
        parent();
        holds();
        keys();
        second();
        tied();
    }

    // ---- what many of them say

    /** The views 0 to 3 do not throw, and others do, whatever else is wrong. */
    private static void views(Call... byViews) {
        says("- `view`: 0 to 3");
        for (int view = 0; view < 4; view++) {
            SegmentYard x = filled();
            Call call = byViews[view];
            silent("view " + view, () -> call.on(x));
        }
    }

    private interface ByNumber {
        long on(SegmentYard x, int number);
    }

    private static void viewsOf(ByNumber call) {
        views(x -> call.on(x, 0), x -> call.on(x, 1), x -> call.on(x, 2), x -> call.on(x, 3));
    }

    private static void noView(ByNumber call) {
        says(NO_VIEW);
        for (int none : outside(4)) {
            index("view " + none, () -> call.on(filled(), none));
        }
    }

    private static void databasesOf(ByNumber call) {
        says("- `database`: 0 to 2");
        for (int database = 0; database < 3; database++) {
            int mine = database;
            silent("database " + database, () -> call.on(threeRows(), mine));
        }
    }

    private static void noDatabase(String sentence, ByNumber call) {
        says(sentence);
        for (int none : outside(3)) {
            index("database " + none, () -> call.on(threeRows(), none));
        }
    }

    /** A place of each row of threeRows(), and none behind them or ahead of them. */
    private static void placesOf(SegmentYard x, int database, ByNumber call) {
        for (int place = 0; place < x.count(database); place++) {
            int mine = place;
            silent("place " + place, () -> call.on(x, mine));
        }
        for (int none : outside(x.count(database))) {
            index("place " + none + " of database " + database, () -> call.on(x, none));
        }
    }

    /** One, two and three roots in the databases 0 to 2, of the types 0 to 2. */
    private static SegmentYard threeRows() {
        SegmentYard x = new SegmentYard();
        for (int database = 0; database < 3; database++) {
            x.type(database, NONE, UNIQUE, FIRST);
            x.open(database, database, EVERY_TYPE);
            for (int key = 0; key <= database; key++) {
                one(x, database, database, 10 * key, key, key);
            }
        }
        return x;
    }

    // ---- promises 1 to 4

    private static void newObject() {
        section("## Promise 1: A new object");
        says("Databases without types; the views are opened for the database 0 and no types.");
        SegmentYard x = new SegmentYard();
        is("types", 0, x.types());
        for (int database = 0; database < 3; database++) {
            int mine = database;
            is("count", 0, x.count(database));
            index("no place", () -> x.rowAt(mine, 0));
            index("no place", () -> x.rowAnew(mine, 0));
            is("there was no root type", database, x.type(database, NONE, UNIQUE, FIRST));
        }
        is("the list", 0, x.clear());
        for (int view = 0; view < 4; view++) {
            stands("ahead of all", x, view, NONE, 0);
            is("parent", NONE, x.parent(view));
            is("holds", 0, x.holds(view));
            is("keys", NONE, x.keys(view));
            is("second", NONE, x.second(view));
            is("tied", 0, x.tied(view));
            slots("the area", x, view % 3, 0, 0, 0, 0);
            for (int type = 0; type < 3; type++) {
                x.argument(type, 0);
                is("no type is seen", BAD, x.insert(view));
            }
            is("within", NO_PARENT, within(x, view));
            is("next", END, next(x, view));
            is("unique", NOT_FOUND, unique(x, view));
        }
        SegmentYard y = new SegmentYard();
        y.type(0, NONE, UNIQUE, FIRST);
        y.open(0, 0, 1);
        one(y, 0, 0, 5);
        for (int view = 1; view < 4; view++) {
            stands("ahead of all, with a segment", y, view, NONE, 0);
            is("no segment is seen", END, next(y, view));
            is("no segment is seen", NOT_FOUND, unique(y, view));
        }
    }

    private static void type() {
        section("## Promise 2: type");
        says("Defines a type.");
        SegmentYard x = new SegmentYard();
        is("none", 0, x.types());
        x.type(1, NONE, UNIQUE, LAST);
        is("one", 1, x.types());
        is("it can be listed", 1, x.argument(0, 0));
        x.clear();
        databasesOf((y, database) -> new SegmentYard().type(database, NONE, UNIQUE, FIRST));
        says("- `parent`: a type of this database; NONE for the root type");
        is("a type of this database", 1, x.type(1, 0, UNIQUE, FIRST));
        is("the lowest number, and the highest one", 2, x.type(1, 1, UNIQUE, FIRST));
        is("NONE for the root type", 3, x.type(0, NONE, UNIQUE, FIRST));
        says("- `keys`: UNIQUE, MANY or UNKEYED");
        SegmentYard y = new SegmentYard();
        y.type(2, NONE, UNIQUE, HERE);
        for (int keys = UNIQUE; keys <= UNKEYED; keys++) {
            is("keys " + keys, keys + 1, y.type(2, 0, keys, FIRST));
        }
        says("- `rule`: FIRST, LAST or HERE");
        for (int i = 3; i < 9; i++) {
            is("rule " + i / 3 + ", keys " + i % 3, i + 1, y.type(2, 0, i % 3, i / 3));
        }
        says("Returns its number.");
        is("the number that is the count ahead of it", 10, y.type(2, 1, UNIQUE, FIRST));
        is("the highest number", 11, y.type(2, 10, UNIQUE, FIRST));
        wrongTypes();
    }

    private static void wrongTypes() {
        SegmentYard x = new SegmentYard();
        says("Throws `IndexOutOfBoundsException` if there is no such database, or parent is neither NONE nor a type");
        for (int none : outside(3)) {
            index("database " + none, () -> x.type(none, NONE, UNIQUE, FIRST));
        }
        for (int none : new int[] {LOW, -2, 0, 1, 11, 12, HIGH}) {
            index("parent " + none, () -> x.type(0, none, UNIQUE, FIRST));
        }
        x.type(1, NONE, UNIQUE, FIRST);
        says("Throws `IllegalArgumentException` if parent is of another database, keys or rule is out of range, or keys is"
            + " not UNIQUE for a root type");
        range("parent of another database", () -> x.type(0, 0, UNIQUE, FIRST));
        for (int none : outside(3)) {
            range("keys " + none, () -> x.type(1, 0, none, FIRST));
            range("rule " + none, () -> x.type(1, 0, UNIQUE, none));
        }
        for (int keys = MANY; keys <= UNKEYED; keys++) {
            int mine = keys;
            range("keys of a root type", () -> x.type(0, NONE, mine, FIRST));
        }
        says("Throws `IllegalStateException` if the database has segments, or a root type already, and another one would"
            + " be made, the level would be 5, or there are 12 types");
        x.open(0, 1, 1);
        one(x, 0, 0, 5);
        state("the database has a segment", () -> x.type(1, 0, UNIQUE, FIRST));
        drop(x, 0, 0, 0, 5);
        state("a root type already", () -> x.type(1, NONE, UNIQUE, FIRST));
        for (int type = 1; type < 4; type++) {
            is("the levels 2 to 4", type, x.type(1, type - 1, UNIQUE, FIRST));
        }
        state("the level 5", () -> x.type(1, 3, UNIQUE, FIRST));
        for (int type = 4; type < 12; type++) {
            is("up to 12 types", type, x.type(1, 0, UNIQUE, FIRST));
        }
        state("12 types", () -> x.type(1, 0, UNIQUE, FIRST));
        state("12 types, and the root type of another database", () -> x.type(0, NONE, UNIQUE, FIRST));
        is("types", 12, x.types());
    }

    private static void tie() {
        section("## Promise 3: tie");
        says("Ties a type to a root type.");
        SegmentYard x = yard();
        silent("tie", () -> x.tie(6, 0, MAKE, BOUND));
        one(x, 2, 5, 1);
        one(x, 2, 6, 2, 0, 9);
        row(x, 0, 9);
        is("second", 0, x.second(2));
        says("- `type`: a type");
        for (int type : new int[] {1, 2, 3, 4, 6}) {
            silent("the type " + type, () -> yard().tie(type, 0, MUST, BOUND));
        }
        says("- `root`: a type");
        for (int root : new int[] {0, 5}) {
            silent("the root type " + root, () -> yard().tie(6, root, MUST, BOUND));
        }
        says("- `coming`: MUST or MAKE");
        for (int coming = MUST; coming <= MAKE; coming++) {
            SegmentYard y = yard();
            y.tie(6, 0, coming, ALL);
            one(y, 2, 5, 1);
            is("coming " + coming, coming == MUST ? NO_TARGET : OK, one(y, 2, 6, 1, 0, 7));
        }
        says("- `going`: BOUND, LOOSE or ALL");
        for (int going = BOUND; going <= ALL; going++) {
            SegmentYard y = yard();
            y.tie(6, 0, MAKE, going);
            one(y, 2, 5, 1);
            one(y, 2, 6, 1, 0, 7);
            hold(y, 0, 0, 0, 7);
            is("going " + going, going == BOUND ? TIED : OK, y.delete(0));
            is("those left, by going " + going, going == ALL ? 1 : 2, y.count(1));
        }
        SegmentYard z = yard();
        says("Throws `IndexOutOfBoundsException` if there is no such type, of either");
        for (int none : outside(7)) {
            index("type " + none, () -> z.tie(none, 0, MUST, BOUND));
            index("root " + none, () -> z.tie(1, none, MUST, BOUND));
        }
        index("NONE is no root", () -> z.tie(1, NONE, MUST, BOUND));
        index("of none at all", () -> new SegmentYard().tie(0, 0, MUST, BOUND));
        says("Throws `IllegalArgumentException` if type is a root type, root is none, or coming or going is out of range");
        range("type is a root type", () -> z.tie(5, 0, MUST, BOUND));
        range("type is the root itself", () -> z.tie(0, 0, MUST, BOUND));
        range("root is none", () -> z.tie(1, 2, MUST, BOUND));
        for (int none : outside(2)) {
            range("coming " + none, () -> z.tie(1, 0, none, BOUND));
        }
        for (int none : outside(3)) {
            range("going " + none, () -> z.tie(1, 0, MUST, none));
        }
        says("Throws `IllegalStateException` if the database of type has segments, or type is tied");
        silent("the first time", () -> z.tie(1, 0, MUST, BOUND));
        state("type is tied", () -> z.tie(1, 5, MAKE, LOOSE));
        one(z, 0, 0, 1);
        state("its database has a segment", () -> z.tie(2, 5, MUST, BOUND));
        silent("that of the root has one", () -> z.tie(6, 0, MUST, BOUND));
    }

    private static void open() {
        section("## Promise 4: open");
        says("Opens a view, or opens it anew: it is ahead of all then, has no parent and holds nothing.");
        SegmentYard x = filled();
        hold(x, 0, 0, 0, 20);
        list(x, 0, 0);
        x.open(0, 0, 1);
        stands("ahead of all", x, 0, NONE, 0);
        is("no parent", NONE, x.parent(0));
        is("nothing held", 0, x.holds(0));
        is("nothing held", NOT_HELD, x.delete(0));
        go(x, 0, 0, 0, 20);
        drop(x, 1, 0, 0, 20);
        x.open(0, 0, 1);
        stands("ahead of all, not behind all any more", x, 0, NONE, 0);
        is("next", OK, next(x, 0));
        hold(x, 0, 0, 0, 10);
        list(x, 0, 0);
        x.open(0, 2, 0);
        stands("another database", x, 0, NONE, 0);
        is("the list stays", 1, x.clear());
        x.open(0, 0, EVERY_TYPE);
        stands("the same once more", x, 0, NONE, 0);
        viewsOf((y, view) -> opened(y, view, 0, 1));
        databasesOf((y, database) -> opened(y, 3, database, 1));
        says("- `types`: 0 to 4095: a set, the bit t for the type t; those of other databases, and such as there are not,"
            + " do not matter");
        SegmentYard y = filled();
        y.open(0, 0, 0);
        is("no type", END, next(y, 0));
        y.open(0, 0, 4095);
        is("all types", OK, next(y, 0));
        for (int more : new int[] {0, 32, 64, 128, 2048, 4064}) {
            y.open(0, 0, 1 | 2 | more);
            int[] seen = {0, 1, 4, 6};
            for (int place : seen) {
                is("next", 0, next(y, 0) == END ? END : 0);
                is("the types 0 and 1, and " + more, place, y.at(0));
            }
            is("no more", END, next(y, 0));
        }
        eachBit();
        SegmentYard z = filled();
        says("Throws `IndexOutOfBoundsException` if there is no such view or database");
        for (int none : outside(4)) {
            index("view " + none, () -> z.open(none, 0, 1));
        }
        for (int none : outside(3)) {
            index("database " + none, () -> z.open(0, none, 1));
        }
        says("Throws `IllegalArgumentException` if types is out of range");
        for (int none : outside(4096)) {
            range("types " + none, () -> z.open(0, 0, none));
        }
    }

    /** Twelve types, of which the eleven below the root are seen by one bit each. */
    private static void eachBit() {
        SegmentYard x = new SegmentYard();
        for (int type = 0; type < 12; type++) {
            x.type(0, type == 0 ? NONE : 0, UNIQUE, FIRST);
        }
        x.open(0, 0, EVERY_TYPE);
        for (int type = 0; type < 12; type++) {
            one(x, 0, type, type);
        }
        for (int type = 1; type < 12; type++) {
            x.open(1, 0, 1 | 1 << type);
            next(x, 1);
            next(x, 1);
            is("the bit " + type, type, x.at(1));
            is("no more", END, next(x, 1));
        }
    }

    private static long opened(SegmentYard x, int view, int database, int types) {
        x.open(view, database, types);
        return x.at(view);
    }

    // ---- promises 5 to 9

    private static void argument() {
        section("## Promise 5: argument");
        says("Lists an argument without conditions, behind those that are listed.");
        SegmentYard x = filled();
        same(x, 0, 0, 0, 20);
        x.argument(1, 0);
        is("its first condition", 1, x.condition(false, 0, SAME, 5));
        is("the first one has its own", NOT_FOUND, unique(x, 0));
        list(x, 0, 0, 1, 0);
        is("in this order", OK, unique(x, 0));
        list(x, 1, 0, 0, 0);
        is("in another order", BAD, unique(x, 0));
        same(x, 0, 0, 0, 999);
        x.clear();
        x.argument(0, 0);
        is("none is left of what was listed before", OK, unique(x, 0));
        says("- `type`: a type");
        for (int type = 0; type < 7; type++) {
            is("the type " + type, 1, x.argument(type, 0));
            x.clear();
        }
        says("- `codes`: 0 to 63: the set of codes, added");
        for (int codes = 0; codes < 64; codes++) {
            is("the codes " + codes, 1, x.argument(0, codes));
            x.clear();
        }
        says("Returns how many are listed.");
        for (int listed = 1; listed <= 4; listed++) {
            is("listed", listed, x.argument(0, 0));
        }
        says("Throws `IllegalStateException` if there are 4");
        state("there are 4", () -> x.argument(0, 0));
        is("there are 4 still", 4, x.clear());
        is("the first one", 1, x.argument(0, 0));
        says("Throws `IndexOutOfBoundsException` if there is no such type");
        for (int none : outside(7)) {
            index("type " + none, () -> x.argument(none, 0));
        }
        index("there are none at all", () -> new SegmentYard().argument(0, 0));
        says("Throws `IllegalArgumentException` if codes is out of range");
        for (int none : outside(64)) {
            range("codes " + none, () -> x.argument(0, none));
        }
    }

    private static void condition() {
        section("## Promise 6: condition");
        says("Gives the argument that was listed last one more condition.");
        SegmentYard x = filled();
        list(x, 0, 0);
        same(x, 1, 0, 0, 10);
        is("the last one, not the first one", NOT_FOUND, unique(x, 0));
        same(x, 0, 0, 0, 10);
        list(x, 1, 0);
        is("the first one has one, the last one none", OK, unique(x, 0));
        says("- `isOr`: whether it is joined by OR; otherwise by AND; it does not matter for the first one");
        for (int isOr = 0; isOr < 4; isOr++) {
            x.argument(0, 0);
            x.condition(isOr % 2 == 1, 0, SAME, 999);
            x.condition(isOr / 2 == 1, 0, SAME, 20);
            is("joined " + isOr, isOr / 2 == 1 ? OK : NOT_FOUND, unique(x, 0));
        }
        says("- `field`: 0 to 2");
        for (int field = 0; field < 3; field++) {
            int[] numbers = {20, 1, 0};
            same(x, 0, 0, field, numbers[field]);
            is("by the field " + field, OK, unique(x, 0));
            is("by the field " + field, field == 2 ? 0 : 6, x.at(0));
        }
        says("- `comparison`: SAME to AT_LEAST");
        int[] due = {NOT_FOUND, OK, NOT_FOUND, NOT_FOUND, OK, OK};
        for (int comparison = 0; comparison < 6; comparison++) {
            x.argument(0, 0);
            x.condition(false, 0, comparison, 9);
            is("the comparison " + comparison, due[comparison], unique(x, 0));
        }
        says("- `number`: 0 to 999");
        x.argument(0, 0);
        x.condition(false, 0, GREATER, 0);
        x.condition(false, 0, LESS, 999);
        is("the lowest one, and the highest one", OK, unique(x, 0));
        says("Returns how many conditions it has.");
        x.argument(0, 0);
        for (int conditions = 1; conditions <= 3; conditions++) {
            is("conditions", conditions, x.condition(false, 0, AT_LEAST, 0));
        }
        wrongConditions(x);
    }

    /** The argument that was listed last has 3 conditions. */
    private static void wrongConditions(SegmentYard x) {
        says("Throws `IllegalStateException` if no argument is listed, or it has 3");
        state("it has 3", () -> x.condition(false, 0, SAME, 0));
        x.argument(1, 0);
        is("the next one has none", 1, x.condition(false, 0, SAME, 0));
        x.clear();
        state("no argument is listed", () -> x.condition(false, 0, SAME, 0));
        x.argument(0, 0);
        unique(x, 0);
        state("no argument is listed any more", () -> x.condition(false, 0, SAME, 0));
        x.argument(0, 0);
        says("Throws `IndexOutOfBoundsException` if there is no such field");
        for (int none : outside(3)) {
            index("field " + none, () -> x.condition(false, none, SAME, 0));
        }
        says("Throws `IllegalArgumentException` if comparison or number is out of range");
        for (int none : outside(6)) {
            range("comparison " + none, () -> x.condition(false, 0, none, 0));
        }
        for (int none : outside(1000)) {
            range("number " + none, () -> x.condition(false, 0, SAME, none));
        }
        is("it has none yet", 1, x.condition(false, 0, SAME, 0));
    }

    private static void clear() {
        section("## Promise 7: clear");
        says("Empties the list of arguments; returns how many there were.");
        SegmentYard x = filled();
        is("an empty list", 0, x.clear());
        for (int listed = 1; listed <= 4; listed++) {
            for (int i = 0; i < listed; i++) {
                x.argument(0, 0);
            }
            is("so many", listed, x.clear());
            is("none is left", 0, x.clear());
        }
        hold(x, 0, 0, 0, 20);
        x.argument(0, 0);
        String before = picture(x);
        x.clear();
        Due.same("nothing else changes", before, picture(x));
        is("what is held stays", 1, x.holds(0));
    }

    private static void put() {
        section("## Promise 8: put");
        says("Sets a number of the area.");
        SegmentYard x = yard();
        x.put(2, 1, 77);
        for (int slot = 0; slot < 4; slot++) {
            for (int field = 0; field < 3; field++) {
                is("this one alone", slot == 2 && field == 1 ? 77 : 0, x.area(slot, field));
            }
        }
        says("- `slot`: 0 to 3");
        for (int slot = 0; slot < 4; slot++) {
            x.put(slot, 0, 10 + slot);
        }
        slots("each slot", x, 0, 10, 11, 12, 13);
        slots("another field", x, 1, 0, 0, 77, 0);
        says("- `field`: 0 to 2");
        for (int field = 0; field < 3; field++) {
            x.put(3, field, 20 + field);
        }
        slots("field 0", x, 0, 10, 11, 12, 20);
        slots("field 1", x, 1, 0, 0, 77, 21);
        slots("field 2", x, 2, 0, 0, 0, 22);
        says("- `number`: 0 to 999");
        for (int number : new int[] {999, 0, 1, 998}) {
            x.put(0, 0, number);
            is("the number", number, x.area(0, 0));
        }
        says("Returns the number before.");
        SegmentYard y = yard();
        int[] numbers = {999, 0, 1, 998, 0};
        for (int i = 0; i < numbers.length; i++) {
            for (int place = 0; place < 12; place++) {
                is("the number before", i == 0 ? 0 : numbers[i - 1], y.put(place / 3, place % 3, numbers[i]));
            }
        }
        says("Throws `IndexOutOfBoundsException` if there is no such slot or field");
        for (int none : outside(4)) {
            index("slot " + none, () -> y.put(none, 0, 5));
        }
        for (int none : outside(3)) {
            index("field " + none, () -> y.put(0, none, 5));
        }
        says("Throws `IllegalArgumentException` if number is out of range");
        for (int none : outside(1000)) {
            range("number " + none, () -> y.put(0, 0, none));
        }
        slots("nothing was set", y, 0, 0, 0, 0, 0);
    }

    private static void area() {
        section("## Promise 9: area");
        says("Returns a number of the area.");
        SegmentYard x = filled();
        list(x, 0, PATH, 1, PATH, 3, 0);
        unique(x, 0);
        fill(x, 3, 997, 998, 999);
        is("one that was got", 7, x.area(2, 0));
        is("one that was put", 998, x.area(3, 1));
        says("- `slot`: 0 to 3");
        slots("each slot", x, 0, 10, 5, 7, 997);
        says("- `field`: 0 to 2");
        slots("field 1", x, 1, 2, 3, 4, 998);
        slots("field 2", x, 2, 0, 0, 0, 999);
        says("Returns the number.");
        is("the highest one", 999, x.area(3, 2));
        x.put(3, 2, 0);
        is("the lowest one", 0, x.area(3, 2));
        says("Throws `IndexOutOfBoundsException` if there is no such slot or field");
        for (int none : outside(4)) {
            index("slot " + none, () -> x.area(none, 0));
        }
        for (int none : outside(3)) {
            index("field " + none, () -> x.area(0, none));
        }
    }

    // ---- promises 10 to 13

    private static void get() {
        section("## Promise 10: get");
        says("Gets a segment.");
        SegmentYard x = filled();
        is("get", OK, x.get(0, NEXT, false));
        stands("at it", x, 0, 0, 0);
        is("its key", 10, x.area(0, 0));
        viewsOf((y, view) -> y.get(view, UNIQUE_GET, true));
        says("- `how`: UNIQUE_GET, NEXT or WITHIN");
        int[] places = {0, 2, 3};
        for (int how = 0; how < 3; how++) {
            SegmentYard y = filled();
            go(y, 0, 1, 0, 5);
            is("each way", OK, how == 2 ? within(y, 0) : OK);
            y.get(0, how, false);
            is("each way", places[how], y.at(0));
        }
        says("- `isHold`: whether it is held");
        x.get(0, NEXT, true);
        is("held", 1, x.holds(0));
        x.get(0, NEXT, false);
        is("not held", 0, x.holds(0));
        says("Returns the status: OK, HIGHER, OTHER, END, BAD, NO_PARENT or NOT_FOUND.");
        SegmentYard y = filled();
        is("NO_PARENT", NO_PARENT, within(y, 0));
        list(y, 5, 0);
        is("BAD", BAD, next(y, 0));
        list(y, 4, 0);
        is("NOT_FOUND", NOT_FOUND, next(y, 0));
        is("OK", OK, next(y, 0));
        go(y, 0, 3, 0, 2);
        is("HIGHER", HIGHER, next(y, 0));
        is("OTHER", OTHER, next(y, 0));
        is("HIGHER", HIGHER, next(y, 0));
        is("END", END, next(y, 0));
        noView((z, view) -> z.get(view, UNIQUE_GET, true));
        says("Throws `IllegalArgumentException` if how is out of range");
        for (int none : outside(3)) {
            range("how " + none, () -> y.get(0, none, false));
        }
    }

    private static void insert() {
        section("## Promise 11: insert");
        says("Inserts segments.");
        SegmentYard x = tiedYard(LOOSE, LOOSE);
        list(x, 0, PATH, 1, 0, 2, 0);
        is("three", OK, x.insert(0));
        row(x, 0, 0, 1000, 2000);
        viewsOf((y, view) -> y.insert(view));
        says("Returns the status: OK, BAD, NOT_FOUND, DOUBLE, NO_TARGET or FULL.");
        is("BAD", BAD, x.insert(0));
        is("OK", OK, one(x, 0, 0, 1));
        is("DOUBLE", DOUBLE, one(x, 0, 0, 1));
        is("NOT_FOUND", NOT_FOUND, one(x, 2, 4, 1));
        is("OK", OK, one(x, 2, 3, 1));
        is("NO_TARGET", NO_TARGET, one(x, 2, 4, 1, 0, 500));
        for (int key = 100; key < 155; key++) {
            is("OK", OK, one(x, 0, 0, key));
        }
        is("FULL", FULL, one(x, 0, 0, 155));
        noView((y, view) -> y.insert(view));
    }

    private static void replace() {
        section("## Promise 12: replace");
        says("Replaces fields of segments.");
        SegmentYard x = tiedYard(LOOSE, LOOSE);
        list(x, 0, PATH, 1, 0, 2, 0);
        x.insert(0);
        list(x, 0, PATH, 1, PATH, 2, 0);
        x.get(0, UNIQUE_GET, true);
        fill(x, 0, 0, 10, 20);
        fill(x, 1, 1, 11, 0);
        fill(x, 2, 999, 999, 999);
        is("three", OK, x.replace(0));
        row(x, 0, 0, 1001, 2999);
        seconds(x, 0, 10, 11, 999);
        viewsOf((y, view) -> y.replace(view));
        says("Returns the status: OK, NOT_HELD, KEY_CHANGED, NO_TARGET or FULL.");
        is("NOT_HELD", NOT_HELD, x.replace(0));
        hold(x, 0, 0, 0, 0);
        is("OK", OK, x.replace(0));
        hold(x, 0, 0, 0, 0);
        x.put(0, 0, 1);
        is("KEY_CHANGED", KEY_CHANGED, x.replace(0));
        one(x, 2, 3, 1);
        one(x, 2, 4, 1, 0, 0);
        hold(x, 2, 4, 0, 1);
        x.put(0, 2, 999);
        is("NO_TARGET", NO_TARGET, x.replace(2));
        for (int key = 100; key < 155; key++) {
            is("inserting", OK, one(x, 0, 0, key));
        }
        hold(x, 0, 1, 0, 1);
        x.put(0, 2, 999);
        is("FULL", FULL, x.replace(0));
        noView((y, view) -> y.replace(view));
    }

    private static void delete() {
        section("## Promise 13: delete");
        says("Deletes a segment.");
        SegmentYard x = filled();
        hold(x, 0, 2, 0, 1);
        is("delete", OK, x.delete(0));
        row(x, 0, 10, 1005, 3007, 3002, 1006, 20);
        viewsOf((y, view) -> y.delete(view));
        says("Returns the status: OK, NOT_HELD or TIED.");
        SegmentYard y = tiedYard(LOOSE, BOUND);
        one(y, 0, 0, 5);
        one(y, 2, 3, 1);
        one(y, 2, 4, 1, 0, 5);
        is("NOT_HELD", NOT_HELD, y.delete(0));
        hold(y, 0, 0, 0, 5);
        is("TIED", TIED, y.delete(0));
        hold(y, 2, 4, 0, 1);
        is("OK", OK, y.delete(2));
        hold(y, 0, 0, 0, 5);
        is("OK", OK, y.delete(0));
        noView((z, view) -> z.delete(view));
    }

    // ---- promises 14 to 18

    private static void types() {
        section("## Promise 14: types");
        says("Returns how many types are defined.");
        SegmentYard x = new SegmentYard();
        for (int type = 0; type < 12; type++) {
            is("types", type, x.types());
            x.type(0, type == 0 ? NONE : 0, UNIQUE, FIRST);
        }
        is("types", 12, x.types());
        state("one more", () -> x.type(0, 0, UNIQUE, FIRST));
        is("types", 12, x.types());
    }

    private static void count() {
        section("## Promise 15: count");
        says("Returns how many segments a database has.");
        SegmentYard x = threeRows();
        is("with all that is below the roots", 7, filled().count(0));
        databasesOf((y, database) -> y.count(database));
        says("Returns how many.");
        for (int database = 0; database < 3; database++) {
            is("count", database + 1, x.count(database));
        }
        drop(x, 0, 0, 0, 0);
        is("none", 0, x.count(0));
        one(x, 1, 1, 500);
        is("one more", 3, x.count(1));
        is("the same", 3, x.count(2));
        for (int i = 0; i < 54; i++) {
            one(x, 0, 0, i);
        }
        is("all the others", 54, x.count(0));
        is("no more", FULL, one(x, 0, 0, 999));
        is("all the others", 54, x.count(0));
        noDatabase(NO_DATABASE, (y, database) -> y.count(database));
    }

    private static void rowAt() {
        section("## Promise 16: rowAt");
        says("Returns what is at a place of the row of a database.");
        SegmentYard x = threeRows();
        is("of the database 2", 2010, x.rowAt(2, 1));
        is("of the database 1", 1010, x.rowAt(1, 1));
        databasesOf((y, database) -> y.rowAt(database, 0));
        says("- `place`: a place");
        for (int database = 0; database < 3; database++) {
            int mine = database;
            placesOf(x, database, (y, place) -> y.rowAt(mine, place));
        }
        says("Returns 1000 times the type, and the key, added.");
        is("the lowest one", 0, x.rowAt(0, 0));
        is("the last place", 2020, x.rowAt(2, 2));
        one(x, 2, 2, 999);
        is("the highest key", 2999, x.rowAt(2, 3));
        noDatabase(NO_DATABASE + " or place", (y, database) -> y.rowAt(database, 0));
        index("a place behind the last one", () -> x.rowAt(2, 4));
        index("a place of an empty row", () -> yard().rowAt(0, 0));
        index("the place NONE", () -> x.rowAt(0, NONE));
    }

    private static void rowAnew() {
        section("## Promise 17: rowAnew");
        says("Returns the same, found by comparing each two segments of the database by what they are below.");
        SegmentYard x = filled();
        row(x, 0, 10, 1005, 3007, 3002, 1006, 2001, 20);
        go(x, 0, 1, 0, 6);
        one(x, 0, 3, 1);
        one(x, 0, 4, 8);
        one(x, 0, 3, 3);
        row(x, 0, 10, 1005, 3007, 3002, 1006, 3001, 4008, 3003, 2001, 20);
        drop(x, 0, 1, 0, 5);
        one(x, 0, 0, 15);
        one(x, 0, 2, 4);
        row(x, 0, 10, 1006, 3001, 4008, 3003, 2001, 15, 2004, 20);
        SegmentYard y = threeRows();
        databasesOf((z, database) -> z.rowAnew(database, 0));
        says("- `place`: a place");
        for (int database = 0; database < 3; database++) {
            int mine = database;
            placesOf(y, database, (z, place) -> z.rowAnew(mine, place));
        }
        says("Returns 1000 times the type, and the key, added.");
        is("the lowest one", 0, y.rowAnew(0, 0));
        is("the last place", 2020, y.rowAnew(2, 2));
        one(y, 2, 2, 999);
        is("the highest key", 2999, y.rowAnew(2, 3));
        noDatabase(NO_DATABASE + " or place", (z, database) -> z.rowAnew(database, 0));
        index("a place behind the last one", () -> y.rowAnew(2, 4));
        index("a place of an empty row", () -> yard().rowAnew(0, 0));
    }

    private static void fieldAt() {
        section("## Promise 18: fieldAt");
        says("Returns a field of what is at a place of the row of a database.");
        SegmentYard x = threeRows();
        is("of the database 2", 20, x.fieldAt(2, 2, 0));
        is("of the database 1", 1, x.fieldAt(1, 1, 2));
        databasesOf((y, database) -> y.fieldAt(database, 0, 0));
        says("- `place`: a place");
        for (int database = 0; database < 3; database++) {
            int mine = database;
            placesOf(x, database, (y, place) -> y.fieldAt(mine, place, 2));
        }
        says("- `field`: 0 to 2");
        one(x, 0, 0, 996, 997, 998);
        for (int field = 0; field < 3; field++) {
            is("each field", 996 + field, x.fieldAt(0, 1, field));
            is("each field of another one", 0, x.fieldAt(0, 0, field));
        }
        says("Returns the number.");
        hold(x, 0, 0, 0, 996);
        fill(x, 0, 996, 999, 0);
        x.replace(0);
        is("the highest one", 999, x.fieldAt(0, 1, 1));
        is("the lowest one", 0, x.fieldAt(0, 1, 2));
        noDatabase(NO_DATABASE + ", place or field", (y, database) -> y.fieldAt(database, 0, 0));
        index("a place behind the last one", () -> x.fieldAt(0, 2, 0));
        for (int none : outside(3)) {
            index("field " + none, () -> x.fieldAt(0, 0, none));
        }
    }

    // ---- promises 19 to 25

    private static void at() {
        section("## Promise 19: at");
        says("Returns the place of the segment at which a view is.");
        SegmentYard x = filled();
        viewsOf((y, view) -> y.at(view));
        says("Returns the place; NONE if it is at none.");
        is("ahead of all", NONE, x.at(0));
        for (int place = 0; place < 7; place++) {
            next(x, 0);
            is("the place", place, x.at(0));
        }
        drop(x, 1, 0, 0, 20);
        is("behind all", NONE, x.at(0));
        go(x, 0, 3, 0, 7);
        drop(x, 1, 3, 0, 7);
        is("ahead of a segment", NONE, x.at(0));
        noView((y, view) -> y.at(view));
    }

    private static void ahead() {
        section("## Promise 20: ahead");
        says("Returns how many segments of the row are ahead of the position of a view, that at which it is not counted;"
            + " if it is ahead of a segment, all that lie ahead of that now.");
        SegmentYard x = filled();
        is("ahead of all", 0, x.ahead(0));
        for (int place = 0; place < 7; place++) {
            next(x, 0);
            is("that at which it is not counted", place, x.ahead(0));
        }
        go(x, 0, 3, 0, 7);
        drop(x, 1, 3, 0, 7);
        is("ahead of a segment", 2, x.ahead(0));
        one(x, 1, 0, 5);
        is("all that lie ahead of that now", 3, x.ahead(0));
        x.open(3, 0, 1);
        next(x, 3);
        next(x, 3);
        is("those that the view does not see are counted", 1, x.ahead(3));
        next(x, 3);
        is("those that the view does not see are counted", 6, x.ahead(3));
        viewsOf((y, view) -> y.ahead(view));
        says("Returns how many.");
        go(x, 0, 0, 0, 20);
        is("at the last one", 6, x.ahead(0));
        drop(x, 1, 0, 0, 20);
        is("behind all, all are counted", 6, x.ahead(0));
        is("an empty row", 0, new SegmentYard().ahead(3));
        noView((y, view) -> y.ahead(view));
    }

    private static void parent() {
        section("## Promise 21: parent");
        says("Returns the place of the parent of a view.");
        SegmentYard x = filled();
        viewsOf((y, view) -> y.parent(view));
        says("Returns the place; NONE if it has none.");
        is("none", NONE, x.parent(0));
        unique(x, 0);
        is("the first place", 0, x.parent(0));
        go(x, 0, 0, 0, 20);
        is("the last place", 6, x.parent(0));
        one(x, 1, 0, 5);
        is("it has moved", 7, x.parent(0));
        drop(x, 1, 0, 0, 20);
        is("none any more", NONE, x.parent(0));
        noView((y, view) -> y.parent(view));
    }

    private static void holds() {
        section("## Promise 22: holds");
        says("Returns how many segments a view holds.");
        SegmentYard x = yard();
        list(x, 0, PATH, 1, 0, 3, 0, 4, 0);
        x.insert(0);
        x.get(1, UNIQUE_GET, true);
        is("this view", 1, x.holds(1));
        is("another one, that has inserted", 0, x.holds(0));
        viewsOf((y, view) -> y.holds(view));
        says("Returns 0 to 4.");
        is("none", 0, x.holds(0));
        int[] types = {0, 1, 3, 4};
        for (int held = 1; held <= 4; held++) {
            for (int i = 0; i < held; i++) {
                x.argument(types[i], PATH);
            }
            x.get(0, UNIQUE_GET, true);
            is("so many", held, x.holds(0));
        }
        x.delete(0);
        is("none any more", 0, x.holds(0));
        noView((y, view) -> y.holds(view));
    }

    private static void keys() {
        section("## Promise 23: keys");
        says("Returns the keys from the root to the segment at which a view is.");
        SegmentYard x = yard();
        one(x, 1, 0, 5);
        one(x, 1, 1, 6);
        is("of two levels", 5006L, x.keys(1));
        drop(x, 1, 0, 0, 5);
        x.open(1, 0, EVERY_TYPE);
        viewsOf((y, view) -> y.keys(view));
        says("Returns for each segment from the root on the number before (0 at first) times 1000, and the key, added; NONE"
            + " if the view is at none.");
        is("at none", NONE, x.keys(0));
        for (int slot = 0; slot < 4; slot++) {
            fill(x, slot, 999, 1, 1);
        }
        list(x, 0, PATH, 1, 0, 3, 0, 4, 0);
        x.insert(0);
        is("the highest keys, which no int holds", 999999999999L, x.keys(0));
        long[] due = {999L, 999999L, 999999999L, 999999999999L};
        for (int level = 0; level < 4; level++) {
            next(x, 1);
            is("the level " + (level + 1), due[level], x.keys(1));
        }
        for (int slot = 0; slot < 4; slot++) {
            fill(x, slot, slot == 3 ? 1 : 0);
        }
        list(x, 0, PATH, 1, 0, 3, 0, 4, 0);
        x.insert(0);
        is("keys that are 0", 1L, x.keys(0));
        go(x, 0, 0, 0, 0);
        is("the key 0 is not NONE", 0L, x.keys(0));
        drop(x, 1, 0, 0, 0);
        is("ahead of a segment", NONE, x.keys(0));
        drop(x, 1, 0, 0, 999);
        is("behind all", NONE, x.keys(0));
        noView((y, view) -> y.keys(view));
    }

    private static void second() {
        section("## Promise 24: second");
        says("Returns the place of the second parent of the segment at which a view is, in the row of the database of"
            + " that.");
        SegmentYard x = tiedYard(LOOSE, LOOSE);
        for (int key = 1; key <= 3; key++) {
            one(x, 0, 0, key);
        }
        one(x, 2, 3, 1);
        one(x, 2, 4, 1, 0, 3);
        is("the row of the second parent", 2, x.second(2));
        is("not its own", 2, x.count(1));
        viewsOf((y, view) -> y.second(view));
        says("Returns the place; NONE if the view is at none, or it has no second parent.");
        one(x, 2, 4, 2, 0, 1);
        is("the first place", 0, x.second(2));
        is("a view that is at none", NONE, x.second(1));
        go(x, 3, 3, 0, 1);
        is("a root", NONE, x.second(3));
        drop(x, 0, 0, 0, 1);
        is("it has none any more", NONE, x.second(2));
        go(x, 3, 4, 0, 1);
        is("it has moved", 1, x.second(3));
        drop(x, 2, 4, 0, 1);
        is("ahead of a segment", NONE, x.second(3));
        noView((y, view) -> y.second(view));
    }

    private static void tied() {
        section("## Promise 25: tied");
        says("Returns of how many segments, of all databases, the one at which a view is is the second parent.");
        SegmentYard x = tiedYard(LOOSE, LOOSE);
        one(x, 0, 0, 1);
        is("none", 0, x.tied(0));
        one(x, 0, 1, 0, 0, 1);
        one(x, 2, 3, 1);
        one(x, 2, 4, 1, 0, 1);
        go(x, 1, 0, 0, 1);
        is("of both databases", 2, x.tied(1));
        viewsOf((y, view) -> y.tied(view));
        says("Returns how many; 0 if the view is at none.");
        is("not a root", 0, x.tied(0));
        is("a root of another type with the same key", 0, tiedAt(x, 3, 3, 1));
        one(x, 0, 1, 5, 0, 1);
        one(x, 0, 1, 5, 0, 2);
        is("one more, and one of another root", 3, x.tied(1));
        for (int i = 0; i < 53; i++) {
            is("insert", OK, one(x, 2, 4, i, 0, 1));
        }
        is("as many as there can be", 56, x.tied(1));
        is("full", FULL, one(x, 2, 4, 0, 0, 1));
        drop(x, 0, 0, 0, 1);
        is("ahead of a segment", 0, x.tied(1));
        is("ahead of all", 0, new SegmentYard().tied(0));
        noView((y, view) -> y.tied(view));
    }

    private static int tiedAt(SegmentYard x, int view, int type, int key) {
        go(x, view, type, 0, key);
        return x.tied(view);
    }
}

/** What the document says of types, segments, views and arguments: for each sentence a test of its own. */
final class BoundsOfTerms extends Yards {
    private BoundsOfTerms() {
    }

    static void run() {
        section("## What it is");
        whole();
        lastCall();
        section("## Terms");
        positionBehindEachCall();
        section("### Types");
        databases();
        twelveTypes();
        parentDefinedEarlier();
        fourLevels();
        oneRootType();
        keysAndRules();
        typesOnlyWithoutSegments();
        section("### Segments and the row");
        sixtySegments();
        parentOfSegment();
        threeFields();
        twins();
        risingKeys();
        newTwins();
        orderOfRow();
        placesFromZero();
        section("### Views");
        fourViews();
        seenTypes();
        fourPositions();
        neitherAtFirst();
        deletedUnderView();
        deletedParentOrHeld();
        staysAhead();
        section("### Arguments");
        fourArguments();
        threeConditions();
        joinedToTheOneAhead();
        fulfilled();
        codes();
        listInOrder();
    }

    // ---- What it is

    private static void whole() {
        says("A hierarchical database with views: types of segments in trees, segments with keys and twins, laid out as"
            + " one row from the roots on; calls that get the first, the next, or the next below a parent, by arguments"
            + " with conditions and codes along a path; holds, replacing, deleting with all that is below, inserting"
            + " along a path; a status for each call; positions that stay sensible when other views insert and delete;"
            + " and segments that belong to a second parent, a root of whatever database, by its key.");
        SegmentYard x = filled();
        SegmentYard other = new SegmentYard();
        is("an object has nothing of another one: types", 0, other.types());
        is("an object has nothing of another one: segments", 0, other.count(0));
        row(x, 0, 10, 1005, 3007, 3002, 1006, 2001, 20);
    }

    private static void lastCall() {
        says("An object is used for at most 512 calls after it has been made; what later calls answer is free.");
        SegmentYard x = new SegmentYard();
        x.type(0, NONE, UNIQUE, FIRST);
        x.open(0, 0, 1);
        for (int call = 3; call + 3 <= 510; call += 4) {
            x.argument(0, 0);
            is("insert, call " + (call + 1), OK, x.insert(0));
            is("get, call " + (call + 2), OK, x.get(0, UNIQUE_GET, true));
            is("delete, call " + (call + 3), OK, x.delete(0));
        }
        is("the call 511", 1, x.argument(0, 0));
        is("the call 512", OK, x.insert(0));
        SegmentYard y = new SegmentYard();
        for (int call = 1; call < 512; call++) {
            y.put(3, 2, call % 1000);
        }
        is("the call 512", 511, y.put(3, 2, 0));
    }

    // ---- Terms

    private static void positionBehindEachCall() {
        says("The position behind each call is that of the row.");
        SegmentYard x = yard();
        one(x, 0, 0, 20);
        stands("the only one", x, 0, 0, 0);
        one(x, 1, 0, 10);
        stands("another view inserts ahead of it", x, 0, 1, 1);
        one(x, 1, 1, 5);
        stands("and below that", x, 0, 2, 2);
        one(x, 1, 0, 30);
        stands("and behind it", x, 0, 2, 2);
        drop(x, 1, 0, 0, 10);
        stands("and deletes what is ahead", x, 0, 0, 0);
    }

    // ---- Types

    private static void databases() {
        says("There are the databases 0 to 2.");
        SegmentYard x = new SegmentYard();
        for (int database = 0; database < 3; database++) {
            is("a root type of database " + database, database, x.type(database, NONE, UNIQUE, FIRST));
            x.open(0, database, EVERY_TYPE);
            is("a root of it", OK, one(x, 0, database, 7));
            is("count", 1, x.count(database));
        }
        for (int none : outside(3)) {
            index("a type of database " + none, () -> x.type(none, NONE, UNIQUE, FIRST));
            index("a view for database " + none, () -> x.open(0, none, 0));
            index("count of database " + none, () -> x.count(none));
        }
    }

    private static void twelveTypes() {
        says("Types of segments are numbered from 0 in the order in which they are defined, at most 12.");
        SegmentYard x = new SegmentYard();
        int[] databases = {2, 0, 0, 1, 2, 1, 0, 0, 2, 1, 1, 0};
        int[] parents = {NONE, NONE, 1, NONE, 0, 3, 2, 1, 4, 5, 3, 6};
        for (int type = 0; type < 12; type++) {
            is("types ahead of type " + type, type, x.types());
            int keys = type % 3;
            is("type", type, x.type(databases[type], parents[type], parents[type] == NONE ? UNIQUE : keys, HERE));
        }
        state("a thirteenth one of database 0", () -> x.type(0, 1, UNIQUE, FIRST));
        state("a thirteenth one of database 1", () -> x.type(1, 3, UNIQUE, FIRST));
        state("a thirteenth one of database 2", () -> x.type(2, 0, UNIQUE, FIRST));
        is("types", 12, x.types());
        index("the type 12", () -> x.argument(12, 0));
        is("the type 11", 1, x.argument(11, 0));
    }

    private static void parentDefinedEarlier() {
        says("A type is of a database; it is the root type of that, or has a parent type, which was defined earlier, of"
            + " the same database.");
        SegmentYard x = new SegmentYard();
        index("below the first one itself", () -> x.type(0, 0, UNIQUE, FIRST));
        is("the root type of database 0", 0, x.type(0, NONE, UNIQUE, FIRST));
        is("the root type of database 1", 1, x.type(1, NONE, UNIQUE, FIRST));
        for (int none : new int[] {LOW, -3, -2, 2, 3, 11, 12, HIGH}) {
            index("below the type " + none, () -> x.type(0, none, UNIQUE, FIRST));
        }
        range("below a type of another database", () -> x.type(0, 1, UNIQUE, FIRST));
        range("below a type of another database", () -> x.type(1, 0, UNIQUE, FIRST));
        range("below a type of another database, in one without types", () -> x.type(2, 0, UNIQUE, FIRST));
        is("below the one that was defined last", 2, x.type(1, 1, UNIQUE, FIRST));
        is("types", 3, x.types());
    }

    private static void fourLevels() {
        says("A root type has the level 1, each other type a level that is 1 more than that of its parent, at most 4.");
        SegmentYard x = new SegmentYard();
        x.type(2, NONE, UNIQUE, FIRST);
        x.type(1, NONE, UNIQUE, FIRST);
        for (int level = 2; level <= 4; level++) {
            is("the level " + level, level, x.type(1, level - 1, MANY, FIRST));
        }
        state("the level 5", () -> x.type(1, 4, MANY, FIRST));
        is("once more the level 4", 5, x.type(1, 3, MANY, FIRST));
        state("once more the level 5", () -> x.type(1, 5, MANY, FIRST));
        is("the level 2 in another database", 6, x.type(2, 0, MANY, FIRST));
        is("types", 7, x.types());
    }

    private static void oneRootType() {
        says("Each database has one root type at most.");
        SegmentYard x = new SegmentYard();
        for (int database = 2; database >= 0; database--) {
            int mine = database;
            is("the first one", 2 - database, x.type(database, NONE, UNIQUE, FIRST));
            state("a second one", () -> x.type(mine, NONE, UNIQUE, LAST));
        }
        is("types", 3, x.types());
        is("one that is no root type", 3, x.type(0, 2, UNIQUE, FIRST));
    }

    private static void keysAndRules() {
        says("A type has keys: UNIQUE, MANY or UNKEYED (a root type is UNIQUE), and a rule: FIRST, LAST or HERE.");
        SegmentYard x = new SegmentYard();
        range("a root type that is MANY", () -> x.type(0, NONE, MANY, FIRST));
        range("a root type that is UNKEYED", () -> x.type(0, NONE, UNKEYED, FIRST));
        for (int rule = FIRST; rule <= HERE; rule++) {
            is("a root type by rule " + rule, rule, x.type(rule, NONE, UNIQUE, rule));
        }
        int type = 3;
        for (int keys = UNIQUE; keys <= UNKEYED; keys++) {
            for (int rule = FIRST; rule <= HERE; rule++) {
                is("keys " + keys + ", rule " + rule, type++, x.type(0, 0, keys, rule));
            }
        }
        SegmentYard y = new SegmentYard();
        y.type(0, NONE, UNIQUE, FIRST);
        for (int none : outside(3)) {
            range("keys " + none, () -> y.type(0, 0, none, FIRST));
            range("rule " + none, () -> y.type(0, 0, UNIQUE, none));
            range("rule " + none + " of a root type", () -> y.type(1, NONE, UNIQUE, none));
        }
        is("types", 1, y.types());
    }

    private static void typesOnlyWithoutSegments() {
        says("Types of a database can be defined as long as it has no segments.");
        SegmentYard x = new SegmentYard();
        x.type(0, NONE, UNIQUE, FIRST);
        x.type(1, NONE, UNIQUE, FIRST);
        x.type(1, 1, UNKEYED, FIRST);
        x.tie(2, 0, MAKE, LOOSE);
        x.open(0, 0, EVERY_TYPE);
        x.open(1, 1, EVERY_TYPE);
        one(x, 1, 1, 5);
        state("with one segment", () -> x.type(1, 1, UNKEYED, FIRST));
        is("in a database without one", 3, x.type(0, 0, UNKEYED, FIRST));
        one(x, 1, 2, 6, 0, 7);
        is("a root is made in that", 1, x.count(0));
        state("with a segment that was made", () -> x.type(0, 0, UNKEYED, FIRST));
        drop(x, 0, 0, 0, 7);
        is("without segments again", 4, x.type(0, 0, UNKEYED, FIRST));
        state("the other database has some still", () -> x.type(1, 1, UNKEYED, FIRST));
        drop(x, 1, 1, 0, 5);
        is("nor has that any", 5, x.type(1, 1, UNKEYED, FIRST));
    }

    // ---- Segments and the row

    private static void sixtySegments() {
        says("There can be 60 segments in all.");
        SegmentYard x = new SegmentYard();
        for (int database = 0; database < 3; database++) {
            x.type(database, NONE, UNIQUE, FIRST);
            x.open(database, database, EVERY_TYPE);
        }
        for (int i = 0; i < 60; i++) {
            is("segment " + (i + 1), OK, one(x, i % 3, i % 3, i));
        }
        for (int database = 0; database < 3; database++) {
            is("one more", FULL, one(x, database, database, 999));
            is("count", 20, x.count(database));
        }
        drop(x, 2, 2, 0, 59);
        is("the sixtieth anew, in another database", OK, one(x, 0, 0, 999));
        is("one more", FULL, one(x, 2, 2, 59));
        SegmentYard y = new SegmentYard();
        y.type(1, NONE, UNIQUE, FIRST);
        y.open(0, 1, 1);
        for (int i = 0; i < 60; i++) {
            is("segment " + (i + 1) + " of one database", OK, one(y, 0, 0, 999 - i));
        }
        is("one more in one database", FULL, one(y, 0, 0, 0));
        is("the last place", 999, y.rowAt(1, 59));
        is("the last place anew", 999, y.rowAnew(1, 59));
        is("the first place", 940, y.rowAnew(1, 0));
    }

    private static void parentOfSegment() {
        says("A segment is of a type, and has a parent, a segment of the parent type, if that is no root type.");
        SegmentYard x = filled();
        int[] types = {0, 1, 3, 3, 1, 2, 0};
        long[] keys = {10, 10005, 10005007, 10005002, 10006, 10001, 20};
        for (int place = 0; place < 7; place++) {
            next(x, 0);
            is("type", types[place], x.rowAt(0, place) / 1000);
            is("keys from the root on", keys[place], x.keys(0));
        }
    }

    private static void threeFields() {
        says("It has three fields, 0 to 2, each a number from 0 to 999; the field 0 is its key.");
        SegmentYard x = new SegmentYard();
        x.type(0, NONE, UNIQUE, FIRST);
        for (int type = 1; type < 12; type++) {
            x.type(0, 0, UNIQUE, FIRST);
        }
        x.open(0, 0, EVERY_TYPE);
        is("the lowest numbers", OK, one(x, 0, 0, 0, 0, 0));
        is("the highest numbers", OK, one(x, 0, 11, 999, 999, 999));
        row(x, 0, 0, 11999);
        for (int field = 0; field < 3; field++) {
            is("the lowest number", 0, x.fieldAt(0, 0, field));
            is("the highest number", 999, x.fieldAt(0, 1, field));
        }
        for (int none : outside(3)) {
            index("field " + none, () -> x.fieldAt(0, 0, none));
        }
        for (int number : outside(1000)) {
            range("number " + number, () -> x.put(0, 0, number));
        }
        one(x, 0, 11, 1, 2, 3);
        is("the key", 1, x.fieldAt(0, 1, 0));
        is("field 1", 2, x.fieldAt(0, 1, 1));
        is("field 2", 3, x.fieldAt(0, 1, 2));
        is("the key in the row", 11001, x.rowAt(0, 1));
    }

    private static void twins() {
        says("Twins are the segments of one type with one parent (the roots of a database are twins of each other).");
        SegmentYard x = yard();
        one(x, 0, 0, 1);
        one(x, 0, 1, 7);
        is("the same key in another type", OK, one(x, 0, 2, 7));
        is("the same key in the same type", DOUBLE, one(x, 0, 2, 7));
        one(x, 0, 1, 8);
        one(x, 0, 0, 2);
        is("the same key below another parent", OK, one(x, 0, 2, 7));
        one(x, 0, 1, 6);
        row(x, 0, 1, 1007, 1008, 2007, 2, 1006, 2007);
        x.open(0, 0, EVERY_TYPE);
        int[] firsts = {1, 5};
        int[] lasts = {2, 5};
        for (int i = 0; i < 2; i++) {
            list(x, 1, FIRST_TWIN);
            next(x, 0);
            is("the first twin below each root", firsts[i], x.at(0));
        }
        x.open(0, 0, EVERY_TYPE);
        for (int i = 0; i < 2; i++) {
            list(x, 1, LAST_TWIN);
            next(x, 0);
            is("the last twin below each root", lasts[i], x.at(0));
        }
        list(x, 0, FIRST_TWIN);
        unique(x, 0);
        is("the first root", 0, x.at(0));
        list(x, 0, FIRST_TWIN);
        is("there is no other first root", NOT_FOUND, next(x, 0));
        list(x, 0, LAST_TWIN);
        unique(x, 0);
        is("the last root", 4, x.at(0));
        is("roots with the same key", DOUBLE, one(x, 0, 0, 1));
        one(x, 2, 5, 1);
        is("a root of another database is no twin", 1, x.count(1));
    }

    private static void risingKeys() {
        says("Twins of a type that is UNIQUE or MANY lie by rising keys; no two of a type that is UNIQUE have the same"
            + " key.");
        int[] keys = {500, 0, 999, 499, 501, 1, 998};
        for (int rule = FIRST; rule <= HERE; rule++) {
            SegmentYard x = new SegmentYard();
            x.type(0, NONE, UNIQUE, rule);
            x.type(0, 0, UNIQUE, rule);
            x.type(0, 0, MANY, rule);
            x.open(0, 0, EVERY_TYPE);
            for (int key : keys) {
                is("a root", OK, one(x, 0, 0, key));
            }
            go(x, 0, 0, 0, 500);
            for (int key : keys) {
                is("a UNIQUE one", OK, one(x, 0, 1, key));
                is("a MANY one", OK, one(x, 0, 2, key));
            }
            for (int key : keys) {
                is("a root twice", DOUBLE, one(x, 0, 0, key));
                is("a UNIQUE one twice", DOUBLE, one(x, 0, 1, key));
                is("a MANY one twice", OK, one(x, 0, 2, key));
            }
            row(x, 0, 0, 1, 499, 500, 1000, 1001, 1499, 1500, 1501, 1998, 1999, 2000, 2000, 2001, 2001, 2499, 2499,
                2500, 2500, 2501, 2501, 2998, 2998, 2999, 2999, 501, 998, 999);
        }
    }

    private static void newTwins() {
        says("New twins of a type that is MANY are put among those with the same key, new ones of a type that is UNKEYED"
            + " among all twins: by FIRST ahead of these, by LAST behind these; by HERE ahead of the segment at which"
            + " the view is that inserts, if that is one of these, otherwise ahead of all of these.");
        firstAndLast(MANY, FIRST, 1000, 1000, 1004, 1005, 1005, 1006, 1999);
        seconds(firstAndLast(MANY, FIRST), 0, 0, 7, 3, 4, 5, 1, 2, 6);
        firstAndLast(MANY, LAST, 1000, 1000, 1004, 1005, 1005, 1006, 1999);
        seconds(firstAndLast(MANY, LAST), 0, 0, 3, 7, 4, 1, 5, 2, 6);
        firstAndLast(MANY, HERE, 1000, 1000, 1004, 1005, 1005, 1006, 1999);
        seconds(firstAndLast(MANY, HERE), 0, 0, 7, 3, 4, 5, 1, 2, 6);
        firstAndLast(UNKEYED, FIRST, 1000, 1999, 1005, 1004, 1000, 1006, 1005);
        firstAndLast(UNKEYED, LAST, 1005, 1006, 1000, 1004, 1005, 1999, 1000);
        firstAndLast(UNKEYED, HERE, 1000, 1999, 1005, 1004, 1000, 1006, 1005);
        hereAmongTheSameKey();
        hereAmongAllTwins();
        hereOnlyAtATwin(MANY);
        hereOnlyAtATwin(UNKEYED);
    }

    /** A root, and below it, told by field 1, twins with the keys 5, 6, 0, 4, 5, 999, 0, by a view that is at the root. */
    private static SegmentYard firstAndLast(int keys, int rule) {
        SegmentYard x = here(keys, rule);
        one(x, 0, 0, 1);
        int[] inserted = {5, 6, 0, 4, 5, 999, 0};
        for (int i = 0; i < inserted.length; i++) {
            go(x, 0, 0, 0, 1);
            one(x, 0, 1, inserted[i], i + 1);
        }
        return x;
    }

    private static void firstAndLast(int keys, int rule, int... twins) {
        SegmentYard x = firstAndLast(keys, rule);
        is("count", twins.length + 1, x.count(0));
        for (int i = 0; i < twins.length; i++) {
            is("the twin " + i, twins[i], x.rowAt(0, i + 1));
            is("the twin " + i + " anew", twins[i], x.rowAnew(0, i + 1));
        }
    }

    /** Type 0 (root), 1 below it, 2 below 1; the views 0 and 1 see all. */
    private static SegmentYard here(int keys, int rule) {
        SegmentYard x = new SegmentYard();
        x.type(0, NONE, UNIQUE, FIRST);
        x.type(0, 0, keys, rule);
        x.type(0, 1, UNKEYED, FIRST);
        x.open(0, 0, EVERY_TYPE);
        x.open(1, 0, EVERY_TYPE);
        return x;
    }

    private static void hereAmongTheSameKey() {
        SegmentYard x = here(MANY, HERE);
        one(x, 0, 0, 1);
        one(x, 0, 1, 4, 90);
        one(x, 0, 1, 6, 91);
        one(x, 0, 1, 5, 1);
        seconds(x, 0, 0, 90, 1, 91);
        one(x, 0, 1, 5, 2);
        seconds(x, 0, 0, 90, 2, 1, 91);
        go(x, 0, 1, 1, 1);
        one(x, 0, 1, 5, 3);
        seconds(x, 0, 0, 90, 2, 3, 1, 91);
        go(x, 0, 1, 0, 6);
        one(x, 0, 1, 5, 4);
        seconds(x, 0, 0, 90, 4, 2, 3, 1, 91);
        go(x, 0, 1, 0, 4);
        one(x, 0, 1, 5, 5);
        seconds(x, 0, 0, 90, 5, 4, 2, 3, 1, 91);
        go(x, 0, 1, 1, 3);
        one(x, 0, 1, 7, 6);
        seconds(x, 0, 0, 90, 5, 4, 2, 3, 1, 91, 6);
        row(x, 0, 1, 1004, 1005, 1005, 1005, 1005, 1005, 1006, 1007);
    }

    private static void hereAmongAllTwins() {
        SegmentYard x = here(UNKEYED, HERE);
        one(x, 0, 0, 1);
        one(x, 0, 1, 4, 1);
        one(x, 0, 1, 6, 2);
        seconds(x, 0, 0, 2, 1);
        go(x, 0, 1, 1, 1);
        one(x, 0, 1, 9, 3);
        seconds(x, 0, 0, 2, 3, 1);
        go(x, 0, 0, 0, 1);
        one(x, 0, 1, 5, 4);
        seconds(x, 0, 0, 4, 2, 3, 1);
        row(x, 0, 1, 1005, 1006, 1009, 1004);
    }

    /** A view that is below a twin, ahead of one, or at one below another parent, is at none of these. */
    private static void hereOnlyAtATwin(int keys) {
        SegmentYard x = here(keys, HERE);
        one(x, 0, 0, 1);
        one(x, 0, 1, 5, 1);
        one(x, 0, 1, 5, 2);
        go(x, 0, 1, 1, 1);
        one(x, 0, 2, 8, 3);
        one(x, 0, 1, 5, 4);
        seconds(x, 0, 0, 4, 2, 1, 3);
        go(x, 0, 1, 1, 2);
        drop(x, 1, 1, 1, 2);
        stands("ahead of a twin", x, 0, NONE, 2);
        list(x, 0, 0, 1, 0);
        fill(x, 0, 5, 5);
        is("insert", OK, x.insert(0));
        seconds(x, 0, 0, 5, 4, 1, 3);
        go(x, 1, 1, 1, 1);
        go(x, 0, 0, 0, 1);
        one(x, 0, 1, 5, 6);
        seconds(x, 0, 0, 6, 5, 4, 1, 3);
        one(x, 0, 0, 2);
        one(x, 0, 1, 5, 7);
        same(x, 0, 0, 0, 1);
        list(x, 1, 0);
        fill(x, 0, 5, 8);
        is("insert below another parent", OK, x.insert(0));
        seconds(x, 0, 0, 8, 6, 5, 4, 1, 3, 0, 7);
        go(x, 0, 1, 1, 1);
        same(x, 0, 0, 0, 2);
        list(x, 1, 0);
        fill(x, 0, 5, 9);
        is("insert below the other parent", OK, x.insert(0));
        seconds(x, 0, 0, 8, 6, 5, 4, 1, 3, 0, 9, 7);
    }

    private static void orderOfRow() {
        says("The row of a database has its segments in this order: the roots, as they lie; behind each segment all that"
            + " is below it: first the segments of its first child type (types in the order in which they were"
            + " defined), as they lie, each with all that is below it, then those of the next child type, and so on.");
        SegmentYard x = new SegmentYard();
        int[] databases = {1, 0, 0, 1, 0, 0, 0, 0, 0, 0};
        int[] parents = {NONE, NONE, 1, 0, 1, 4, 2, 2, 1, 6};
        for (int type = 0; type < 10; type++) {
            x.type(databases[type], parents[type], parents[type] == NONE ? UNIQUE : MANY, LAST);
        }
        x.open(0, 0, EVERY_TYPE);
        is("an empty row", 0, x.count(0));
        one(x, 0, 1, 2);
        one(x, 0, 8, 80);
        one(x, 0, 1, 1);
        row(x, 0, 1001, 1002, 8080);
        one(x, 0, 8, 81);
        one(x, 0, 4, 41);
        one(x, 0, 5, 51);
        one(x, 0, 4, 40);
        one(x, 0, 2, 21);
        one(x, 0, 7, 70);
        one(x, 0, 6, 61);
        one(x, 0, 6, 60);
        one(x, 0, 9, 91);
        one(x, 0, 9, 90);
        go(x, 0, 6, 0, 61);
        one(x, 0, 9, 92);
        one(x, 0, 2, 20);
        one(x, 0, 7, 71);
        row(x, 0, 1001, 2020, 7071, 2021, 6060, 9090, 9091, 6061, 9092, 7070, 4040, 4041, 5051, 8081, 1002, 8080);
        one(x, 0, 1, 3);
        row(x, 0, 1001, 2020, 7071, 2021, 6060, 9090, 9091, 6061, 9092, 7070, 4040, 4041, 5051, 8081, 1002, 8080, 1003);
        drop(x, 0, 2, 0, 21);
        row(x, 0, 1001, 2020, 7071, 4040, 4041, 5051, 8081, 1002, 8080, 1003);
    }

    private static void placesFromZero() {
        says("Places in the row are numbered from 0.");
        SegmentYard x = new SegmentYard();
        x.type(0, NONE, UNIQUE, FIRST);
        x.open(0, 0, 1);
        index("the place 0 of an empty row", () -> x.rowAt(0, 0));
        one(x, 0, 0, 5);
        is("the only place", 5, x.rowAt(0, 0));
        is("the view is at it", 0, x.at(0));
        for (int none : outside(1)) {
            index("place " + none, () -> x.rowAt(0, none));
        }
        one(x, 0, 0, 4);
        is("the last place", 5, x.rowAt(0, 1));
        index("the place behind it", () -> x.rowAt(0, 2));
    }

    // ---- Views

    private static void fourViews() {
        says("There are the views 0 to 3.");
        SegmentYard x = new SegmentYard();
        x.type(0, NONE, UNIQUE, FIRST);
        for (int view = 0; view < 4; view++) {
            x.open(view, 0, 1);
            is("inserting by view " + view, OK, one(x, view, 0, view));
        }
        for (int view = 0; view < 4; view++) {
            is("each has its own position", view, x.at(view));
        }
        for (int none : outside(4)) {
            index("the view " + none, () -> x.open(none, 0, 1));
            index("the view " + none, () -> x.at(none));
        }
    }

    private static void seenTypes() {
        says("A view is opened for a database and a set of types; it sees the segments of those types that are in the"
            + " set, and whose parent type, the parent type of that, and so on are in the set as well.");
        SegmentYard x = yard();
        for (int type : new int[] {0, 1, 3, 4, 2}) {
            one(x, 0, type, 1);
        }
        one(x, 2, 5, 1);
        row(x, 0, 1, 1001, 3001, 4001, 2001);
        int[] sets = {0, 1, 2, 3, 8, 16, 27, 31, 11, 26, 25, 19, 30, 5, 32 + 64, 4095, 4095 - 2, 4095 - 8};
        int[] seen = {0, 1, 0, 2, 0, 0, 4, 5, 3, 0, 1, 2, 0, 2, 0, 5, 2, 3};
        for (int i = 0; i < sets.length; i++) {
            x.open(3, 0, sets[i]);
            int steps = 0;
            while (steps < 9 && next(x, 3) != END) {
                steps++;
            }
            is("how many are seen with the set " + sets[i], seen[i], steps);
        }
        x.open(3, 1, 31);
        is("types of another database", END, next(x, 3));
        x.open(3, 1, 32);
        is("the root type of that", OK, next(x, 3));
        x.open(3, 2, EVERY_TYPE);
        is("a database without types", END, next(x, 3));
    }

    private static void fourPositions() {
        says("A view has a position in the row of its database: it is at a segment, ahead of a segment, ahead of all (as"
            + " when it was opened), or behind all.");
        SegmentYard x = filled();
        stands("ahead of all", x, 0, NONE, 0);
        next(x, 0);
        stands("at the first segment", x, 0, 0, 0);
        go(x, 0, 0, 0, 20);
        stands("at the last segment", x, 0, 6, 6);
        go(x, 0, 3, 0, 7);
        drop(x, 1, 3, 0, 7);
        stands("ahead of a segment", x, 0, NONE, 2);
        is("next", OK, next(x, 0));
        stands("at that segment", x, 0, 2, 2);
        go(x, 0, 0, 0, 20);
        drop(x, 1, 0, 0, 20);
        stands("behind all", x, 0, NONE, 5);
        is("next", END, next(x, 0));
        stands("ahead of all", x, 0, NONE, 0);
        go(x, 0, 0, 0, 10);
        drop(x, 1, 0, 0, 10);
        stands("behind all of an empty row", x, 0, NONE, 0);
        one(x, 1, 0, 1);
        stands("behind all", x, 0, NONE, 1);
        x.open(0, 0, EVERY_TYPE);
        stands("opened anew", x, 0, NONE, 0);
    }

    private static void neitherAtFirst() {
        says("It may have a parent, which is a segment, and may hold segments; neither at first.");
        SegmentYard x = filled();
        is("no parent", NONE, x.parent(0));
        is("nothing held", 0, x.holds(0));
        is("no parent", NO_PARENT, within(x, 0));
        is("nothing held", NOT_HELD, x.replace(0));
        is("nothing held", NOT_HELD, x.delete(0));
        hold(x, 0, 3, 0, 2);
        is("a parent", 3, x.parent(0));
        is("one held", 1, x.holds(0));
        x.open(0, 0, EVERY_TYPE);
        is("no parent, opened anew", NONE, x.parent(0));
        is("nothing held, opened anew", 0, x.holds(0));
    }

    private static void deletedUnderView() {
        says("If a segment is deleted at which or ahead of which a view is, the view is ahead of the next segment of the"
            + " row then that is not deleted with it; behind all, if there is none.");
        SegmentYard x = filled();
        go(x, 1, 1, 0, 5);
        drop(x, 0, 1, 0, 5);
        stands("at it, and what is below it is deleted too", x, 1, NONE, 1);
        stands("the view that deletes it", x, 0, NONE, 1);
        is("the row", 1006, x.rowAt(0, 1));
        drop(x, 0, 1, 0, 6);
        stands("ahead of it", x, 1, NONE, 1);
        drop(x, 0, 0, 0, 10);
        stands("ahead of one below it", x, 1, NONE, 0);
        is("the next one is a root", 20, x.rowAt(0, 0));
        drop(x, 0, 0, 0, 20);
        stands("none is left", x, 1, NONE, 0);
        one(x, 0, 0, 30);
        stands("behind all", x, 1, NONE, 1);
        deletedBelow();
        deletedAheadOfUnseen();
        deletedWithAll();
    }

    private static void deletedBelow() {
        SegmentYard x = filled();
        go(x, 1, 3, 0, 2);
        drop(x, 0, 0, 0, 10);
        stands("at one below it", x, 1, NONE, 0);
        one(x, 0, 0, 5);
        stands("ahead of the next root", x, 1, NONE, 1);
        x = filled();
        go(x, 1, 0, 0, 20);
        drop(x, 0, 0, 0, 20);
        stands("at the last one", x, 1, NONE, 6);
        x = filled();
        go(x, 1, 0, 0, 20);
        drop(x, 0, 0, 0, 10);
        stands("at one that stays", x, 1, 0, 0);
        x = filled();
        go(x, 1, 0, 0, 10);
        drop(x, 0, 1, 0, 5);
        stands("above the one that is deleted", x, 1, 0, 0);
        x = filled();
        x.open(1, 1, EVERY_TYPE);
        one(x, 1, 5, 1);
        drop(x, 0, 0, 0, 10);
        stands("in another database", x, 1, 0, 0);
    }

    /** The next segment of the row, not the next one that the view sees. */
    private static void deletedAheadOfUnseen() {
        SegmentYard x = filled();
        x.open(1, 0, 3);
        go(x, 1, 1, 0, 6);
        drop(x, 0, 1, 0, 6);
        stands("ahead of one that it does not see", x, 1, NONE, 4);
        same(x, 0, 0, 0, 10);
        list(x, 1, 0);
        fill(x, 0, 8);
        x.insert(0);
        row(x, 0, 10, 1005, 3007, 3002, 1008, 2001, 20);
        stands("ahead of that one still", x, 1, NONE, 5);
        next(x, 1);
        stands("at the next one that it sees", x, 1, 6, 6);
    }

    /** What is tied with ALL to a root is deleted with it, wherever it lies. */
    private static void deletedWithAll() {
        SegmentYard x = tiedYard(ALL, LOOSE);
        for (int root = 1; root <= 3; root++) {
            one(x, 0, 0, root);
        }
        for (int i = 0; i < 3; i++) {
            same(x, 0, 0, 0, 2);
            list(x, 1, 0);
            fill(x, 0, 5 + i, 0, i < 2 ? 1 : 3);
            x.insert(0);
        }
        row(x, 0, 1, 2, 1005, 1006, 1007, 3);
        go(x, 0, 1, 0, 5);
        drop(x, 1, 0, 0, 1);
        row(x, 0, 2, 1007, 3);
        stands("ahead of the first one that is not deleted with it", x, 0, NONE, 1);
        go(x, 0, 1, 0, 7);
        drop(x, 1, 0, 0, 3);
        row(x, 0, 2);
        stands("behind all, for the root behind it is deleted with it", x, 0, NONE, 1);
        one(x, 1, 0, 9);
        stands("behind all", x, 0, NONE, 2);
    }

    private static void deletedParentOrHeld() {
        says("If the parent of a view is deleted, it has none; if one of the segments that a view holds is deleted, it"
            + " holds none.");
        for (int deleted = 0; deleted < 3; deleted++) {
            SegmentYard x = filled();
            list(x, 0, PATH, 1, PATH | PARENTAGE, 3, 0);
            x.get(1, UNIQUE_GET, true);
            is("three held", 3, x.holds(1));
            is("the parent", 1, x.parent(1));
            drop(x, 0, 3, 0, 2);
            is("another one is deleted", 3, x.holds(1));
            is("the parent stays", 1, x.parent(1));
            int[] types = {3, 1, 0};
            int[] keys = {7, 5, 10};
            drop(x, 0, types[deleted], 0, keys[deleted]);
            is("one of those held is deleted, level " + (3 - deleted), 0, x.holds(1));
            is("the parent", deleted == 0 ? 1 : NONE, x.parent(1));
            is("nothing is held", NOT_HELD, deleted == 1 ? x.delete(1) : x.replace(1));
            is("within", deleted == 0 ? NOT_FOUND : NO_PARENT, within(x, 1));
        }
        SegmentYard x = filled();
        go(x, 1, 0, 0, 20);
        next(x, 1);
        is("ahead of all, with a parent", 6, x.parent(1));
        drop(x, 0, 0, 0, 20);
        is("the parent is deleted", NONE, x.parent(1));
        stands("the position stays", x, 1, NONE, 0);
        hold(x, 1, 1, 0, 6);
        drop(x, 0, 1, 0, 5);
        is("the one that is held stays", 1, x.holds(1));
        is("it has moved", 1, x.at(1));
        is("it can be deleted", OK, x.delete(1));
    }

    private static void staysAhead() {
        says("A view that is ahead of a segment stays ahead of that one, whatever is inserted; one that is behind all"
            + " stays so.");
        SegmentYard x = filled();
        go(x, 1, 1, 0, 6);
        drop(x, 0, 1, 0, 6);
        stands("ahead of the segment of type 2", x, 1, NONE, 4);
        same(x, 0, 0, 0, 10);
        fill(x, 0, 6);
        list(x, 1, 0);
        x.insert(0);
        stands("one is inserted right ahead of it", x, 1, NONE, 5);
        one(x, 0, 0, 5);
        stands("a root at the start", x, 1, NONE, 6);
        one(x, 0, 0, 15);
        stands("a root behind it", x, 1, NONE, 6);
        same(x, 0, 0, 0, 10);
        list(x, 2, 0);
        fill(x, 0, 0);
        x.insert(0);
        stands("a twin ahead of it", x, 1, NONE, 7);
        next(x, 1);
        stands("next", x, 1, 7, 7);
        is("it is that one", 2001, x.rowAt(0, 7));
        go(x, 1, 0, 0, 20);
        drop(x, 0, 0, 0, 20);
        stands("behind all", x, 1, NONE, x.count(0));
        one(x, 0, 0, 999);
        stands("behind all, with one inserted", x, 1, NONE, x.count(0));
        is("none is behind it", END, next(x, 1));
        aheadOfAllAndMade();
    }

    private static void aheadOfAllAndMade() {
        SegmentYard x = tiedYard(LOOSE, LOOSE);
        x.open(1, 0, EVERY_TYPE);
        one(x, 0, 0, 5);
        stands("ahead of all, whatever is inserted", x, 1, NONE, 0);
        go(x, 1, 0, 0, 5);
        one(x, 0, 0, 6);
        drop(x, 0, 0, 0, 5);
        stands("ahead of a root", x, 1, NONE, 0);
        go(x, 0, 0, 0, 6);
        one(x, 0, 1, 1, 0, 2);
        row(x, 0, 2, 6, 1001);
        stands("a root is made ahead of that", x, 1, NONE, 1);
        go(x, 1, 1, 0, 1);
        drop(x, 0, 1, 0, 1);
        stands("behind all", x, 1, NONE, 2);
        go(x, 0, 0, 0, 6);
        one(x, 0, 1, 1, 0, 9);
        row(x, 0, 2, 6, 1001, 9);
        stands("a root is made", x, 1, NONE, 4);
    }

    // ---- Arguments

    private static void fourArguments() {
        says("Arguments are listed ahead of a call, at most 4; getting, inserting, replacing and deleting empty the list,"
            + " whatever their status is.");
        SegmentYard x = filled();
        is("an empty list", 0, x.clear());
        for (int listed = 1; listed <= 4; listed++) {
            is("listed", listed, x.argument(0, 0));
        }
        state("a fifth one", () -> x.argument(0, 0));
        is("four are listed", 4, x.clear());
        list(x, 0, PATH, 1, PATH, 3, PATH, 4, PATH);
        for (int slot = 0; slot < 4; slot++) {
            fill(x, slot, 30);
        }
        is("a call with four", OK, x.insert(0));
        is("behind insert", 0, x.clear());
        list(x, 0, 0);
        is("get", OK, x.get(0, UNIQUE_GET, true));
        is("behind get", 0, x.clear());
        list(x, 0, 0);
        is("replace", OK, x.replace(0));
        is("behind replace", 0, x.clear());
        hold(x, 0, 0, 0, 30);
        list(x, 0, 0);
        is("delete", OK, x.delete(0));
        is("behind delete", 0, x.clear());
        for (Refusals.Refusal refusal : Refusals.all()) {
            SegmentYard y = refusal.ready();
            is(refusal.name(), refusal.status(), refusal.call().on(y));
            is("behind " + refusal.name(), 0, y.clear());
        }
        is("END", END, next(x, 0));
        is("behind END", 0, x.clear());
    }

    private static void threeConditions() {
        says("An argument has a type, codes, and up to 3 conditions.");
        SegmentYard x = filled();
        x.argument(0, 0);
        for (int conditions = 1; conditions <= 3; conditions++) {
            is("conditions", conditions, x.condition(false, conditions - 1, AT_MOST, 10));
        }
        state("a fourth one", () -> x.condition(true, 0, SAME, 20));
        is("get", OK, unique(x, 0));
        is("the three hold", 0, x.at(0));
        for (int argument = 1; argument <= 4; argument++) {
            x.argument(argument == 4 ? 4 : argument == 3 ? 3 : argument - 1, 0);
            for (int conditions = 1; conditions <= 3; conditions++) {
                is("of each argument", conditions, x.condition(true, 2, SAME, 0));
            }
        }
        state("a thirteenth one", () -> x.condition(true, 0, SAME, 20));
        is("a call with twelve conditions", NOT_FOUND, unique(x, 0));
        x.argument(0, 0);
        is("an argument begins without any", 1, x.condition(true, 0, SAME, 20));
        is("get", OK, unique(x, 0));
        is("the one with that key", 6, x.at(0));
    }

    private static void joinedToTheOneAhead() {
        says("A condition has a field, a comparison and a number; each but the first one is joined to the one ahead of it"
            + " by AND or by OR.");
        SegmentYard x = filled();
        for (int isOr = 0; isOr < 2; isOr++) {
            x.argument(0, 0);
            x.condition(isOr == 1, 0, SAME, 20);
            is("the first one alone", OK, unique(x, 0));
            is("how the first one is joined", 6, x.at(0));
            x.argument(0, 0);
            x.condition(isOr == 1, 0, SAME, 10);
            x.condition(true, 0, SAME, 20);
            unique(x, 0);
            is("the second one by OR", 0, x.at(0));
            x.argument(0, 0);
            x.condition(isOr == 1, 0, SAME, 10);
            x.condition(false, 0, SAME, 20);
            is("the second one by AND", NOT_FOUND, unique(x, 0));
        }
    }

    private static void fulfilled() {
        says("A segment fulfils an argument if it has no condition, or if, in one of the parts into which they are cut"
            + " at each OR, it fulfils all conditions.");
        SegmentYard x = filled();
        list(x, 0, 0);
        is("no condition", OK, unique(x, 0));
        boolean[] is = {false, true};
        for (boolean a : is) {
            for (boolean b : is) {
                is("one", a, meets(x, new boolean[] {a}, false, false));
                is("a and b", a && b, meets(x, new boolean[] {a, b}, false, false));
                is("a or b", a || b, meets(x, new boolean[] {a, b}, true, false));
                for (boolean c : is) {
                    boolean[] all = {a, b, c};
                    is("a and b and c", a && b && c, meets(x, all, false, false));
                    is("a and b or c", a && b || c, meets(x, all, false, true));
                    is("a or b and c", a || b && c, meets(x, all, true, false));
                    is("a or b or c", a || b || c, meets(x, all, true, true));
                }
            }
        }
    }

    private static void is(String what, boolean due, boolean answer) {
        is(what, due ? 1 : 0, answer ? 1 : 0);
    }

    /** Whether the root with the key 10 is got by conditions that it fulfils, or does not fulfil. */
    private static boolean meets(SegmentYard x, boolean[] fulfilled, boolean isSecondOr, boolean isThirdOr) {
        int[] fields = {10, 2, 0};
        x.open(0, 0, EVERY_TYPE);
        x.argument(0, 0);
        for (int i = 0; i < fulfilled.length; i++) {
            x.condition(i == 1 ? isSecondOr : isThirdOr, i, fulfilled[i] ? SAME : UNLIKE, fields[i]);
        }
        return unique(x, 0) == OK && x.at(0) == 0;
    }

    private static void codes() {
        says("The codes are a set: PATH, FIRST_TWIN, LAST_TWIN, HELD_HERE, PARENTAGE and KEPT.");
        SegmentYard x = filled();
        for (int codes = 0; codes < 64; codes++) {
            is("codes " + codes, 1, x.argument(0, codes));
            x.clear();
        }
        for (int none : outside(64)) {
            range("codes " + none, () -> x.argument(0, none));
        }
        hold(x, 0, 3, 0, 7);
        x.argument(0, PATH | HELD_HERE | FIRST_TWIN | PARENTAGE | KEPT);
        x.argument(1, LAST_TWIN | FIRST_TWIN);
        x.condition(false, 0, SAME, 5);
        x.argument(3, LAST_TWIN);
        is("all of them", OK, x.get(0, UNIQUE_GET, true));
        is("PATH", 2, x.holds(0));
        is("PARENTAGE", 0, x.parent(0));
        is("LAST_TWIN", 3, x.at(0));
        fill(x, 0, 999);
        fill(x, 1, 3, 888);
        is("KEPT", OK, x.replace(0));
        row(x, 0, 10, 1005, 3007, 3003, 1006, 2001, 20);
    }

    private static void listInOrder() {
        says("The list is in order if each argument but the first one is of a type below that of the one ahead of it (its"
            + " child type, a child type of that, and so on).");
        SegmentYard x = yard();
        list(x, 0, PATH, 1, 0, 3, 0, 4, 0);
        x.insert(0);
        int[][] good = {{}, {0}, {1}, {4}, {0, 1}, {0, 3}, {0, 4}, {1, 4}, {3, 4}, {0, 1, 4}, {0, 3, 4}, {0, 1, 3, 4}};
        for (int[] types : good) {
            is("in order: " + told(x, types), OK, unique(x, 0));
        }
        int[][] bad = {{0, 0}, {4, 4}, {1, 0}, {4, 3}, {4, 0}, {1, 2}, {2, 1}, {2, 3}, {2, 4}, {0, 2, 3}, {0, 1, 2},
            {0, 3, 1}, {0, 1, 1}, {1, 3, 3}, {0, 1, 3, 3}, {0, 1, 4, 3}, {0, 0, 1, 3}, {0, 6}, {0, 5}};
        for (int[] types : bad) {
            is("not in order: " + told(x, types), BAD, unique(x, 0));
        }
    }

    private static String told(SegmentYard x, int[] types) {
        StringBuilder told = new StringBuilder();
        for (int type : types) {
            x.argument(type, 0);
            told.append(' ').append(type);
        }
        return told.toString();
    }
}

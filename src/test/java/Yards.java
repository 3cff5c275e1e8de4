/** What the tests begin with: constants, objects, and short ways to do calls; a test extends it to use the plain names. */
abstract class Yards {
    static final int NONE = SegmentYard.NONE;
    static final int UNIQUE = SegmentYard.UNIQUE, MANY = SegmentYard.MANY, UNKEYED = SegmentYard.UNKEYED;
    static final int FIRST = SegmentYard.FIRST, LAST = SegmentYard.LAST, HERE = SegmentYard.HERE;
    static final int MUST = SegmentYard.MUST, MAKE = SegmentYard.MAKE;
    static final int BOUND = SegmentYard.BOUND, LOOSE = SegmentYard.LOOSE, ALL = SegmentYard.ALL;
    static final int PATH = SegmentYard.PATH, FIRST_TWIN = SegmentYard.FIRST_TWIN, LAST_TWIN = SegmentYard.LAST_TWIN;
    static final int HELD_HERE = SegmentYard.HELD_HERE, PARENTAGE = SegmentYard.PARENTAGE, KEPT = SegmentYard.KEPT;
    static final int SAME = SegmentYard.SAME, UNLIKE = SegmentYard.UNLIKE, LESS = SegmentYard.LESS;
    static final int AT_MOST = SegmentYard.AT_MOST, GREATER = SegmentYard.GREATER, AT_LEAST = SegmentYard.AT_LEAST;
    static final int UNIQUE_GET = SegmentYard.UNIQUE_GET, NEXT = SegmentYard.NEXT, WITHIN = SegmentYard.WITHIN;
    static final int OK = SegmentYard.OK, HIGHER = SegmentYard.HIGHER, OTHER = SegmentYard.OTHER, END = SegmentYard.END;
    static final int BAD = SegmentYard.BAD, NO_PARENT = SegmentYard.NO_PARENT, NOT_HELD = SegmentYard.NOT_HELD;
    static final int NOT_FOUND = SegmentYard.NOT_FOUND, KEY_CHANGED = SegmentYard.KEY_CHANGED;
    static final int DOUBLE = SegmentYard.DOUBLE, NO_TARGET = SegmentYard.NO_TARGET;
    static final int FULL = SegmentYard.FULL, TIED = SegmentYard.TIED;

    static final int LOW = Integer.MIN_VALUE, HIGH = Integer.MAX_VALUE;
    static final int EVERY_TYPE = 4095;

    /** A call, or some, on an object. */
    interface Call {
        long on(SegmentYard x);
    }

    // ---- what is due

    static void section(String heading) {
        Document.section(heading);
    }

    static void says(String sentence) {
        Document.says(sentence);
    }

    static void is(String what, long due, long answer) {
        Due.is(what, due, answer);
    }

    static void index(String what, Due.Act call) {
        Due.throwsIt(what, Due.INDEX, call);
    }

    static void range(String what, Due.Act call) {
        Due.throwsIt(what, Due.ARGUMENT, call);
    }

    static void state(String what, Due.Act call) {
        Due.throwsIt(what, Due.STATE, call);
    }

    static void silent(String what, Due.Act call) {
        Due.throwsIt(what, 0, call);
    }

    /** Numbers that are not among those from 0 on below an end: right beside them, and as far off as can be. */
    static int[] outside(int end) {
        return new int[] {LOW, LOW + 1, LOW + end, -end - 1, -2, -1, end, end + 1, 1 << 16, HIGH - 1, HIGH};
    }

    // ---- objects

    /** Database 0: the types 0 (root), 1 and 2 below it, 3 below 1, 4 below 3; database 1: 5 (root), 6 below it. */
    static SegmentYard yard() {
        SegmentYard x = new SegmentYard();
        x.type(0, NONE, UNIQUE, FIRST);
        x.type(0, 0, MANY, LAST);
        x.type(0, 0, UNIQUE, FIRST);
        x.type(0, 1, UNKEYED, LAST);
        x.type(0, 3, UNIQUE, FIRST);
        x.type(1, NONE, UNIQUE, FIRST);
        x.type(1, 5, UNKEYED, LAST);
        x.open(0, 0, 4095);
        x.open(1, 0, 4095);
        x.open(2, 1, 4095);
        return x;
    }

    static void fill(SegmentYard x, int slot, int... fields) {
        for (int field = 0; field < 3; field++) {
            x.put(slot, field, field < fields.length ? fields[field] : 0);
        }
    }

    /** Inserts one segment below the position of a view. */
    static int one(SegmentYard x, int view, int type, int... fields) {
        fill(x, 0, fields);
        x.argument(type, 0);
        return x.insert(view);
    }

    static int same(SegmentYard x, int type, int codes, int field, int number) {
        x.argument(type, codes);
        return x.condition(false, field, SAME, number);
    }

    /** Brings a view to a segment of a type with a number in a field. */
    static void go(SegmentYard x, int view, int type, int field, int number) {
        same(x, type, 0, field, number);
        Due.is("going to " + type + " " + number, OK, x.get(view, UNIQUE_GET, false));
    }

    static void hold(SegmentYard x, int view, int type, int field, int number) {
        same(x, type, 0, field, number);
        Due.is("holding " + type + " " + number, OK, x.get(view, UNIQUE_GET, true));
    }

    static void row(SegmentYard x, int database, int... signs) {
        Due.is("count(" + database + ")", signs.length, x.count(database));
        for (int place = 0; place < Math.min(signs.length, x.count(database)); place++) {
            Due.is("rowAt(" + database + ", " + place + ")", signs[place], x.rowAt(database, place));
            Due.is("rowAnew(" + database + ", " + place + ")", signs[place], x.rowAnew(database, place));
        }
    }

    static void seconds(SegmentYard x, int database, int... numbers) {
        for (int place = 0; place < numbers.length; place++) {
            Due.is("fieldAt(" + database + ", " + place + ", 1)", numbers[place], x.fieldAt(database, place, 1));
        }
    }

    /** Roots 10 and 20; below 10: two of type 1, below the first of these two of type 3; one of type 2. */
    static SegmentYard filled() {
        SegmentYard x = yard();
        one(x, 0, 0, 20, 1);
        one(x, 0, 0, 10, 2);
        one(x, 0, 1, 5, 3);
        one(x, 0, 3, 7, 4);
        go(x, 0, 1, 0, 5);
        one(x, 0, 3, 2, 5);
        go(x, 0, 0, 0, 10);
        one(x, 0, 1, 6, 6);
        one(x, 0, 2, 1, 7);
        x.open(0, 0, 4095);
        return x;
    }

    /** Types 0 (root), 1 with MAKE and a rule for going, 2 below 1; database 1: 3 (root), 4 tied to 0 by the rule. */
    static SegmentYard tiedYard(int going, int otherGoing) {
        SegmentYard x = new SegmentYard();
        x.type(0, NONE, 0, 0);
        x.type(0, 0, UNKEYED, LAST);
        x.type(0, 1, UNKEYED, LAST);
        x.type(1, NONE, 0, 0);
        x.type(1, 3, UNKEYED, LAST);
        x.tie(1, 0, MAKE, going);
        x.tie(4, 0, MUST, otherGoing);
        for (int view = 0; view < 4; view++) {
            x.open(view, view / 2, EVERY_TYPE);
        }
        return x;
    }

    // ---- calls

    /** Lists arguments, each told by its type and its codes. */
    static void list(SegmentYard x, int... typesAndCodes) {
        for (int i = 0; i + 1 < typesAndCodes.length; i += 2) {
            x.argument(typesAndCodes[i], typesAndCodes[i + 1]);
        }
    }

    static int next(SegmentYard x, int view) {
        return x.get(view, NEXT, false);
    }

    static int unique(SegmentYard x, int view) {
        return x.get(view, UNIQUE_GET, false);
    }

    static int within(SegmentYard x, int view) {
        return x.get(view, WITHIN, false);
    }

    /** Deletes the first segment of a type with a number in a field, by a view. */
    static void drop(SegmentYard x, int view, int type, int field, int number) {
        hold(x, view, type, field, number);
        is("deleting " + type + " " + number, OK, x.delete(view));
    }

    // ---- what there is

    static void stands(String what, SegmentYard x, int view, int at, int ahead) {
        is(what + ": at(" + view + ")", at, x.at(view));
        is(what + ": ahead(" + view + ")", ahead, x.ahead(view));
    }

    /** The number in slots 0 to 3, all of one field. */
    static void slots(String what, SegmentYard x, int field, int... numbers) {
        for (int slot = 0; slot < numbers.length; slot++) {
            is(what + ": area(" + slot + ", " + field + ")", numbers[slot], x.area(slot, field));
        }
    }

    /** All answers of an object that can be asked for without a change, but for what its views hold. */
    static String picture(SegmentYard x) {
        StringBuilder p = new StringBuilder("types " + x.types());
        for (int database = 0; database < 3; database++) {
            p.append("; row ").append(database).append(":");
            for (int place = 0; place < x.count(database); place++) {
                p.append(' ').append(x.rowAt(database, place)).append('=').append(x.rowAnew(database, place));
                for (int field = 0; field < 3; field++) {
                    p.append('/').append(x.fieldAt(database, place, field));
                }
            }
        }
        for (int view = 0; view < 4; view++) {
            p.append("; view ").append(view).append(": at ").append(x.at(view)).append(", ahead ").append(x.ahead(view));
            p.append(", parent ").append(x.parent(view)).append(", keys ").append(x.keys(view));
            p.append(", second ").append(x.second(view)).append(", tied ").append(x.tied(view));
        }
        p.append("; area:");
        for (int slot = 0; slot < 4; slot++) {
            for (int field = 0; field < 3; field++) {
                p.append(' ').append(x.area(slot, field));
            }
        }
        return p.toString();
    }

    static String holdsOf(SegmentYard x) {
        return "holds " + x.holds(0) + " " + x.holds(1) + " " + x.holds(2) + " " + x.holds(3);
    }
}

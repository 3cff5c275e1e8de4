import java.util.List;

/** Calls that are refused by their status, each with an object that is ready for it, full, with holds and a list. */
final class Refusals extends Yards {
    private Refusals() {
    }

    /** What has to be done ahead of a call, and the call, by a view, with the status that refuses it. */
    record Refusal(String name, int view, int status, Call preparation, Call call) {
        SegmentYard ready() {
            SegmentYard x = crowded();
            preparation.on(x);
            return x;
        }
    }

    /**
     * Sixty segments: in database 1 the root 8, of type 3; in database 0 the roots 0 to 56, below the root 0 one of type
     * 1, UNKEYED, with the key 7, tied to root 5 by MAKE and BOUND; below that one of type 2, UNIQUE, with the key 4,
     * tied to the root 8 by MUST and LOOSE. View 0 holds the root 6, view 1 the three on the path to the type 2, view 2
     * is at the root 8, view 3 has just been opened for database 0.
     */
    static SegmentYard crowded() {
        SegmentYard x = new SegmentYard();
        x.type(0, NONE, UNIQUE, FIRST);
        x.type(0, 0, UNKEYED, LAST);
        x.type(0, 1, UNIQUE, LAST);
        x.type(1, NONE, UNIQUE, FIRST);
        x.tie(1, 0, MAKE, BOUND);
        x.tie(2, 3, MUST, LOOSE);
        for (int view = 0; view < 4; view++) {
            x.open(view, view == 2 ? 1 : 0, EVERY_TYPE);
        }
        one(x, 2, 3, 8);
        for (int key = 56; key >= 0; key--) {
            one(x, 1, 0, key);
        }
        one(x, 1, 1, 7, 70, 5);
        one(x, 1, 2, 4, 40, 8);
        list(x, 0, PATH, 1, PATH | PARENTAGE, 2, KEPT);
        x.get(1, UNIQUE_GET, true);
        hold(x, 0, 0, 0, 6);
        is("segments", 60, x.count(0) + x.count(1));
        return x;
    }

    private static Refusal refused(String name, int view, int status, Call preparation, Call call) {
        return new Refusal(name, view, status, preparation, call);
    }

    private static Refusal getting(String name, int view, int how, int status, Call preparation) {
        return refused("get: " + name, view, status, preparation, x -> x.get(view, how, true));
    }

    private static Refusal inserting(String name, int status, Call preparation) {
        return refused("insert: " + name, 0, status, preparation, x -> x.insert(0));
    }

    /** Lists arguments, and answers how many; it does not matter what a preparation answers. */
    private static int listed(SegmentYard x, int... typesAndCodes) {
        list(x, typesAndCodes);
        return typesAndCodes.length / 2;
    }

    private static int holding(SegmentYard x, int type, int key, int field, int number) {
        hold(x, 0, type, 0, key);
        x.put(0, field, number);
        return x.argument(0, 0);
    }

    private static int under(SegmentYard x, int root, int type) {
        same(x, 0, 0, 0, root);
        return x.argument(type, 0);
    }

    private static int numbers(SegmentYard x, int key, int target, int... typesAndCodes) {
        fill(x, 0, key, 1, target);
        return listed(x, typesAndCodes);
    }

    static List<Refusal> all() {
        return List.of(
            getting("unique, not in order", 0, UNIQUE_GET, BAD, x -> listed(x, 1, 0, 0, 0)),
            getting("next, of another database", 0, NEXT, BAD, x -> listed(x, 3, 0)),
            getting("within, not in order", 0, WITHIN, BAD, x -> listed(x, 0, 0, 0, 0)),
            getting("within, without a parent", 3, WITHIN, NO_PARENT, x -> listed(x, 1, 0)),
            getting("unique, not found", 0, UNIQUE_GET, NOT_FOUND, x -> same(x, 0, 0, 0, 999)),
            getting("next, not found", 0, NEXT, NOT_FOUND, x -> same(x, 0, 0, 0, 6)),
            getting("within, not found", 0, WITHIN, NOT_FOUND, x -> 0),
            inserting("an empty list", BAD, x -> 0),
            inserting("not in order", BAD, x -> listed(x, 1, 0, 0, 0)),
            inserting("no child type", BAD, x -> listed(x, 0, 0, 2, 0)),
            inserting("a new one with a condition", BAD, x -> same(x, 0, 0, 0, 900)),
            inserting("no such parent", NOT_FOUND, x -> under(x, 999, 1)),
            inserting("no parent at the position", NOT_FOUND, x -> listed(x, 2, 0)),
            inserting("a twin has the key", DOUBLE, x -> listed(x, 0, PATH, 1, 0)),
            inserting("no target", NO_TARGET, x -> numbers(x, 5, 9, 1, 0, 2, 0)),
            inserting("full", FULL, x -> numbers(x, 900, 0, 0, 0)),
            inserting("full, with one that is made", FULL, x -> numbers(x, 3, 900, 1, 0)),
            refused("replace: nothing held", 3, NOT_HELD, x -> x.argument(0, 0), x -> x.replace(3)),
            refused("replace: another key", 0, KEY_CHANGED, x -> holding(x, 0, 6, 0, 7), x -> x.replace(0)),
            refused("replace: no target", 0, NO_TARGET, x -> holding(x, 2, 4, 2, 9), x -> x.replace(0)),
            refused("replace: full", 0, FULL, x -> holding(x, 1, 7, 2, 900), x -> x.replace(0)),
            refused("delete: nothing held", 3, NOT_HELD, x -> x.argument(0, 0), x -> x.delete(3)),
            refused("delete: tied", 0, TIED, x -> holding(x, 0, 5, 1, 9), x -> x.delete(0)));
    }
}

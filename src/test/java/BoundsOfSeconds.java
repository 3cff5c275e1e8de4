import java.io.IOException;
import java.nio.file.Files;
import java.nio.file.Path;
import java.util.regex.Pattern;

/** What the document says of second parents, of the order of statuses and exceptions, and of the constants. */
final class BoundsOfSeconds extends Yards {
    private BoundsOfSeconds() {
    }

    static void run() throws IOException {
        section("### Second parents");
        canBeTied();
        secondParent();
        twoRules();
        comingByMust();
        comingByMake();
        severalComing();
        goingByAll();
        goingBound();
        goingLoose();
        orderOfStatuses();
        refusedByStatus();
        whichException();
        firstException();
        refusedByException();
        constants();
        headings();
    }

    // ---- objects

    /** Database 0: 0 (root); database 1: 1 (root), below it 2, UNKEYED, tied to 0, and 3 below 2; view 0, and view 1. */
    private static SegmentYard pair(int coming, int going) {
        SegmentYard x = new SegmentYard();
        x.type(0, NONE, UNIQUE, FIRST);
        x.type(1, NONE, UNIQUE, FIRST);
        x.type(1, 1, UNKEYED, LAST);
        x.type(1, 2, UNKEYED, LAST);
        x.tie(2, 0, coming, going);
        x.open(0, 0, EVERY_TYPE);
        x.open(1, 1, EVERY_TYPE);
        one(x, 1, 1, 1);
        return x;
    }

    /** Database 0: 0 (root); database 1: 1 (root), and below it a path of 2, 3 and 4, tied to 0, 0 and 1. */
    private static SegmentYard path(int coming, int third, int last) {
        SegmentYard x = new SegmentYard();
        x.type(0, NONE, UNIQUE, FIRST);
        for (int type = 1; type < 5; type++) {
            x.type(1, type == 1 ? NONE : type - 1, type == 1 ? UNIQUE : UNKEYED, LAST);
        }
        x.tie(2, 0, coming, LOOSE);
        x.tie(3, 0, third, LOOSE);
        x.tie(4, 1, last, LOOSE);
        x.open(0, 0, EVERY_TYPE);
        x.open(1, 1, EVERY_TYPE);
        return x;
    }

    /** Lists the whole path as new, with the key of the root, and the fields 2 of those below it. */
    private static int insertPath(SegmentYard x, int key, int second, int third, int fourth) {
        int[] targets = {0, second, third, fourth};
        for (int slot = 0; slot < 4; slot++) {
            fill(x, slot, slot == 0 ? key : 0, 0, targets[slot]);
            x.argument(slot + 1, slot == 0 ? PATH : 0);
        }
        return x.insert(1);
    }

    /** Holds the whole path, but for those kept, and puts new numbers into field 2 of those below the root. */
    private static int replacePath(SegmentYard x, int kept, int second, int third, int fourth) {
        for (int type = 1; type < 5; type++) {
            x.argument(type, PATH | (type == kept ? KEPT : 0));
        }
        x.get(1, UNIQUE_GET, true);
        x.put(1, 2, second);
        x.put(2, 2, third);
        x.put(3, 2, fourth);
        return x.replace(1);
    }

    /** Inserts roots of type 0 by view 0 until there are so many segments in all. */
    private static void crowd(SegmentYard x, int segments) {
        for (int key = 500; x.count(0) + x.count(1) < segments; key++) {
            is("a root to fill the yard", OK, one(x, 0, 0, key));
        }
    }

    // ---- second parents

    private static void canBeTied() {
        says("A type that is no root type can be tied to a root type of whatever database, once, as long as its database"
            + " has no segments.");
        SegmentYard x = new SegmentYard();
        for (int database = 0; database < 3; database++) {
            x.type(database, NONE, UNIQUE, FIRST);
        }
        for (int type = 3; type < 12; type++) {
            x.type((type - 3) % 3, type - 3, MANY, FIRST);
        }
        for (int root = 0; root < 3; root++) {
            int mine = root;
            range("a root type", () -> x.tie(mine, 0, MUST, BOUND));
            range("to no root type", () -> x.tie(3, mine + 3, MUST, BOUND));
            range("to itself", () -> x.tie(mine + 3, mine + 3, MUST, BOUND));
        }
        for (int type = 3; type < 9; type++) {
            int mine = type;
            silent("level 2 and 3, to the database " + type % 3, () -> x.tie(mine, mine % 3, MUST, BOUND));
            state("a second time", () -> x.tie(mine, mine % 3, MUST, BOUND));
            state("to another one", () -> x.tie(mine, (mine + 1) % 3, MAKE, ALL));
        }
        silent("level 4, to another database", () -> x.tie(9, 2, MAKE, LOOSE));
        x.open(0, 1, EVERY_TYPE);
        one(x, 0, 1, 5);
        state("its database has a segment", () -> x.tie(10, 0, MUST, BOUND));
        silent("the database of the root has a segment", () -> x.tie(11, 1, MUST, BOUND));
        drop(x, 0, 1, 0, 5);
        silent("without segments again", () -> x.tie(10, 1, MUST, BOUND));
    }

    private static void secondParent() {
        says("The second parent of a segment of this type is the root of that type whose key is the field 2 of the"
            + " segment, if there is such a one.");
        SegmentYard x = pair(MUST, LOOSE);
        one(x, 0, 0, 0, 7, 8);
        one(x, 0, 0, 999);
        one(x, 1, 2, 8, 7, 0);
        is("the key 0", 0, x.second(1));
        is("not by field 0 or 1", OK, one(x, 1, 2, 0, 0, 999));
        is("the key 999", 1, x.second(1));
        is("tied to that", 1, tiedTo(x, 999));
        is("tied to the other one", 1, tiedTo(x, 0));
        is("another root type has the key", NO_TARGET, one(x, 1, 2, 1, 1, 1));
        one(x, 1, 3, 0, 0, 999);
        is("a type that is not tied", NONE, x.second(1));
        is("it does not count", 1, tiedTo(x, 999));
        go(x, 1, 1, 0, 1);
        is("a root", NONE, x.second(1));
        go(x, 1, 2, 2, 999);
        one(x, 0, 0, 500);
        is("its place has moved", 2, x.second(1));
        drop(x, 0, 0, 0, 999);
        is("there is no such one", NONE, x.second(1));
        one(x, 0, 0, 998);
        is("nor with another key", NONE, x.second(1));
        one(x, 0, 0, 999);
        is("there is one anew", 3, x.second(1));
        is("tied to that", 1, tiedTo(x, 999));
        x = inPlaceOfTheFirst(LOOSE);
        is("in place of the first one", 0, x.second(1));
        is("tied to that", 1, tiedTo(x, 5));
    }

    /** The first segment of all is deleted, and the next one that is inserted is tied, to the root 5. */
    private static SegmentYard inPlaceOfTheFirst(int going) {
        SegmentYard x = pair(MUST, going);
        one(x, 0, 0, 5);
        one(x, 1, 1, 2);
        drop(x, 1, 1, 0, 1);
        go(x, 1, 1, 0, 2);
        is("in place of the first one", OK, one(x, 1, 2, 3, 0, 5));
        row(x, 1, 1002, 2003);
        is("its keys", 2003L, x.keys(1));
        return x;
    }

    private static int tiedTo(SegmentYard x, int key) {
        go(x, 0, 0, 0, key);
        return x.tied(0);
    }

    private static void twoRules() {
        says("What is tied has a rule for coming, MUST or MAKE, and one for going, BOUND, LOOSE or ALL:");
        for (int coming = MUST; coming <= MAKE; coming++) {
            for (int going = BOUND; going <= ALL; going++) {
                SegmentYard x = pair(coming, going);
                is("coming", coming == MUST ? NO_TARGET : OK, one(x, 1, 2, 1, 0, 5));
                if (coming == MUST) {
                    one(x, 0, 0, 5);
                    is("coming, with the root", OK, one(x, 1, 2, 1, 0, 5));
                }
                hold(x, 0, 0, 0, 5);
                is("going", going == BOUND ? TIED : OK, x.delete(0));
                is("those tied", going == ALL ? 1 : 2, x.count(1));
                is("the roots", going == BOUND ? 1 : 0, x.count(0));
            }
        }
        SegmentYard x = yard();
        for (int none : outside(2)) {
            range("coming " + none, () -> x.tie(1, 0, none, BOUND));
        }
        for (int none : outside(3)) {
            range("going " + none, () -> x.tie(1, 0, MUST, none));
        }
        silent("it was not tied by those", () -> x.tie(1, 0, MAKE, ALL));
    }

    private static void comingByMust() {
        says("- When a segment of the type is inserted, or its field 2 becomes another number by replacing, and there is"
            + " no such root: by MUST the status is NO_TARGET;");
        SegmentYard x = pair(MUST, LOOSE);
        is("the number 0 without a root 0", NO_TARGET, one(x, 1, 2, 1));
        is("the number 999 without a root 999", NO_TARGET, one(x, 1, 2, 1, 0, 999));
        is("count", 1, x.count(1));
        one(x, 0, 0, 5);
        one(x, 0, 0, 6);
        is("another number", NO_TARGET, one(x, 1, 2, 1, 0, 4));
        is("its number", OK, one(x, 1, 2, 1, 0, 5));
        is("what is not tied", OK, one(x, 1, 3, 1, 0, 777));
        is("replacing by a number without a root", NO_TARGET, replaced(x, 1, 1, 7));
        is("it stays", 5, x.fieldAt(1, 1, 2));
        is("replacing by a number with a root", OK, replaced(x, 1, 1, 6));
        is("it becomes that", 6, x.fieldAt(1, 1, 2));
        drop(x, 0, 0, 0, 6);
        is("the same number without a root", OK, replaced(x, 2, 3, 6));
        is("other fields are replaced", 3, x.fieldAt(1, 1, 1));
        is("from one without a root to another one without", NO_TARGET, replaced(x, 2, 4, 7));
        is("back to one with a root", OK, replaced(x, 1, 4, 5));
        drop(x, 0, 0, 0, 5);
        is("inserting by the number of one that has no root now", NO_TARGET, one(x, 1, 2, 1, 0, 5));
    }

    /** Replaces the first segment of type 2 by other numbers. */
    private static int replaced(SegmentYard x, int... fields) {
        list(x, 2, 0);
        x.get(1, UNIQUE_GET, true);
        fill(x, 0, fields);
        return x.replace(1);
    }

    private static void comingByMake() {
        says("by MAKE a root with this key, and 0 in the other fields, is inserted first, as long as there are not 60"
            + " segments, otherwise the status is FULL.");
        SegmentYard x = pair(MAKE, LOOSE);
        is("a root is made", OK, one(x, 1, 2, 1, 9, 5));
        is("a root with the lowest key", OK, one(x, 1, 2, 1, 9, 0));
        is("a root with the highest key", OK, one(x, 1, 2, 1, 9, 999));
        row(x, 0, 0, 5, 999);
        for (int place = 0; place < 3; place++) {
            is("field 1", 0, x.fieldAt(0, place, 1));
            is("field 2", 0, x.fieldAt(0, place, 2));
        }
        stands("the view is at the new one, not at that which was made", x, 1, 3, 3);
        is("the parent of the view", 3, x.parent(1));
        stands("a view of that database stays ahead of all", x, 0, NONE, 0);
        is("a root that is there is not made", OK, one(x, 1, 2, 1, 9, 5));
        is("replacing makes one", OK, replaced(x, 2, 3, 4));
        row(x, 0, 0, 4, 5, 999);
        is("replacing by the same number makes none", OK, replaced(x, 2, 3, 4));
        drop(x, 0, 0, 0, 4);
        is("even if there is none", OK, replaced(x, 2, 4, 4));
        row(x, 0, 0, 5, 999);
        one(x, 1, 3, 999, 999, 999);
        drop(x, 1, 3, 0, 999);
        go(x, 1, 1, 0, 1);
        is("in place of one that is deleted", OK, one(x, 1, 2, 999, 999, 700));
        row(x, 0, 0, 5, 700, 999);
        is("field 1", 0, x.fieldAt(0, 2, 1));
        is("field 2", 0, x.fieldAt(0, 2, 2));
        for (int there = 57; there <= 60; there++) {
            makingWith(there);
        }
    }

    private static void makingWith(int there) {
        SegmentYard x = pair(MAKE, LOOSE);
        one(x, 1, 2, 1, 0, 5);
        crowd(x, there);
        is("replacing with " + there, there == 60 ? FULL : OK, replaced(x, 1, 0, 999));
        is("a root is made", there == 60 ? 60 : there + 1, x.count(0) + x.count(1));
        is("it is replaced", there == 60 ? 5 : 999, x.fieldAt(1, 1, 2));
        is("replacing by a number with a root", OK, replaced(x, 1, 0, 500));
        x = pair(MAKE, LOOSE);
        one(x, 1, 2, 1, 0, 5);
        crowd(x, there);
        int highest = x.rowAt(0, x.count(0) - 1);
        is("inserting with " + there, there + 2 > 60 ? FULL : OK, one(x, 1, 2, 1, 0, 999));
        is("with the root", there + 2 > 60 ? there : there + 2, x.count(0) + x.count(1));
        is("none is made without the other", there + 2 > 60 ? highest : 999, x.rowAt(0, x.count(0) - 1));
        x = pair(MAKE, LOOSE);
        crowd(x, there);
        is("inserting with such a root", there == 60 ? FULL : OK, one(x, 1, 2, 1, 0, 500));
    }

    private static void severalComing() {
        says("(With several new ones, or several replaced ones, all that is needed is looked at first, a root among the"
            + " new ones being counted as there; one and the same root is made once.)");
        SegmentYard x = path(MAKE, MAKE, MAKE);
        is("one and the same root", OK, insertPath(x, 1, 40, 40, 1));
        row(x, 0, 40);
        row(x, 1, 1001, 2000, 3000, 4000);
        is("the root among the new ones", 0, x.second(1));
        x = path(MAKE, MAKE, MAKE);
        is("the same number, of two root types", OK, insertPath(x, 1, 40, 40, 40));
        row(x, 0, 40);
        row(x, 1, 1001, 2000, 3000, 4000, 1040);
        x = path(MAKE, MAKE, MAKE);
        is("two roots, and one that is among the new ones", OK, insertPath(x, 7, 41, 40, 7));
        row(x, 0, 40, 41);
        row(x, 1, 1007, 2000, 3000, 4000);
        x = path(MUST, MUST, MUST);
        one(x, 0, 0, 7);
        is("MUST, with a root among the new ones", OK, insertPath(x, 1, 7, 7, 1));
        is("MUST, with another root among the new ones", NO_TARGET, insertPath(x, 2, 7, 7, 3));
        is("MUST, with a root of another type among the new ones", NO_TARGET, insertPath(x, 2, 2, 7, 2));
        for (int missing = 0; missing < 3; missing++) {
            x = path(missing == 0 ? MUST : MAKE, missing == 1 ? MUST : MAKE, missing == 2 ? MUST : MAKE);
            is("MUST at " + missing, NO_TARGET, insertPath(x, 1, 40, 41, 42));
            row(x, 0);
            row(x, 1);
        }
        severalReplaced();
        severalAndFull();
    }

    private static void severalReplaced() {
        SegmentYard x = path(MAKE, MAKE, MAKE);
        insertPath(x, 1, 40, 40, 1);
        is("one and the same root", OK, replacePath(x, NONE, 50, 50, 1));
        row(x, 0, 40, 50);
        is("three roots", OK, replacePath(x, NONE, 60, 61, 2));
        row(x, 0, 40, 50, 60, 61);
        row(x, 1, 1001, 2000, 3000, 4000, 1002);
        is("but for one that is kept", OK, replacePath(x, 3, 60, 99, 3));
        row(x, 0, 40, 50, 60, 61);
        row(x, 1, 1001, 2000, 3000, 4000, 1002, 1003);
        for (int missing = 0; missing < 3; missing++) {
            x = path(missing == 0 ? MUST : MAKE, missing == 1 ? MUST : MAKE, missing == 2 ? MUST : MAKE);
            one(x, 0, 0, 40);
            is("insert", OK, insertPath(x, 1, 40, 40, 1));
            is("MUST at " + missing, NO_TARGET, replacePath(x, NONE, 50, 51, 52));
            row(x, 0, 40);
            row(x, 1, 1001, 2000, 3000, 4000);
            is("it stays", 40, x.fieldAt(1, 1, 2));
            is("MUST at one that is kept", OK, replacePath(x, missing + 2, 50, 51, 52));
            is("those made for the others", missing == 2 ? 3 : 2, x.count(0));
            is("those made for the others", missing == 2 ? 4 : 5, x.count(1));
        }
    }

    private static void severalAndFull() {
        for (int there = 53; there <= 58; there++) {
            SegmentYard x = path(MAKE, MAKE, MAKE);
            crowd(x, there);
            is("four, and three made, to " + there, there + 7 > 60 ? FULL : OK, insertPath(x, 1, 1, 2, 2));
            x = path(MAKE, MAKE, MAKE);
            crowd(x, there);
            is("four, and two made, to " + there, there + 6 > 60 ? FULL : OK, insertPath(x, 1, 1, 2, 1));
            x = path(MAKE, MAKE, MAKE);
            crowd(x, there);
            is("four, and one made, to " + there, there + 5 > 60 ? FULL : OK, insertPath(x, 1, 2, 2, 1));
            x = path(MAKE, MAKE, MAKE);
            crowd(x, there);
            is("four, and none made, to " + there, there + 4 > 60 ? FULL : OK, insertPath(x, 1, 500, 501, 1));
        }
        for (int there = 57; there <= 60; there++) {
            SegmentYard x = path(MAKE, MAKE, MAKE);
            insertPath(x, 1, 40, 40, 1);
            crowd(x, there);
            int made = 3;
            is("three made for those replaced", there + made > 60 ? FULL : OK, replacePath(x, NONE, 1, 2, 2));
            is("count", there + made > 60 ? there : there + made, x.count(0) + x.count(1));
            x = path(MAKE, MAKE, MAKE);
            insertPath(x, 1, 40, 40, 1);
            crowd(x, there);
            is("one made for two of those replaced", there + 1 > 60 ? FULL : OK, replacePath(x, NONE, 2, 2, 1));
        }
    }

    private static void goingByAll() {
        says("- When a root is deleted that is the second parent of segments: those of types with ALL are deleted, too,"
            + " each with all that is below it;");
        SegmentYard x = pair(MUST, ALL);
        one(x, 0, 0, 4);
        one(x, 0, 0, 5);
        for (int i = 0; i < 4; i++) {
            go(x, 1, 1, 0, 1);
            one(x, 1, 2, i, 0, i == 2 ? 4 : 5);
            one(x, 1, 3, i, 0, 5);
        }
        row(x, 1, 1001, 2000, 3000, 2001, 3001, 2002, 3002, 2003, 3003);
        x.open(2, 1, EVERY_TYPE);
        hold(x, 2, 3, 0, 1);
        x.open(3, 1, EVERY_TYPE);
        hold(x, 3, 3, 0, 2);
        drop(x, 0, 0, 0, 5);
        row(x, 1, 1001, 2002, 3002);
        row(x, 0, 4);
        stands("a view at one below those", x, 2, NONE, 1);
        is("its hold", 0, x.holds(2));
        is("its parent", NONE, x.parent(2));
        stands("a view at another one", x, 3, 2, 2);
        is("its hold", 1, x.holds(3));
        stands("a view at the last one of all", x, 1, NONE, 3);
        drop(x, 1, 2, 0, 2);
        row(x, 0, 4);
        is("deleting one that is tied leaves the root", 0, tiedTo(x, 4));
        SegmentYard y = pair(MAKE, ALL);
        one(y, 1, 2, 1, 0, 1);
        row(y, 1, 1001, 2001);
        drop(y, 1, 1, 0, 1);
        row(y, 1);
        row(y, 0, 1);
        one(y, 1, 1, 1);
        one(y, 1, 2, 1, 0, 1);
        drop(y, 1, 1, 0, 1);
        row(y, 0, 1);
        y = inPlaceOfTheFirst(ALL);
        drop(y, 0, 0, 0, 5);
        row(y, 1, 1002);
    }

    private static void goingBound() {
        says("but if one of them of a type with BOUND is neither below the root nor deleted by that, the status of"
            + " deleting is TIED;");
        SegmentYard x = pair(MUST, BOUND);
        one(x, 0, 0, 5);
        one(x, 0, 0, 6);
        one(x, 1, 2, 1, 0, 5);
        hold(x, 0, 0, 0, 5);
        is("in another database", TIED, x.delete(0));
        row(x, 0, 5, 6);
        drop(x, 0, 0, 0, 6);
        is("bound to another root", 1, x.count(0));
        one(x, 0, 0, 6);
        is("replaced by another number", OK, replaced(x, 1, 0, 6));
        drop(x, 0, 0, 0, 5);
        hold(x, 0, 0, 0, 6);
        is("bound to this one then", TIED, x.delete(0));
        drop(x, 1, 2, 0, 1);
        drop(x, 0, 0, 0, 6);
        x = inPlaceOfTheFirst(BOUND);
        hold(x, 0, 0, 0, 5);
        is("in place of the first one", TIED, x.delete(0));
        boundBelow();
        boundAndAll(false);
        boundAndAll(true);
    }

    /** Of one's own database: below the root itself it does not matter, below another one it does. */
    private static void boundBelow() {
        SegmentYard x = tiedYard(BOUND, LOOSE);
        one(x, 0, 0, 1);
        one(x, 0, 1, 7, 0, 1);
        one(x, 0, 0, 2);
        one(x, 0, 1, 8, 0, 1);
        row(x, 0, 1, 1007, 2, 1008);
        hold(x, 0, 0, 0, 1);
        is("below another root", TIED, x.delete(0));
        row(x, 0, 1, 1007, 2, 1008);
        drop(x, 0, 0, 0, 2);
        drop(x, 0, 0, 0, 1);
        row(x, 0);
    }

    /** Below the root 1 of database 1: one tied with ALL to root 5, and below that, or beside it, one bound to it. */
    private static void boundAndAll(boolean isBeside) {
        SegmentYard x = new SegmentYard();
        x.type(0, NONE, UNIQUE, FIRST);
        x.type(1, NONE, UNIQUE, FIRST);
        x.type(1, 1, UNKEYED, FIRST);
        x.type(1, 2, UNKEYED, FIRST);
        x.tie(2, 0, MUST, ALL);
        x.tie(3, 0, MUST, BOUND);
        x.open(0, 0, EVERY_TYPE);
        x.open(1, 1, EVERY_TYPE);
        one(x, 0, 0, 6);
        one(x, 0, 0, 5);
        one(x, 1, 1, 1);
        one(x, 1, 2, 1, 0, 5);
        if (isBeside) {
            one(x, 1, 2, 2, 0, 6);
        }
        one(x, 1, 3, 1, 0, 5);
        hold(x, 0, 0, 0, 5);
        is("bound, below one that goes too, or not", isBeside ? TIED : OK, x.delete(0));
        is("all stays, or all goes", isBeside ? 4 : 1, x.count(1));
        is("the roots", isBeside ? 2 : 1, x.count(0));
    }

    private static void goingLoose() {
        says("those of types with LOOSE stay, and have no second parent then, until there is such a root anew.");
        SegmentYard x = pair(MUST, LOOSE);
        one(x, 0, 0, 5);
        one(x, 1, 2, 1, 0, 5);
        one(x, 1, 3, 1);
        drop(x, 0, 0, 0, 5);
        row(x, 1, 1001, 2001, 3001);
        go(x, 1, 2, 0, 1);
        is("no second parent", NONE, x.second(1));
        is("its number stays", 5, x.fieldAt(1, 1, 2));
        one(x, 0, 0, 6);
        is("with another root", NONE, x.second(1));
        one(x, 0, 0, 5);
        is("with such a root anew", 0, x.second(1));
        is("tied to it", 1, tiedTo(x, 5));
        SegmentYard y = tiedYard(LOOSE, LOOSE);
        one(y, 0, 0, 1);
        one(y, 0, 1, 7, 0, 1);
        drop(y, 0, 0, 0, 1);
        row(y, 0);
    }

    // ---- statuses

    private static void orderOfStatuses() {
        says("If several of these are so, the status is the first one of this list: BAD, NO_PARENT, NOT_HELD, NOT_FOUND,"
            + " KEY_CHANGED, DOUBLE, NO_TARGET, FULL, TIED.");
        SegmentYard x = Refusals.crowded();
        list(x, 1, 0, 0, 0);
        is("BAD ahead of NO_PARENT", BAD, within(x, 3));
        list(x, 1, 0);
        x.condition(false, 0, SAME, 999);
        is("NO_PARENT ahead of NOT_FOUND", NO_PARENT, within(x, 3));
        same(x, 0, 0, 0, 999);
        same(x, 1, 0, 0, 999);
        is("BAD ahead of NOT_FOUND", BAD, x.insert(0));
        fill(x, 0, 6, 0, 0);
        list(x, 0, PATH, 2, 0);
        is("BAD ahead of DOUBLE", BAD, x.insert(0));
        fill(x, 0, 900, 0, 9);
        list(x, 0, 0, 2, 0);
        is("BAD ahead of NO_TARGET and FULL", BAD, x.insert(0));
        same(x, 1, 0, 0, 999);
        list(x, 2, 0);
        is("NOT_FOUND ahead of NO_TARGET and FULL", NOT_FOUND, x.insert(0));
        list(x, 1, 0);
        is("NOT_FOUND ahead of FULL", NOT_FOUND, x.insert(3));
        fill(x, 0, 4, 0, 9);
        list(x, 1, 0, 2, 0);
        is("DOUBLE ahead of NO_TARGET and FULL", DOUBLE, x.insert(0));
        fill(x, 0, 6);
        list(x, 0, 0);
        is("DOUBLE ahead of FULL", DOUBLE, x.insert(0));
        fill(x, 0, 5, 0, 9);
        list(x, 1, 0, 2, 0);
        is("NO_TARGET ahead of FULL", NO_TARGET, x.insert(0));
        fill(x, 0, 5, 0, 8);
        list(x, 1, 0, 2, 0);
        is("FULL", FULL, x.insert(0));
        list(x, 2, 0);
        x.get(0, UNIQUE_GET, true);
        fill(x, 0, 5, 0, 9);
        is("KEY_CHANGED ahead of NO_TARGET", KEY_CHANGED, x.replace(0));
        list(x, 0, PATH, 1, 0);
        x.get(0, UNIQUE_GET, true);
        fill(x, 0, 1);
        fill(x, 1, 7, 0, 900);
        is("KEY_CHANGED ahead of FULL", KEY_CHANGED, x.replace(0));
        list(x, 1, PATH, 2, 0);
        x.get(0, UNIQUE_GET, true);
        x.put(0, 2, 900);
        x.put(1, 2, 9);
        is("NO_TARGET ahead of FULL, of those replaced", NO_TARGET, x.replace(0));
        list(x, 1, 0, 0, 0);
        is("a list that is not in order does not matter ahead of NOT_HELD", NOT_HELD, x.replace(0));
        list(x, 1, 0, 0, 0);
        is("nor in deleting", NOT_HELD, x.delete(0));
        hold(x, 0, 0, 0, 5);
        list(x, 1, 0, 0, 0);
        is("nor ahead of TIED", TIED, x.delete(0));
    }

    private static void refusedByStatus() {
        says("A call whose status is one of these changes nothing but the list of arguments and what the view held.");
        for (Refusals.Refusal refusal : Refusals.all()) {
            SegmentYard x = refusal.ready();
            String before = picture(x);
            is(refusal.name(), refusal.status(), refusal.call().on(x));
            Due.same(refusal.name(), before, picture(x));
            is(refusal.name() + ": the list", 0, x.clear());
            is(refusal.name() + ": the hold", 0, x.holds(refusal.view()));
            SegmentYard y = refusal.ready();
            y.clear();
            if (refusal.view() == 0) {
                // the hold alone is lost so, and nothing is got
                y.get(0, NEXT, false);
                go(y, 0, 0, 0, 6);
                x.get(0, NEXT, false);
                go(x, 0, 0, 0, 6);
            }
            for (int i = 0; i < 12; i++) {
                fill(x, i % 4, 0);
                fill(y, i % 4, 0);
            }
            Due.same(refusal.name() + ": what comes later", later(y), later(x));
        }
    }

    /** What some more calls answer, that show what cannot be asked for without a change. */
    private static String later(SegmentYard x) {
        StringBuilder later = new StringBuilder();
        for (int view = 3; view >= 0; view--) {
            later.append(x.get(view, NEXT, true)).append(' ').append(picture(x)).append(holdsOf(x)).append('\n');
            list(x, 0, 0);
            later.append(x.get(view, WITHIN, true)).append(' ').append(picture(x)).append(holdsOf(x)).append('\n');
        }
        return later.toString();
    }

    // ---- exceptions

    private static void whichException() {
        says("An IndexOutOfBoundsException is thrown if there is no such database, type, view, slot, field or place, an"
            + " IllegalArgumentException if another argument is out of its range, an IllegalStateException as told.");
        SegmentYard x = filled();
        index("no such database", () -> x.count(3));
        index("no such type", () -> x.argument(7, 0));
        index("no such view", () -> x.holds(4));
        index("no such slot", () -> x.area(4, 0));
        index("no such field", () -> x.area(0, 3));
        index("no such place", () -> x.rowAt(0, 7));
        range("keys", () -> x.type(2, NONE, 3, FIRST));
        range("a rule", () -> x.type(2, NONE, UNIQUE, 3));
        range("coming", () -> x.tie(1, 0, 2, BOUND));
        range("going", () -> x.tie(1, 0, MUST, 3));
        range("a set of types", () -> x.open(0, 0, 4096));
        range("a number", () -> x.put(0, 0, 1000));
        range("a way to get", () -> x.get(0, 3, false));
        range("codes", () -> x.argument(0, 64));
        state("no argument is listed", () -> x.condition(false, 0, SAME, 0));
        x.argument(0, 0);
        range("a comparison", () -> x.condition(false, 0, 6, 0));
        range("a number", () -> x.condition(false, 0, SAME, 1000));
        state("the database has segments", () -> x.type(0, 0, UNIQUE, FIRST));
        state("the database has segments", () -> x.tie(1, 0, MUST, BOUND));
    }

    private static void firstException() {
        says("If several exceptions of a throws clause apply, the one that is listed first is thrown.");
        SegmentYard x = filled();
        index("type: database, range and state", () -> x.type(3, 0, 3, 3));
        index("type: parent, range and state", () -> x.type(0, 7, UNIQUE, 3));
        index("type: parent, range", () -> x.type(2, 12, 3, FIRST));
        range("type: parent of another database, and state", () -> x.type(0, 5, UNIQUE, FIRST));
        range("type: keys, and state", () -> x.type(0, 0, 3, FIRST));
        range("type: rule, and state", () -> x.type(0, 0, UNIQUE, -1));
        range("type: a root type that is MANY, and state", () -> x.type(0, NONE, MANY, FIRST));
        index("tie: type, range and state", () -> x.tie(7, 1, 2, 3));
        index("tie: root, range and state", () -> x.tie(0, 7, 2, 3));
        index("tie: root, and state", () -> x.tie(1, -1, MUST, BOUND));
        range("tie: a root type, and state", () -> x.tie(0, 0, MUST, BOUND));
        range("tie: to no root type, and state", () -> x.tie(1, 2, MUST, BOUND));
        range("tie: coming, and state", () -> x.tie(1, 0, -1, BOUND));
        range("tie: going, and state", () -> x.tie(1, 0, MUST, -1));
        index("open: view, and range", () -> x.open(4, 0, 4096));
        index("open: database, and range", () -> x.open(0, 3, -1));
        index("put: slot, and range", () -> x.put(4, 0, 1000));
        index("put: field, and range", () -> x.put(0, 3, -1));
        index("get: view, and range", () -> x.get(4, 3, true));
        index("condition: field, range and state", () -> x.condition(false, 3, 6, 1000));
        range("condition: comparison, and state", () -> x.condition(false, 0, 6, 0));
        range("condition: number, and state", () -> x.condition(false, 0, SAME, -1));
        list(x, 0, 0, 0, 0, 0, 0, 0, 0);
        index("argument: type, range and state", () -> x.argument(-1, 64));
        index("argument: type, and state", () -> x.argument(7, 0));
        range("argument: codes, and state", () -> x.argument(0, -1));
        for (int i = 0; i < 3; i++) {
            x.condition(false, 0, SAME, 0);
        }
        index("condition: field, and a fourth one", () -> x.condition(false, -1, 0, 0));
        range("condition: comparison, and a fourth one", () -> x.condition(false, 0, -1, 0));
        range("condition: number, and a fourth one", () -> x.condition(false, 0, SAME, 1000));
        SegmentYard y = new SegmentYard();
        for (int type = 0; type < 12; type++) {
            y.type(0, type == 0 ? NONE : 0, UNIQUE, FIRST);
        }
        index("a thirteenth type: parent", () -> y.type(0, 12, UNIQUE, FIRST));
        range("a thirteenth type: rule", () -> y.type(0, 0, UNIQUE, 3));
        range("a second root type: keys", () -> y.type(0, NONE, UNKEYED, FIRST));
    }

    private static void refusedByException() {
        says("A call that throws an exception changes nothing.");
        Call[] calls = {
            x -> x.type(3, NONE, UNIQUE, FIRST), x -> x.type(2, NONE, MANY, FIRST), x -> x.type(0, 0, UNIQUE, FIRST),
            x -> x.type(1, NONE, UNIQUE, FIRST), x -> x.type(2, 0, UNIQUE, FIRST), x -> x.type(2, NONE, UNIQUE, 3),
            x -> tied(x, 4, 0, MUST, BOUND), x -> tied(x, 2, 1, MUST, BOUND), x -> tied(x, 1, 3, MUST, LOOSE),
            x -> tied(x, 2, 0, MAKE, 3), x -> opened(x, 4, 0, 0), x -> opened(x, 0, 3, 0), x -> opened(x, 1, 1, 4096),
            x -> opened(x, 2, 0, -1), x -> x.argument(4, 0), x -> x.argument(0, 64), x -> x.argument(0, -1),
            x -> x.condition(false, 3, SAME, 0), x -> x.condition(false, 0, 6, 0), x -> x.condition(true, 0, SAME, 1000),
            x -> x.put(4, 0, 0), x -> x.put(0, 3, 0), x -> x.put(0, 0, 1000), x -> x.put(3, 2, -1),
            x -> x.area(4, 0), x -> x.area(0, -1), x -> x.get(4, UNIQUE_GET, true), x -> x.get(-1, NEXT, true),
            x -> x.get(0, 3, true), x -> x.get(1, -1, false), x -> x.insert(4), x -> x.insert(-1), x -> x.replace(4),
            x -> x.replace(-1), x -> x.delete(4), x -> x.delete(-1), x -> x.count(3), x -> x.rowAt(0, 60),
            x -> x.rowAnew(0, 60), x -> x.fieldAt(0, 0, 3), x -> x.at(4), x -> x.ahead(4), x -> x.parent(4),
            x -> x.holds(4), x -> x.keys(4), x -> x.second(4), x -> x.tied(4),
        };
        for (int i = 0; i < calls.length; i++) {
            Call call = calls[i];
            SegmentYard x = busy();
            SegmentYard y = busy();
            Due.isTrue("the call " + i + " throws", Due.thrown(() -> call.on(x)) != 0);
            Due.same("the call " + i, picture(y) + holdsOf(y), picture(x) + holdsOf(x));
            is("the call " + i + ": by the list", y.get(3, UNIQUE_GET, true), x.get(3, UNIQUE_GET, true));
            Due.same("the call " + i + ": by the list", picture(y) + holdsOf(y), picture(x) + holdsOf(x));
            is("the call " + i + ": by the hold", y.delete(1), x.delete(1));
            is("the call " + i + ": by the other hold", y.replace(0), x.replace(0));
            Due.same("the call " + i + ": later", later(y), later(x));
        }
        SegmentYard full = busy();
        full.clear();
        list(full, 0, 0, 1, 0, 2, 0, 2, 0);
        state("a fifth argument", () -> full.argument(0, 0));
        is("the four that were listed", 4, full.clear());
        full.argument(0, 0);
        for (int i = 0; i < 3; i++) {
            full.condition(false, 0, SAME, 6);
        }
        state("a fourth condition", () -> full.condition(true, 0, AT_LEAST, 0));
        is("by the three that were listed", OK, unique(full, 0));
        is("by the three that were listed", 6, full.area(0, 0));
    }

    private static long tied(SegmentYard x, int type, int root, int coming, int going) {
        x.tie(type, root, coming, going);
        return 0;
    }

    private static long opened(SegmentYard x, int view, int database, int types) {
        x.open(view, database, types);
        return 0;
    }

    /** A crowded yard, with view 3 ahead of a segment, holds of the views 0 and 1, and a list with a condition. */
    private static SegmentYard busy() {
        SegmentYard x = Refusals.crowded();
        go(x, 3, 0, 0, 9);
        drop(x, 0, 0, 0, 9);
        hold(x, 0, 0, 0, 6);
        list(x, 0, PATH);
        same(x, 1, KEPT, 0, 7);
        return x;
    }

    // ---- constants and headings

    private static void constants() {
        says("The constants: `NONE = -1`: There is none.");
        is("NONE", -1, SegmentYard.NONE);
        says("`UNIQUE = 0, MANY = 1, UNKEYED = 2`: Keys of types.");
        are(SegmentYard.UNIQUE, SegmentYard.MANY, SegmentYard.UNKEYED);
        says("`FIRST = 0, LAST = 1, HERE = 2`: Rules for new twins.");
        are(SegmentYard.FIRST, SegmentYard.LAST, SegmentYard.HERE);
        says("`MUST = 0, MAKE = 1, BOUND = 0, LOOSE = 1, ALL = 2`: Rules for what is tied: for coming, and for going.");
        are(SegmentYard.MUST, SegmentYard.MAKE);
        are(SegmentYard.BOUND, SegmentYard.LOOSE, SegmentYard.ALL);
        says("`PATH = 1, FIRST_TWIN = 2, LAST_TWIN = 4, HELD_HERE = 8, PARENTAGE = 16, KEPT = 32`: Codes of arguments.");
        int[] codes = {SegmentYard.PATH, SegmentYard.FIRST_TWIN, SegmentYard.LAST_TWIN, SegmentYard.HELD_HERE,
            SegmentYard.PARENTAGE, SegmentYard.KEPT};
        for (int i = 0; i < codes.length; i++) {
            is("the code " + i, 1 << i, codes[i]);
        }
        says("`SAME = 0, UNLIKE = 1, LESS = 2, AT_MOST = 3, GREATER = 4, AT_LEAST = 5`: Comparisons of a field with a"
            + " number: the same; not the same; less; at most; greater; at least.");
        are(SegmentYard.SAME, SegmentYard.UNLIKE, SegmentYard.LESS, SegmentYard.AT_MOST, SegmentYard.GREATER,
            SegmentYard.AT_LEAST);
        comparisons();
        says("`UNIQUE_GET = 0, NEXT = 1, WITHIN = 2`: Ways to get a segment.");
        are(SegmentYard.UNIQUE_GET, SegmentYard.NEXT, SegmentYard.WITHIN);
        says("`OK = 0, HIGHER = 1, OTHER = 2, END = 3, BAD = 4, NO_PARENT = 5, NOT_HELD = 6, NOT_FOUND = 7, KEY_CHANGED ="
            + " 8, DOUBLE = 9, NO_TARGET = 10, FULL = 11, TIED = 12`: What comes of a call.");
        are(SegmentYard.OK, SegmentYard.HIGHER, SegmentYard.OTHER, SegmentYard.END, SegmentYard.BAD,
            SegmentYard.NO_PARENT, SegmentYard.NOT_HELD, SegmentYard.NOT_FOUND, SegmentYard.KEY_CHANGED,
            SegmentYard.DOUBLE, SegmentYard.NO_TARGET, SegmentYard.FULL, SegmentYard.TIED);
    }

    private static void are(int... constants) {
        for (int i = 0; i < constants.length; i++) {
            is("the constant " + i, i, constants[i]);
        }
    }

    /** Each field, compared with the numbers right beside it, and with the lowest and the highest one. */
    private static void comparisons() {
        for (int field = 0; field < 3; field++) {
            for (int own : new int[] {0, 1, 500, 998, 999}) {
                SegmentYard x = yard();
                one(x, 0, 0, field == 0 ? own : 7, field == 1 ? own : 7, field == 2 ? own : 7);
                for (int number : new int[] {0, 1, own, Math.max(0, own - 1), Math.min(999, own + 1), 999}) {
                    boolean[] due = {own == number, own != number, own < number, own <= number, own > number,
                        own >= number};
                    for (int comparison = 0; comparison < 6; comparison++) {
                        x.argument(0, 0);
                        x.condition(false, field, comparison, number);
                        is(own + ", comparison " + comparison + ", " + number, due[comparison] ? OK : NOT_FOUND,
                            unique(x, 0));
                    }
                }
            }
        }
    }

    private static void headings() throws IOException {
        String source = Files.readString(Path.of("src/main/java/SegmentYard.java"));
        says("Ahead of the calls `type`, `tie`, `open` the interface says: ---- types and views.");
        heading(source, "types and views", "int type(");
        says("Ahead of the calls `argument`, `condition`, `clear`, `put`, `area` the interface says: ---- arguments and"
            + " the area.");
        heading(source, "arguments and the area", "int argument(");
        says("Ahead of the calls `get`, `insert`, `replace`, `delete` the interface says: ---- calls.");
        heading(source, "calls", "int get(");
        says("Ahead of the calls `types`, `count`, `rowAt`, `rowAnew`, `fieldAt`, `at`, `ahead`, `parent`, `holds`,"
            + " `keys`, `second`, `tied` the interface says: ---- what there is.");
        heading(source, "what there is", "int types(");
    }

    private static void heading(String source, String heading, String call) {
        Pattern pattern = Pattern.compile("// ---- " + heading + "\\s+public " + Pattern.quote(call));
        Due.isTrue("the heading is ahead of " + call, pattern.matcher(source).find());
    }
}

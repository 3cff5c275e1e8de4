/** What the document says of getting, inserting, replacing and deleting: for each sentence a test of its own. */
final class BoundsOfCalls extends Yards {
    private BoundsOfCalls() {
    }

    static void run() {
        section("### Getting");
        badLists();
        rightOnes();
        fulfilsIt();
        firstAndLastTwin();
        heldHere();
        uniqueGets();
        nextGets();
        withinGets();
        viewIsAtIt();
        slotsOfTheArea();
        heldSegments();
        newParent();
        statusOfStep();
        noneIsGot();
        holdIsLost();
        section("### Inserting");
        listToInsert();
        newOnes();
        badNewOnes();
        parentOfNewOnes();
        fieldsOfNewOnes();
        doubles();
        fullOnes();
        atTheLastOne();
        section("### Replacing and deleting");
        replacingNothing();
        keptAside();
        changedKeys();
        deletingNothing();
        deletedWithAllBelow();
    }

    // ---- Getting: filled() has the row 10, 1005, 3007, 3002, 1006, 2001, 20

    private static void badLists() {
        says("The list has to be in order, with types that the view sees; otherwise the status is BAD.");
        SegmentYard x = filled();
        x.open(1, 0, 1 | 2 | 16);
        x.open(3, 0, 2 | 8);
        for (int how = UNIQUE_GET; how <= WITHIN; how++) {
            list(x, 0, 0, 0, 0);
            is("a type twice", BAD, x.get(0, how, false));
            list(x, 3, 0, 1, 0);
            is("upwards", BAD, x.get(0, how, false));
            list(x, 2, 0);
            is("a type that is not in the set", BAD, x.get(1, how, false));
            list(x, 4, 0);
            is("its parent type is not in the set", BAD, x.get(1, how, false));
            list(x, 0, 0, 4, 0);
            is("the last one is not seen", BAD, x.get(1, how, false));
            list(x, 3, 0, 1, 0);
            is("the root type is not in the set", BAD, x.get(3, how, false));
            list(x, 1, 0);
            is("the root type is not in the set", BAD, x.get(3, how, false));
            list(x, 0, 0);
            is("of another database", BAD, x.get(2, how, false));
        }
        list(x, 1, 0);
        is("seen, and in order", OK, unique(x, 1));
        is("without arguments", END, next(x, 3));
        list(x, 5, 0);
        is("seen, in its database", NOT_FOUND, unique(x, 2));
    }

    private static void rightOnes() {
        says("A segment is right, if it is seen by the view, is of the type of the last argument (of whatever type,"
            + " without arguments), and if, for each argument, the segment of its type among this segment, its parent,"
            + " the parent of that, and so on");
        SegmentYard x = filled();
        x.open(1, 0, 1 | 4);
        int[] seen = {0, 5, 6};
        for (int place : seen) {
            next(x, 1);
            is("without arguments, of those that are seen", place, x.at(1));
        }
        is("no more", END, next(x, 1));
        list(x, 0, 0, 1, 0);
        unique(x, 0);
        is("of the type of the last argument", 1, x.at(0));
        same(x, 0, 0, 1, 1);
        list(x, 1, 0);
        is("the root above it is not the one with 1", NOT_FOUND, unique(x, 0));
        same(x, 0, 0, 1, 2);
        same(x, 1, 0, 1, 6);
        list(x, 3, 0);
        is("the one of type 1 above it is not that with 6", NOT_FOUND, unique(x, 0));
        same(x, 0, 0, 1, 2);
        same(x, 1, 0, 1, 3);
        same(x, 3, 0, 1, 5);
        is("all three", OK, unique(x, 0));
        is("all three", 3, x.at(0));
    }

    private static void fulfilsIt() {
        says("- fulfils it;");
        SegmentYard x = filled();
        // the type 1 has the keys 5 and 6
        int[][] places = {{NONE, 1, 4}, {1, 4, 1}, {NONE, NONE, 1}, {NONE, 1, 1}, {1, 4, NONE}, {1, 1, 4}};
        for (int comparison = SAME; comparison <= AT_LEAST; comparison++) {
            for (int number = 4; number <= 6; number++) {
                x.argument(1, 0);
                x.condition(false, 0, comparison, number);
                int place = places[comparison][number - 4];
                is("comparison " + comparison + " with " + number, place == NONE ? NOT_FOUND : OK, unique(x, 0));
                if (place != NONE) {
                    is("comparison " + comparison + " with " + number, place, x.at(0));
                }
            }
        }
        x.argument(0, 0);
        x.condition(false, 2, LESS, 0);
        is("less than the lowest number", NOT_FOUND, unique(x, 0));
        x.argument(0, 0);
        x.condition(false, 2, GREATER, 999);
        is("greater than the highest number", NOT_FOUND, unique(x, 0));
        x.argument(0, 0);
        x.condition(false, 2, AT_LEAST, 0);
        x.condition(false, 2, AT_MOST, 999);
        is("the whole range", OK, unique(x, 0));
    }

    private static void firstAndLastTwin() {
        says("- with FIRST_TWIN: no twin ahead of it fulfils it; with LAST_TWIN: no twin behind it does;");
        SegmentYard x = filled();
        twin(x, FIRST_TWIN, AT_LEAST, 3, 1);
        twin(x, FIRST_TWIN, GREATER, 3, 4);
        twin(x, FIRST_TWIN, GREATER, 6, NONE);
        twin(x, LAST_TWIN, AT_LEAST, 3, 4);
        twin(x, LAST_TWIN, LESS, 6, 1);
        twin(x, LAST_TWIN, LESS, 3, NONE);
        twin(x, FIRST_TWIN | LAST_TWIN, AT_LEAST, 3, NONE);
        twin(x, FIRST_TWIN | LAST_TWIN, SAME, 6, 4);
        list(x, 2, FIRST_TWIN | LAST_TWIN);
        is("an only twin is the first and the last", OK, unique(x, 0));
        go(x, 0, 1, 0, 5);
        list(x, 1, FIRST_TWIN);
        is("the second one behind the position is no first one", NOT_FOUND, next(x, 0));
        list(x, 1, LAST_TWIN, 3, 0);
        is("none is below the last one", NOT_FOUND, unique(x, 0));
        same(x, 1, 0, 0, 6);
        list(x, 3, 0);
        fill(x, 0, 3);
        is("insert", OK, x.insert(0));
        list(x, 1, LAST_TWIN, 3, 0);
        is("one is below the last one", OK, unique(x, 0));
        is("one is below the last one", 5, x.at(0));
        x.open(0, 0, EVERY_TYPE);
        int[] firsts = {2, 5};
        for (int place : firsts) {
            list(x, 3, FIRST_TWIN);
            next(x, 0);
            is("the first one below each parent", place, x.at(0));
        }
    }

    /** Looks for one of type 1 by a condition on field 1, which is 3 at place 1, and 6 at place 4. */
    private static void twin(SegmentYard x, int codes, int comparison, int number, int place) {
        x.open(0, 0, EVERY_TYPE);
        x.argument(1, codes);
        x.condition(false, 1, comparison, number);
        is("codes " + codes, place == NONE ? NOT_FOUND : OK, unique(x, 0));
        is("codes " + codes, place, x.at(0));
    }

    private static void heldHere() {
        says("- with HELD_HERE: the view is at this segment, or at one below it.");
        SegmentYard x = filled();
        list(x, 0, HELD_HERE);
        is("ahead of all", NOT_FOUND, unique(x, 0));
        go(x, 0, 1, 0, 6);
        list(x, 1, HELD_HERE);
        unique(x, 0);
        is("at this segment", 4, x.at(0));
        list(x, 1, HELD_HERE, 3, 0);
        is("the others are not below it", NOT_FOUND, unique(x, 0));
        list(x, 0, HELD_HERE, 1, 0);
        unique(x, 0);
        is("at one below it", 1, x.at(0));
        go(x, 0, 3, 0, 2);
        list(x, 0, HELD_HERE, 2, 0);
        unique(x, 0);
        is("at one two levels below it", 5, x.at(0));
        list(x, 1, HELD_HERE);
        is("not at one beside it", NOT_FOUND, unique(x, 0));
        go(x, 0, 0, 0, 10);
        list(x, 1, HELD_HERE);
        is("not at one above it", NOT_FOUND, unique(x, 0));
        go(x, 0, 0, 0, 20);
        list(x, 0, HELD_HERE);
        unique(x, 0);
        is("at the last one", 6, x.at(0));
        go(x, 1, 3, 0, 7);
        list(x, 0, HELD_HERE, 3, 0);
        is("another view does not matter", NOT_FOUND, unique(x, 0));
        go(x, 0, 3, 0, 7);
        drop(x, 1, 3, 0, 7);
        list(x, 3, HELD_HERE);
        is("ahead of a segment is not at it", NOT_FOUND, unique(x, 0));
        list(x, 0, HELD_HERE);
        is("nor below another one", NOT_FOUND, unique(x, 0));
    }

    private static void uniqueGets() {
        says("UNIQUE_GET gets the first right segment of the row.");
        SegmentYard x = filled();
        for (int place = 0; place < 7; place++) {
            x.open(1, 0, EVERY_TYPE);
            for (int step = 0; step <= place; step++) {
                next(x, 1);
            }
            list(x, 3, 0);
            is("whatever the position", OK, unique(x, 1));
            is("whatever the position", 2, x.at(1));
        }
        go(x, 0, 0, 0, 20);
        drop(x, 1, 0, 0, 20);
        is("behind all", OK, unique(x, 0));
        stands("at the first of the row", x, 0, 0, 0);
        is("the next one", OK, next(x, 0));
        stands("at the next one", x, 0, 1, 1);
        drop(x, 1, 0, 0, 10);
        is("an empty row", NOT_FOUND, unique(x, 0));
        x.open(1, 0, 2);
        one(x, 0, 0, 1);
        is("none is seen", NOT_FOUND, unique(x, 1));
    }

    private static void nextGets() {
        says("NEXT gets the first right one behind the position: behind the segment at which the view is, or from the one"
            + " on ahead of which it is; none, if it is behind all.");
        SegmentYard x = filled();
        list(x, 0, 0);
        next(x, 0);
        is("ahead of all, the first of the row", 0, x.at(0));
        list(x, 0, 0);
        next(x, 0);
        is("behind the one at which it is", 6, x.at(0));
        list(x, 0, 0);
        is("behind the last one", NOT_FOUND, next(x, 0));
        go(x, 0, 1, 0, 5);
        next(x, 0);
        is("right behind", 2, x.at(0));
        drop(x, 1, 3, 0, 7);
        list(x, 3, 0);
        next(x, 0);
        is("from the one on ahead of which it is", 2, x.at(0));
        is("that one", 3002, x.rowAt(0, x.at(0)));
        go(x, 0, 0, 0, 20);
        drop(x, 1, 0, 0, 20);
        list(x, 0, 0);
        is("behind all", NOT_FOUND, next(x, 0));
        one(x, 1, 0, 30);
        list(x, 0, 0);
        is("behind all, whatever is inserted", NOT_FOUND, next(x, 0));
        list(x, 0, 0);
        is("another view, at the last one but one", NOT_FOUND, next(x, 1));
        is("without arguments", END, next(x, 0));
    }

    private static void withinGets() {
        says("WITHIN does the same, but only those below the parent of the view; if it has none, the status is"
            + " NO_PARENT.");
        SegmentYard x = filled();
        is("no parent", NO_PARENT, within(x, 0));
        list(x, 1, 0);
        is("no parent, with arguments", NO_PARENT, within(x, 0));
        go(x, 0, 0, 0, 10);
        for (int place = 1; place <= 5; place++) {
            within(x, 0);
            is("all below the root", place, x.at(0));
        }
        is("the next root is not below it", NOT_FOUND, within(x, 0));
        go(x, 0, 1, 0, 5);
        list(x, 1, 0);
        is("the parent itself is not below it", NOT_FOUND, within(x, 0));
        list(x, 3, 0);
        within(x, 0);
        is("one below it", 2, x.at(0));
        within(x, 0);
        is("the second one below it", 3, x.at(0));
        is("its sibling is not below it", NOT_FOUND, within(x, 0));
        go(x, 0, 1, 0, 5);
        x.open(1, 0, EVERY_TYPE);
        list(x, 1, PARENTAGE, 3, LAST_TWIN);
        unique(x, 1);
        is("behind the position there is none", NOT_FOUND, within(x, 1));
        go(x, 0, 0, 0, 20);
        is("a parent with nothing below it", NOT_FOUND, within(x, 0));
        is("the last one", END, next(x, 0));
        is("ahead of all", NOT_FOUND, within(x, 0));
        aheadOfTheParent();
    }

    private static void aheadOfTheParent() {
        SegmentYard x = yard();
        one(x, 0, 0, 30);
        one(x, 0, 1, 3);
        one(x, 0, 0, 20);
        one(x, 0, 1, 2);
        one(x, 0, 0, 10);
        one(x, 0, 1, 1);
        row(x, 0, 10, 1001, 20, 1002, 30, 1003);
        go(x, 0, 1, 0, 3);
        go(x, 0, 0, 0, 20);
        go(x, 1, 0, 0, 30);
        same(x, 1, 0, 0, 3);
        is("the last one", OK, within(x, 1));
        is("no more", END, next(x, 1));
        is("the parent", 4, x.parent(1));
        is("ahead of all, from the position on", OK, within(x, 1));
        is("the one below the parent", 5, x.at(1));
        go(x, 1, 1, 0, 3);
        is("opened anew", OK, reopened(x));
        drop(x, 0, 1, 0, 3);
        stands("behind all", x, 1, NONE, 5);
        is("behind all, none is below the parent", NOT_FOUND, within(x, 1));
        drop(x, 0, 0, 0, 30);
        is("the parent is deleted", NO_PARENT, within(x, 1));
    }

    /** Brings view 1 to the last segment, with its root as the parent. */
    private static int reopened(SegmentYard x) {
        x.open(1, 0, EVERY_TYPE);
        x.argument(0, PARENTAGE);
        same(x, 1, 0, 0, 3);
        return next(x, 1);
    }

    private static void viewIsAtIt() {
        says("If a segment is got, the view is at it.");
        SegmentYard x = filled();
        unique(x, 0);
        stands("UNIQUE_GET", x, 0, 0, 0);
        next(x, 0);
        stands("NEXT", x, 0, 1, 1);
        within(x, 0);
        stands("WITHIN", x, 0, 2, 2);
        list(x, 0, PATH | PARENTAGE, 3, 0);
        next(x, 0);
        stands("the one of the last argument", x, 0, 3, 3);
        stands("another view stays", x, 1, NONE, 0);
    }

    private static void slotsOfTheArea() {
        says("The area has slots, 0 to 3, each with three numbers, 0 at first: for each argument with PATH, and for the"
            + " last one in any case (for the segment that was got, without arguments), one after the other, a slot"
            + " gets the fields of the segment that was right for it; other slots stay as they are.");
        SegmentYard x = yard();
        slots("at first", x, 0, 0, 0, 0, 0);
        slots("at first", x, 1, 0, 0, 0, 0);
        slots("at first", x, 2, 0, 0, 0, 0);
        for (int none : outside(4)) {
            index("the slot " + none, () -> x.area(none, 0));
        }
        for (int slot = 0; slot < 4; slot++) {
            fill(x, slot, 10 + slot, 20 + slot, 30 + slot);
        }
        list(x, 0, PATH, 1, 0, 3, 0, 4, 0);
        x.insert(0);
        int[] types = {0, 1, 3, 4};
        for (int paths = 0; paths < 16; paths++) {
            int[] due = {900, 900, 900, 900};
            int filled = 0;
            for (int i = 0; i < 4; i++) {
                fill(x, i, 900, 900, 900);
                boolean isPath = (paths >> i & 1) != 0;
                x.argument(types[i], isPath ? PATH : 0);
                if (isPath || i == 3) {
                    due[filled++] = i;
                }
            }
            is("get", OK, unique(x, 0));
            for (int field = 0; field < 3; field++) {
                int[] numbers = due.clone();
                for (int slot = 0; slot < filled; slot++) {
                    numbers[slot] += 10 * (field + 1);
                }
                slots("PATH at the arguments " + paths, x, field, numbers);
            }
        }
        fill(x, 0, 900);
        fill(x, 1, 901);
        is("without arguments", OK, unique(x, 0));
        slots("without arguments", x, 0, 10, 901);
    }

    private static void heldSegments() {
        says("With a hold the view holds these segments then.");
        SegmentYard x = yard();
        list(x, 0, PATH, 1, 0, 3, 0, 4, 0);
        x.insert(0);
        int[] paths = {0, PATH, 0, PATH};
        for (int held = 1; held <= 4; held++) {
            list(x, 0, held > 3 ? PATH : 0, 1, held > 2 ? PATH : 0, 3, held > 1 ? PATH : 0, 4, paths[held - 1]);
            is("get", OK, x.get(0, UNIQUE_GET, true));
            is("those that went into slots", held, x.holds(0));
            is("another view holds none", 0, x.holds(1));
        }
        is("without arguments", OK, x.get(0, UNIQUE_GET, true));
        is("without arguments", 1, x.holds(0));
        is("next", OK, x.get(0, NEXT, true));
        is("next", 1, x.holds(0));
        is("within", OK, x.get(0, WITHIN, true));
        is("within", 1, x.holds(0));
        list(x, 0, PATH, 1, PATH);
        is("without a hold", OK, unique(x, 0));
        is("without a hold", 0, x.holds(0));
    }

    private static void newParent() {
        says("With UNIQUE_GET and NEXT the parent of the view becomes the segment that was right for the last argument"
            + " with PARENTAGE, or the segment that was got if there is no such argument; with WITHIN it stays.");
        SegmentYard x = yard();
        list(x, 0, PATH, 1, 0, 3, 0, 4, 0);
        x.insert(0);
        int[] types = {0, 1, 3, 4};
        for (int set = 0; set < 16; set++) {
            int last = 3;
            for (int i = 0; i < 4; i++) {
                last = (set >> i & 1) != 0 ? i : last;
            }
            for (int how = UNIQUE_GET; how <= NEXT; how++) {
                x.open(0, 0, EVERY_TYPE);
                for (int i = 0; i < 4; i++) {
                    x.argument(types[i], (set >> i & 1) != 0 ? PARENTAGE : 0);
                }
                is("get", OK, x.get(0, how, false));
                is("PARENTAGE at the arguments " + set, last, x.parent(0));
            }
        }
        unique(x, 0);
        is("without arguments", 0, x.parent(0));
        next(x, 0);
        is("without arguments", 1, x.parent(0));
        unique(x, 0);
        list(x, 1, PARENTAGE, 4, PARENTAGE);
        is("within", OK, within(x, 0));
        is("within it stays", 0, x.parent(0));
        go(x, 0, 0, 0, 0);
        is("within", OK, within(x, 0));
        is("within, without arguments, it stays", 0, x.parent(0));
    }

    private static void statusOfStep() {
        says("The status is OK; but without arguments, with NEXT and WITHIN, if the view was at a segment: HIGHER, if the"
            + " level of the segment got is lower than the level of that one, OTHER, if the levels are the same and the"
            + " types are not.");
        int[] steps = {OK, OK, OK, OK, HIGHER, OTHER, HIGHER};
        SegmentYard x = filled();
        for (int place = 0; place < 7; place++) {
            is("next, place " + place, steps[place], next(x, 0));
        }
        go(x, 0, 0, 0, 10);
        for (int place = 1; place < 6; place++) {
            is("within, place " + place, steps[place], within(x, 0));
        }
        for (int place = 0; place < 6; place++) {
            x.open(1, 0, EVERY_TYPE);
            for (int step = 0; step <= place; step++) {
                next(x, 1);
            }
            is("UNIQUE_GET without arguments", OK, unique(x, 1));
        }
        go(x, 0, 3, 0, 2);
        list(x, 1, 0);
        is("next with an argument, to a lower level", OK, next(x, 0));
        list(x, 2, 0);
        is("next with an argument, to another type", OK, next(x, 0));
        go(x, 0, 0, 0, 10);
        list(x, 2, 0);
        is("within with an argument, to a higher level", OK, within(x, 0));
        go(x, 0, 3, 0, 2);
        drop(x, 1, 3, 0, 2);
        is("next, ahead of a segment of a lower level", OK, next(x, 0));
        drop(x, 1, 1, 0, 6);
        is("next, ahead of a segment of another type", OK, next(x, 0));
        is("from the level 2 to the root", HIGHER, next(x, 0));
        is("no more", END, next(x, 0));
        is("ahead of all", OK, next(x, 0));
        fromTheLowestLevel();
    }

    private static void fromTheLowestLevel() {
        SegmentYard x = yard();
        one(x, 0, 0, 2);
        for (int type : new int[] {0, 1, 3, 4}) {
            one(x, 0, type, 1);
        }
        is("from the level 4 to the level 1", HIGHER, next(x, 0));
        x.open(0, 0, 1);
        next(x, 0);
        is("from a root to the next one", OK, next(x, 0));
    }

    private static void noneIsGot() {
        says("If none is got, the status is NOT_FOUND, and nothing changes but the hold; but for NEXT without arguments it"
            + " is END, and the view is ahead of all then.");
        for (int how = UNIQUE_GET; how <= WITHIN; how++) {
            SegmentYard x = filled();
            hold(x, 0, 1, 0, 6);
            fill(x, 0, 901, 902, 903);
            String before = picture(x);
            list(x, 0, PATH | PARENTAGE, 1, PATH);
            list(x, 3, 0);
            x.condition(false, 0, SAME, 999);
            is("none is right, " + how, NOT_FOUND, x.get(0, how, true));
            Due.same("nothing changes, " + how, before, picture(x));
            is("the hold", 0, x.holds(0));
            is("the next one behind the position", OTHER, next(x, 0));
        }
        SegmentYard x = filled();
        hold(x, 0, 0, 0, 20);
        is("within, without arguments", NOT_FOUND, x.get(0, WITHIN, true));
        stands("it stays", x, 0, 6, 6);
        is("the hold", 0, x.holds(0));
        hold(x, 0, 0, 0, 20);
        fill(x, 0, 901);
        is("next, behind the last one", END, x.get(0, NEXT, true));
        stands("ahead of all", x, 0, NONE, 0);
        is("the hold", 0, x.holds(0));
        is("the parent stays", 6, x.parent(0));
        is("the area stays", 901, x.area(0, 0));
        is("from the first one on", OK, next(x, 0));
        stands("at the first one", x, 0, 0, 0);
        emptyRows();
    }

    private static void emptyRows() {
        SegmentYard x = yard();
        for (int i = 0; i < 2; i++) {
            is("unique, without arguments, in an empty row", NOT_FOUND, unique(x, 0));
            is("next in an empty row", END, next(x, 0));
        }
        list(x, 0, 0);
        is("next, with an argument, in an empty row", NOT_FOUND, next(x, 0));
        one(x, 1, 0, 5);
        drop(x, 1, 0, 0, 5);
        is("behind all of an empty row", END, next(x, 1));
        one(x, 0, 0, 5);
        stands("ahead of all", x, 1, NONE, 0);
        is("it is got", OK, next(x, 1));
    }

    private static void holdIsLost() {
        says("With each of the calls get, insert, replace and delete a view first loses what it holds; replace and delete"
            + " go on with what it held until then.");
        for (int call = 0; call < 4; call++) {
            SegmentYard x = filled();
            hold(x, 0, 0, 0, 20);
            hold(x, 1, 3, 0, 7);
            x.put(0, 0, 20);
            list(x, 0, 0);
            int[] due = {OK, DOUBLE, OK, OK};
            int status = call == 0 ? unique(x, 0) : call == 1 ? x.insert(0) : call == 2 ? x.replace(0) : x.delete(0);
            is("the call " + call, due[call], status);
            is("the hold of the view", 0, x.holds(0));
            is("the hold of another view", 1, x.holds(1));
            is("replace", NOT_HELD, x.replace(0));
            is("delete", NOT_HELD, x.delete(0));
        }
        for (Refusals.Refusal refusal : Refusals.all()) {
            SegmentYard x = refusal.ready();
            int others = x.holds(1);
            is(refusal.name(), refusal.status(), refusal.call().on(x));
            is("the hold behind " + refusal.name(), 0, x.holds(refusal.view()));
            is("the hold of another view", others, x.holds(1));
        }
        SegmentYard x = filled();
        hold(x, 0, 0, 0, 20);
        x.clear();
        x.put(0, 1, 77);
        go(x, 1, 0, 0, 10);
        is("calls of other kinds, and of other views, leave it", 1, x.holds(0));
    }

    // ---- Inserting

    private static void listToInsert() {
        says("The list has to be in order, with types that the view sees, and must not be empty.");
        SegmentYard x = filled();
        is("an empty list", BAD, x.insert(0));
        list(x, 1, 0, 0, 0);
        is("upwards", BAD, x.insert(0));
        list(x, 0, PATH, 0, 0);
        is("a type twice", BAD, x.insert(0));
        list(x, 0, 0, 2, 0, 1, 0);
        is("siblings", BAD, x.insert(0));
        list(x, 5, 0);
        is("of another database", BAD, x.insert(0));
        x.open(1, 0, 1 | 8);
        list(x, 1, 0);
        is("not in the set", BAD, x.insert(1));
        list(x, 0, PATH, 1, 0);
        is("the last one is not in the set", BAD, x.insert(1));
        x.open(1, 0, 2);
        list(x, 1, 0);
        is("its parent type is not in the set", BAD, x.insert(1));
        x.open(1, 0, 1);
        fill(x, 0, 5);
        list(x, 0, 0);
        is("seen", OK, x.insert(1));
        row(x, 0, 5, 10, 1005, 3007, 3002, 1006, 2001, 20);
    }

    private static void newOnes() {
        says("The new ones are the arguments from the first one with PATH on; if there is none, the last one.");
        for (int paths = 0; paths < 16; paths++) {
            SegmentYard x = yard();
            list(x, 0, PATH, 1, 0, 3, 0, 4, 0);
            x.insert(0);
            fill(x, 0, 1);
            int[] types = {0, 1, 3, 4};
            int first = 3;
            for (int i = 3; i >= 0; i--) {
                first = (paths >> i & 1) != 0 ? i : first;
            }
            for (int i = 0; i < 4; i++) {
                x.argument(types[i], (paths >> i & 1) != 0 ? PATH : 0);
            }
            is("PATH at the arguments " + paths, OK, x.insert(0));
            is("how many are inserted", 4 + 4 - first, x.count(0));
        }
        SegmentYard x = yard();
        list(x, 0, 0);
        is("one argument without PATH", OK, x.insert(0));
        list(x, 1, PATH);
        is("one argument with PATH", OK, x.insert(0));
        row(x, 0, 0, 1000);
    }

    private static void badNewOnes() {
        says("Each new one but the first has to be of a child type of the one ahead of it, new ones must not have"
            + " conditions (their other codes do not matter), and the argument ahead of the first new one, if there is"
            + " one, has to be of the parent type of that; if there is none, and the first new one is not of a root"
            + " type, its parent is looked for at the position. Otherwise the status is BAD.");
        SegmentYard x = filled();
        fill(x, 0, 30);
        list(x, 0, PATH, 3, 0);
        is("a gap among the new ones", BAD, x.insert(0));
        list(x, 0, PATH, 1, 0, 4, 0);
        is("a gap behind them", BAD, x.insert(0));
        list(x, 0, 0, 3, 0);
        is("a gap ahead of the new one", BAD, x.insert(0));
        list(x, 0, 0, 3, PATH, 4, 0);
        is("a gap ahead of the first new one", BAD, x.insert(0));
        list(x, 0, 0, 3, 0, 4, 0);
        is("a gap further ahead does not matter", OK, x.insert(0));
        same(x, 0, PATH, 2, 0);
        is("a condition of the only new one", BAD, x.insert(0));
        same(x, 0, PATH, 2, 0);
        list(x, 1, 0);
        is("a condition of the first new one", BAD, x.insert(0));
        list(x, 0, PATH);
        same(x, 1, 0, 2, 0);
        is("a condition of the last new one", BAD, x.insert(0));
        list(x, 0, PATH);
        same(x, 1, 0, 2, 0);
        list(x, 3, 0);
        is("a condition of one between", BAD, x.insert(0));
        same(x, 0, 0, 2, 0);
        same(x, 1, 0, 2, 0);
        list(x, 3, 0);
        is("conditions of those ahead", OK, x.insert(0));
        int ahead = x.count(0);
        fill(x, 0, 40);
        list(x, 0, 63, 1, 62, 3, 63);
        is("their other codes", OK, x.insert(0));
        is("three more", ahead + 3, x.count(0));
        is("the parent is the last one all the same", x.at(0), x.parent(0));
        fill(x, 0, 50);
        list(x, 0, 62);
        is("the other codes of the last one", OK, x.insert(0));
        list(x, 1, 0);
        is("a parent at the position", OK, x.insert(0));
        x.open(0, 0, EVERY_TYPE);
        list(x, 1, 0);
        is("no parent there is not BAD", NOT_FOUND, x.insert(0));
        list(x, 3, PATH);
        is("nor is it with PATH", NOT_FOUND, x.insert(0));
        fill(x, 0, 60);
        list(x, 0, 0);
        is("a root needs none", OK, x.insert(0));
    }

    private static void parentOfNewOnes() {
        says("The parent of the first new segment is, if there are arguments ahead of the new ones, the first segment of"
            + " the row that would be right for these; if there are none, the segment of the parent type among the one"
            + " at which the view is, its parent, the parent of that, and so on. If there is none, the status is"
            + " NOT_FOUND.");
        SegmentYard x = filled();
        go(x, 0, 0, 0, 20);
        int[] positions = {20, 10};
        for (int root : positions) {
            go(x, 0, 0, 0, root);
            list(x, 0, 0, 1, 0);
            fill(x, 0, 7);
            is("the first root, whatever the position", OK, x.insert(0));
        }
        row(x, 0, 10, 1005, 3007, 3002, 1006, 1007, 1007, 2001, 20);
        same(x, 0, 0, 0, 20);
        list(x, 1, 0);
        is("the first root that fulfils it", OK, x.insert(0));
        is("the first root that fulfils it", 9, x.at(0));
        list(x, 0, LAST_TWIN, 1, 0);
        is("the last twin", OK, x.insert(0));
        is("the last twin", 10, x.at(0));
        list(x, 0, HELD_HERE, 1, LAST_TWIN, 3, 0);
        is("the one at which the view is", OK, x.insert(0));
        is("below the last twin of those", 11, x.at(0));
        row(x, 0, 10, 1005, 3007, 3002, 1006, 1007, 1007, 2001, 20, 1007, 1007, 3007);
        same(x, 0, 0, 0, 20);
        same(x, 1, 0, 0, 5);
        list(x, 3, 0);
        is("none is right", NOT_FOUND, x.insert(0));
        list(x, 0, FIRST_TWIN | LAST_TWIN, 1, 0);
        is("none is the first and the last", NOT_FOUND, x.insert(0));
        x.open(0, 0, EVERY_TYPE);
        list(x, 0, HELD_HERE, 1, 0);
        is("the view is at none", NOT_FOUND, x.insert(0));
        parentAtThePosition();
    }

    private static void parentAtThePosition() {
        SegmentYard x = filled();
        list(x, 1, 0);
        is("ahead of all", NOT_FOUND, x.insert(0));
        go(x, 0, 2, 0, 1);
        list(x, 3, 0);
        is("at one beside the parent type", NOT_FOUND, x.insert(0));
        go(x, 0, 0, 0, 10);
        list(x, 3, 0);
        is("above the parent type", NOT_FOUND, x.insert(0));
        go(x, 0, 0, 0, 20);
        fill(x, 0, 9);
        list(x, 2, 0);
        is("at the parent", OK, x.insert(0));
        row(x, 0, 10, 1005, 3007, 3002, 1006, 2001, 20, 2009);
        fill(x, 0, 8);
        list(x, 2, 0);
        is("at a twin", OK, x.insert(0));
        row(x, 0, 10, 1005, 3007, 3002, 1006, 2001, 20, 2008, 2009);
        go(x, 0, 3, 0, 2);
        fill(x, 0, 8);
        list(x, 2, 0);
        is("two levels below the parent", OK, x.insert(0));
        row(x, 0, 10, 1005, 3007, 3002, 1006, 2001, 2008, 20, 2008, 2009);
        go(x, 0, 3, 0, 2);
        drop(x, 1, 3, 0, 2);
        list(x, 1, 0);
        is("ahead of a segment", NOT_FOUND, x.insert(0));
        go(x, 0, 0, 0, 20);
        drop(x, 1, 0, 0, 20);
        list(x, 1, 0);
        is("behind all", NOT_FOUND, x.insert(0));
        go(x, 1, 0, 0, 10);
        list(x, 1, 0);
        is("the position of another view", NOT_FOUND, x.insert(0));
        hold(x, 0, 0, 0, 10);
        is("no more", END, nextBehindLast(x));
        list(x, 1, 0);
        is("the parent of the view does not matter", NOT_FOUND, x.insert(0));
        is("the parent of the view", 0, x.parent(0));
    }

    /** Leaves view 0 ahead of all, with the first root as its parent. */
    private static int nextBehindLast(SegmentYard x) {
        int status = OK;
        for (int step = 0; step < 60 && status != NOT_FOUND; step++) {
            status = within(x, 0);
        }
        return next(x, 0);
    }

    private static void fieldsOfNewOnes() {
        says("The fields of the new ones are those of the slots 0, 1 and so on, one for each.");
        int[] types = {0, 1, 3, 4};
        for (int first = 0; first < 4; first++) {
            SegmentYard x = yard();
            for (int slot = 0; slot < 4; slot++) {
                fill(x, slot, 10 + slot, 20 + slot, 30 + slot);
            }
            list(x, 0, PATH, 1, 0, 3, 0, 4, 0);
            x.insert(0);
            for (int slot = 0; slot < 4; slot++) {
                fill(x, slot, 50 + slot, 60 + slot, 70 + slot);
            }
            for (int i = 0; i < 4; i++) {
                x.argument(types[i], i < first ? 0 : PATH);
            }
            is("insert", OK, x.insert(0));
            int last = x.at(0);
            for (int field = 0; field < 3; field++) {
                for (int slot = 0; slot < 4 - first; slot++) {
                    int place = last - (3 - first) + slot;
                    is("slot " + slot, 50 + 10 * field + slot, x.fieldAt(0, place, field));
                }
                is("the slots stay", 53 + 10 * field, x.area(3, field));
            }
        }
    }

    private static void doubles() {
        says("If the first new one is of a UNIQUE type, and a twin has its key, the status is DOUBLE.");
        SegmentYard x = filled();
        is("a root", DOUBLE, one(x, 0, 0, 10));
        is("the last root", DOUBLE, one(x, 0, 0, 20));
        go(x, 0, 0, 0, 10);
        is("a UNIQUE one", DOUBLE, one(x, 0, 2, 1));
        is("a MANY one", OK, one(x, 0, 1, 5));
        is("an UNKEYED one", OK, one(x, 0, 3, 7));
        is("an UNKEYED one", OK, one(x, 0, 3, 7));
        same(x, 0, 0, 0, 20);
        list(x, 2, 0);
        fill(x, 0, 1);
        is("below another parent", OK, x.insert(0));
        is("the same there", DOUBLE, one(x, 0, 2, 1));
        is("with another field", DOUBLE, one(x, 0, 2, 1, 5, 5));
        list(x, 0, PATH, 2, 0);
        fill(x, 0, 10);
        fill(x, 1, 9);
        is("the first of two", DOUBLE, x.insert(0));
        list(x, 0, PATH, 2, 0);
        fill(x, 0, 30);
        fill(x, 1, 1);
        is("the second of two has no twins", OK, x.insert(0));
        drop(x, 0, 0, 0, 20);
        is("once it is deleted", OK, one(x, 0, 0, 20));
    }

    private static void fullOnes() {
        says("If there would be more than 60 segments, those included that are made (see below), the status is FULL.");
        for (int there = 56; there <= 60; there++) {
            for (int added = 1; added <= 4; added++) {
                SegmentYard x = crowd(there);
                for (int slot = 0; slot < added; slot++) {
                    fill(x, slot, 900, 0, 0);
                    x.argument(slot, slot == 0 ? PATH : 0);
                }
                is(added + " to " + there, there + added > 60 ? FULL : OK, x.insert(0));
                is("count", there + (there + added > 60 ? 0 : added), x.count(0));
            }
            for (int made = 1; made <= 3; made++) {
                SegmentYard x = crowd(there);
                for (int slot = 0; slot < 4; slot++) {
                    fill(x, slot, 7, 0, slot < made ? 800 + slot : 0);
                }
                list(x, 0, 0, 1, PATH, 2, 0, 3, 0);
                boolean isFull = there + 3 + made > 60;
                is(made + " made for three, to " + there, isFull ? FULL : OK, x.insert(0));
                is("count", there + (isFull ? 0 : 3 + made), x.count(0));
            }
        }
    }

    /** Types 0 (root), 1, 2 and 3, each below the one ahead of it and tied to roots by MAKE; some roots, from 0 on. */
    private static SegmentYard crowd(int roots) {
        SegmentYard x = new SegmentYard();
        for (int type = 0; type < 4; type++) {
            x.type(0, type - 1, type == 0 ? UNIQUE : UNKEYED, LAST);
        }
        for (int type = 1; type < 4; type++) {
            x.tie(type, 0, MAKE, LOOSE);
        }
        x.open(0, 0, EVERY_TYPE);
        for (int key = 0; key < roots; key++) {
            is("a root", OK, one(x, 0, 0, key));
        }
        return x;
    }

    private static void atTheLastOne() {
        says("Otherwise they are inserted, each below the one ahead of it; the view is at the last one then, which becomes"
            + " its parent.");
        SegmentYard x = yard();
        for (int slot = 0; slot < 4; slot++) {
            fill(x, slot, slot + 1);
        }
        list(x, 0, PATH, 1, 0, 3, 0, 4, 0);
        is("four", OK, x.insert(0));
        is("each below the one ahead of it", 1002003004L, x.keys(0));
        stands("at the last one", x, 0, 3, 3);
        is("the parent", 3, x.parent(0));
        is("nothing is held", 0, x.holds(0));
        stands("another view stays", x, 1, NONE, 0);
        is("another view has no parent", NONE, x.parent(1));
        one(x, 0, 0, 0);
        stands("at the only one", x, 0, 0, 0);
        is("the parent", 0, x.parent(0));
        is("nothing is below it", NOT_FOUND, within(x, 0));
        go(x, 0, 0, 0, 1);
        drop(x, 1, 0, 0, 1);
        stands("behind all", x, 0, NONE, 1);
        one(x, 1, 0, 5);
        one(x, 0, 0, 4);
        stands("at the new one, not behind all any more", x, 0, 1, 1);
        is("the next one", OK, next(x, 0));
    }

    // ---- Replacing and deleting

    private static void replacingNothing() {
        says("Replacing: if the view held nothing, the status is NOT_HELD.");
        SegmentYard x = filled();
        for (int view = 0; view < 4; view++) {
            is("a view that was opened", NOT_HELD, x.replace(view));
        }
        go(x, 0, 0, 0, 20);
        is("got without a hold", NOT_HELD, x.replace(0));
        hold(x, 0, 0, 0, 20);
        is("another view", NOT_HELD, x.replace(1));
        is("held", OK, x.replace(0));
        is("replaced before", NOT_HELD, x.replace(0));
        hold(x, 0, 0, 0, 20);
        is("got in vain", END, x.get(0, NEXT, true));
        is("got in vain", NOT_HELD, x.replace(0));
        hold(x, 0, 0, 0, 20);
        x.open(0, 0, EVERY_TYPE);
        is("opened anew", NOT_HELD, x.replace(0));
        hold(x, 0, 0, 0, 20);
        drop(x, 1, 0, 0, 20);
        is("deleted by another view", NOT_HELD, x.replace(0));
    }

    private static void keptAside() {
        says("The segments that it held, those aside that were got by an argument with KEPT, get the fields of the slots"
            + " into which they were got.");
        int[] types = {0, 1, 3, 4};
        for (int kept = 0; kept < 16; kept++) {
            SegmentYard x = yard();
            for (int slot = 0; slot < 4; slot++) {
                fill(x, slot, slot, slot, slot);
            }
            list(x, 0, PATH, 1, 0, 3, 0, 4, 0);
            x.insert(0);
            for (int i = 0; i < 4; i++) {
                x.argument(types[i], PATH | ((kept >> i & 1) != 0 ? KEPT : 0));
            }
            x.get(0, UNIQUE_GET, true);
            for (int slot = 0; slot < 4; slot++) {
                fill(x, slot, slot, 50 + slot, 60 + slot);
            }
            is("replace", OK, x.replace(0));
            for (int i = 0; i < 4; i++) {
                boolean isKept = (kept >> i & 1) != 0;
                is("field 1 of " + i, isKept ? i : 50 + i, x.fieldAt(0, i, 1));
                is("field 2 of " + i, isKept ? i : 60 + i, x.fieldAt(0, i, 2));
            }
        }
        slotsOfThoseHeld();
    }

    private static void slotsOfThoseHeld() {
        SegmentYard x = filled();
        list(x, 0, PATH, 1, 0, 3, KEPT);
        x.get(0, UNIQUE_GET, true);
        fill(x, 0, 10, 11, 12);
        fill(x, 1, 999, 999, 999);
        is("without the one between", OK, x.replace(0));
        seconds(x, 0, 11, 3, 4, 5, 6, 7, 1);
        list(x, 0, KEPT, 3, 0);
        x.get(0, UNIQUE_GET, true);
        fill(x, 0, 8, 81, 82);
        is("KEPT, without PATH, is not held", OK, x.replace(0));
        seconds(x, 0, 11, 3, 81, 5, 6, 7, 1);
        unique(x, 0);
        x.get(0, NEXT, true);
        fill(x, 0, 5, 51, 52);
        fill(x, 1, 0, 0, 0);
        is("without arguments, from slot 0", OK, x.replace(0));
        seconds(x, 0, 11, 51, 81, 5, 6, 7, 1);
        row(x, 0, 10, 1005, 3008, 3002, 1006, 2001, 20);
        hold(x, 0, 3, 0, 2);
        go(x, 1, 0, 0, 20);
        is("the slots as they are then", OK, x.replace(0));
        row(x, 0, 10, 1005, 3008, 3020, 1006, 2001, 20);
        seconds(x, 0, 11, 51, 81, 1, 6, 7, 1);
        stands("the position stays", x, 0, 3, 3);
        is("the parent stays", 3, x.parent(0));
    }

    private static void changedKeys() {
        says("If a key would become another one by that, of a segment whose type is not UNKEYED, the status is"
            + " KEY_CHANGED.");
        SegmentYard x = filled();
        int[] types = {0, 1, 2, 3};
        int[] keys = {10, 5, 1, 7};
        for (int i = 0; i < 4; i++) {
            for (int other : new int[] {keys[i] - 1, keys[i] + 1, keys[i]}) {
                hold(x, 0, types[i], 0, keys[i]);
                fill(x, 0, other, 90 + i);
                is("the key " + other, other == keys[i] || types[i] == 3 ? OK : KEY_CHANGED, x.replace(0));
                keys[i] = types[i] == 3 ? other : keys[i];
            }
        }
        row(x, 0, 10, 1005, 3007, 3002, 1006, 2001, 20);
        seconds(x, 0, 90, 91, 93, 5, 6, 92, 1);
        for (int changed = 0; changed < 4; changed++) {
            list(x, 0, PATH, 1, PATH, 3, 0);
            x.get(0, UNIQUE_GET, true);
            for (int slot = 0; slot < 3; slot++) {
                x.put(slot, 1, 40 + slot);
                x.put(slot, 0, x.area(slot, 0) + (slot == changed ? 1 : 0));
            }
            is("one of several", changed < 2 ? KEY_CHANGED : OK, x.replace(0));
            seconds(x, 0, changed < 2 ? 90 : 40, changed < 2 ? 91 : 41, changed < 2 ? 93 : 42);
        }
        list(x, 0, PATH | KEPT, 1, KEPT);
        x.get(0, UNIQUE_GET, true);
        fill(x, 0, 999);
        fill(x, 1, 999);
        is("of those that are kept", OK, x.replace(0));
        row(x, 0, 10, 1005, 3008, 3002, 1006, 2001, 20);
    }

    private static void deletingNothing() {
        says("Deleting: if the view held nothing, the status is NOT_HELD.");
        SegmentYard x = filled();
        for (int view = 0; view < 4; view++) {
            is("a view that was opened", NOT_HELD, x.delete(view));
        }
        go(x, 0, 0, 0, 20);
        is("got without a hold", NOT_HELD, x.delete(0));
        hold(x, 0, 0, 0, 20);
        is("another view", NOT_HELD, x.delete(1));
        is("replaced before", OK, x.replace(0));
        is("replaced before", NOT_HELD, x.delete(0));
        hold(x, 0, 0, 0, 20);
        hold(x, 1, 0, 0, 20);
        is("held by both", OK, x.delete(0));
        is("deleted by another view", NOT_HELD, x.delete(1));
        is("deleted before", NOT_HELD, x.delete(0));
        is("count", 6, x.count(0));
    }

    private static void deletedWithAllBelow() {
        says("The segment that was got is deleted, with all that is below it, by the rules that follow.");
        SegmentYard x = filled();
        drop(x, 0, 3, 0, 7);
        row(x, 0, 10, 1005, 3002, 1006, 2001, 20);
        list(x, 0, PATH, 1, PATH, 3, PATH | KEPT);
        x.get(0, UNIQUE_GET, true);
        is("the one got, not those on the path, though it is kept", OK, x.delete(0));
        row(x, 0, 10, 1005, 1006, 2001, 20);
        list(x, 0, PARENTAGE, 2, 0);
        x.get(0, UNIQUE_GET, true);
        is("not the parent of the view", OK, x.delete(0));
        row(x, 0, 10, 1005, 1006, 20);
        hold(x, 0, 0, 0, 20);
        is("without anything below", OK, x.delete(0));
        row(x, 0, 10, 1005, 1006);
        hold(x, 0, 0, 0, 10);
        is("with all", OK, x.delete(0));
        row(x, 0);
        SegmentYard y = yard();
        one(y, 0, 0, 2);
        for (int type : new int[] {0, 1, 3, 4}) {
            one(y, 0, type, 1);
        }
        row(y, 0, 1, 1001, 3001, 4001, 2);
        drop(y, 0, 0, 0, 1);
        row(y, 0, 2);
        is("the lowest keys are free again", OK, one(y, 0, 0, 1));
        is("nothing is below the new one", NOT_FOUND, within(y, 0));
    }
}

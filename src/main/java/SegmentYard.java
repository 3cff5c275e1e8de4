/**
 * A hierarchical database with views. Segments are kept by numbers (NONE: no segment), so that
 * nothing is made after the constructor; the row of each database is a row of such numbers.
 */
public final class SegmentYard {
    public static final int NONE = -1;
    public static final int UNIQUE = 0, MANY = 1, UNKEYED = 2;
    public static final int FIRST = 0, LAST = 1, HERE = 2;
    public static final int MUST = 0, MAKE = 1, BOUND = 0, LOOSE = 1, ALL = 2;
    public static final int PATH = 1, FIRST_TWIN = 2, LAST_TWIN = 4, HELD_HERE = 8, PARENTAGE = 16, KEPT = 32;
    public static final int SAME = 0, UNLIKE = 1, LESS = 2, AT_MOST = 3, GREATER = 4, AT_LEAST = 5;
    public static final int UNIQUE_GET = 0, NEXT = 1, WITHIN = 2;
    public static final int OK = 0, HIGHER = 1, OTHER = 2, END = 3, BAD = 4, NO_PARENT = 5, NOT_HELD = 6,
        NOT_FOUND = 7, KEY_CHANGED = 8, DOUBLE = 9, NO_TARGET = 10, FULL = 11, TIED = 12;

    private static final int DATABASES = 3, VIEWS = 4, SLOTS = 4, FIELDS = 3;
    private static final int MOST_TYPES = 12, MOST_LEVELS = 4, MOST_SEGMENTS = 60;
    private static final int MOST_ARGUMENTS = 4, MOST_CONDITIONS = 3;
    private static final int NUMBERS = 1000, SETS_OF_TYPES = 4096, SETS_OF_CODES = 64;
    private static final int KEY = 0, TARGET_KEY = 2;

    private final Schema schema = new Schema();
    private final Store store = new Store(schema);
    private final Arguments arguments = new Arguments();
    private final Needs needs = new Needs();
    private final View[] views = new View[VIEWS];
    private final int[] slots = new int[SLOTS * FIELDS];

    public SegmentYard() {
        for (int view = 0; view < views.length; view++) {
            views[view] = new View();
        }
    }

    // ---- types and views

    public int type(int database, int parent, int keys, int rule)
            throws IndexOutOfBoundsException, IllegalArgumentException, IllegalStateException {
        needIndex(isIn(database, DATABASES) && (parent == NONE || schema.isType(parent)));
        needRange(parent == NONE || schema.databaseOf(parent) == database);
        needRange(isIn(keys, UNKEYED + 1) && isIn(rule, HERE + 1));
        needRange(parent != NONE || keys == UNIQUE);
        needState(store.countOf(database) == 0);
        needState(parent != NONE || !schema.hasRootType(database));
        needState(schema.levelBelow(parent) <= MOST_LEVELS && schema.size() < MOST_TYPES);
        return schema.define(database, parent, keys, rule);
    }

    public void tie(int type, int root, int coming, int going)
            throws IndexOutOfBoundsException, IllegalArgumentException, IllegalStateException {
        needIndex(schema.isType(type) && schema.isType(root));
        needRange(!schema.isRootType(type) && schema.isRootType(root));
        needRange(isIn(coming, MAKE + 1) && isIn(going, ALL + 1));
        needState(store.countOf(schema.databaseOf(type)) == 0);
        needState(schema.targetOf(type) == NONE);
        schema.bind(type, root, coming, going);
    }

    public void open(int view, int database, int types) throws IndexOutOfBoundsException, IllegalArgumentException {
        View opened = viewOf(view);
        needIndex(isIn(database, DATABASES));
        needRange(isIn(types, SETS_OF_TYPES));
        opened.reopen(database, types);
    }

    // ---- arguments and the area

    public int argument(int type, int codes)
            throws IndexOutOfBoundsException, IllegalArgumentException, IllegalStateException {
        needIndex(schema.isType(type));
        needRange(isIn(codes, SETS_OF_CODES));
        needState(arguments.size() < MOST_ARGUMENTS);
        return arguments.list(type, codes);
    }

    public int condition(boolean isOr, int field, int comparison, int number)
            throws IndexOutOfBoundsException, IllegalArgumentException, IllegalStateException {
        needIndex(isIn(field, FIELDS));
        needRange(isIn(comparison, AT_LEAST + 1) && isIn(number, NUMBERS));
        int last = arguments.size() - 1;
        needState(last >= 0 && arguments.conditionsOf(last) < MOST_CONDITIONS);
        return arguments.addCondition(isOr, field, comparison, number);
    }

    public int clear() {
        return arguments.drop();
    }

    public int put(int slot, int field, int number) throws IndexOutOfBoundsException, IllegalArgumentException {
        needIndex(isIn(slot, SLOTS) && isIn(field, FIELDS));
        needRange(isIn(number, NUMBERS));
        int before = slotNumber(slot, field);
        setSlotNumber(slot, field, number);
        return before;
    }

    public int area(int slot, int field) throws IndexOutOfBoundsException {
        needIndex(isIn(slot, SLOTS) && isIn(field, FIELDS));
        return slotNumber(slot, field);
    }

    // ---- calls

    public int get(int view, int how, boolean isHold) throws IndexOutOfBoundsException, IllegalArgumentException {
        View getter = viewOf(view);
        needRange(isIn(how, WITHIN + 1));
        getter.release();
        int status = seek(getter, how, isHold);
        arguments.drop();
        return status;
    }

    public int insert(int view) throws IndexOutOfBoundsException {
        View inserter = viewOf(view);
        inserter.release();
        int status = insertListed(inserter);
        arguments.drop();
        return status;
    }

    public int replace(int view) throws IndexOutOfBoundsException {
        View replacer = viewOf(view);
        int status = replaceHeld(replacer);
        replacer.release();
        arguments.drop();
        return status;
    }

    public int delete(int view) throws IndexOutOfBoundsException {
        View deleter = viewOf(view);
        int got = deleter.lastHeld();
        deleter.release();
        int status = got == NONE ? NOT_HELD : deleteFrom(got);
        arguments.drop();
        return status;
    }

    // ---- what there is

    public int types() {
        return schema.size();
    }

    public int count(int database) throws IndexOutOfBoundsException {
        needIndex(isIn(database, DATABASES));
        return store.countOf(database);
    }

    public int rowAt(int database, int place) throws IndexOutOfBoundsException {
        needIndex(isPlace(database, place));
        return store.signOf(store.segmentAt(database, place));
    }

    public int rowAnew(int database, int place) throws IndexOutOfBoundsException {
        needIndex(isPlace(database, place));
        for (int segment = 0; segment < MOST_SEGMENTS; segment++) {
            if (store.databaseOf(segment) == database && comparedAhead(database, segment) == place) {
                return store.signOf(segment);
            }
        }
        return NONE;
    }

    public int fieldAt(int database, int place, int field) throws IndexOutOfBoundsException {
        needIndex(isPlace(database, place) && isIn(field, FIELDS));
        return store.numberOf(store.segmentAt(database, place), field);
    }

    public int at(int view) throws IndexOutOfBoundsException {
        View asked = viewOf(view);
        return store.placeOf(asked.segmentAt());
    }

    public int ahead(int view) throws IndexOutOfBoundsException {
        return countAhead(viewOf(view));
    }

    public int parent(int view) throws IndexOutOfBoundsException {
        View asked = viewOf(view);
        return store.placeOf(asked.parentSegment());
    }

    public int holds(int view) throws IndexOutOfBoundsException {
        View asked = viewOf(view);
        return asked.heldCount();
    }

    public long keys(int view) throws IndexOutOfBoundsException {
        View asked = viewOf(view);
        int segment = asked.segmentAt();
        if (segment == NONE) {
            return NONE;
        }
        long keys = 0;
        long weight = 1;
        for (int level = 0; level < MOST_LEVELS && segment != NONE; level++) {
            keys += weight * store.numberOf(segment, KEY);
            weight *= NUMBERS;
            segment = store.parentOf(segment);
        }
        return keys;
    }

    public int second(int view) throws IndexOutOfBoundsException {
        View asked = viewOf(view);
        int segment = asked.segmentAt();
        int target = schema.targetOf(store.typeOf(segment));
        return store.placeOf(store.rootOf(target, store.numberOf(segment, TARGET_KEY)));
    }

    public int tied(int view) throws IndexOutOfBoundsException {
        View asked = viewOf(view);
        int root = asked.segmentAt();
        int count = 0;
        for (int segment = 0; segment < MOST_SEGMENTS; segment++) {
            if (store.isTied(segment, root)) {
                count++;
            }
        }
        return count;
    }

    // ---- what is wrong in a call

    private static boolean isIn(int number, int end) {
        return number >= 0 && number < end;
    }

    private boolean isPlace(int database, int place) {
        return isIn(database, DATABASES) && isIn(place, store.countOf(database));
    }

    private static void needIndex(boolean isThere) {
        if (!isThere) {
            throw new IndexOutOfBoundsException("there is no such one");
        }
    }

    private static void needRange(boolean isInRange) {
        if (!isInRange) {
            throw new IllegalArgumentException("this is out of range");
        }
    }

    private static void needState(boolean isAllowed) {
        if (!isAllowed) {
            throw new IllegalStateException("this is not to be done now");
        }
    }

    private View viewOf(int view) {
        if (view < 0 || view >= views.length || views[view] == null) {
            throw new IndexOutOfBoundsException("there is no such view");
        }
        return views[view];
    }

    // ---- the area

    private int slotNumber(int slot, int field) {
        return isIn(slot, SLOTS) && isIn(field, FIELDS) ? slots[slot * FIELDS + field] : 0;
    }

    private void setSlotNumber(int slot, int field, int number) {
        if (isIn(slot, SLOTS) && isIn(field, FIELDS)) {
            slots[slot * FIELDS + field] = number;
        }
    }

    private void fillSlot(int slot, int segment) {
        for (int field = 0; field < FIELDS; field++) {
            setSlotNumber(slot, field, store.numberOf(segment, field));
        }
    }

    private void fillSegment(int segment, int slot) {
        for (int field = 0; field < FIELDS; field++) {
            store.setNumber(segment, field, slotNumber(slot, field));
        }
    }

    // ---- getting

    private int seek(View view, int how, boolean isHold) {
        if (!isListOrdered(view)) {
            return BAD;
        }
        int within = how == WITHIN ? view.parentSegment() : NONE;
        if (how == WITHIN && within == NONE) {
            return NO_PARENT;
        }
        int start = how == UNIQUE_GET ? 0 : placeBehind(view);
        int found = firstRight(view, arguments.size(), start, within);
        if (found == NONE) {
            return miss(view, how);
        }
        int status = how == UNIQUE_GET ? OK : statusOfStep(view.segmentAt(), found);
        deliver(view, found, isHold);
        if (how != WITHIN) {
            view.setParent(parentageOf(found));
        }
        view.standAt(found);
        return status;
    }

    private boolean isListOrdered(View view) {
        for (int i = 0; i < arguments.size(); i++) {
            int type = arguments.typeOf(i);
            if (!view.sees(schema, type)) {
                return false;
            }
            if (i > 0 && !schema.isBelow(type, arguments.typeOf(i - 1))) {
                return false;
            }
        }
        return true;
    }

    private int miss(View view, int how) {
        if (how != NEXT || arguments.size() > 0) {
            return NOT_FOUND;
        }
        view.standAheadOfAll();
        return END;
    }

    private int statusOfStep(int from, int found) {
        if (arguments.size() > 0 || from == NONE) {
            return OK;
        }
        int levelBefore = schema.levelOf(store.typeOf(from));
        int level = schema.levelOf(store.typeOf(found));
        if (level < levelBefore) {
            return HIGHER;
        }
        return level == levelBefore && store.typeOf(found) != store.typeOf(from) ? OTHER : OK;
    }

    private void deliver(View view, int found, boolean isHold) {
        int slot = 0;
        int last = arguments.size() - 1;
        for (int i = 0; i < last; i++) {
            if (arguments.hasCode(i, PATH)) {
                deliverOne(view, store.upward(found, arguments.typeOf(i)), slot, i, isHold);
                slot++;
            }
        }
        deliverOne(view, found, slot, last, isHold);
    }

    private void deliverOne(View view, int segment, int slot, int argument, boolean isHold) {
        fillSlot(slot, segment);
        if (isHold) {
            view.hold(segment, arguments.hasCode(argument, KEPT));
        }
    }

    private int parentageOf(int found) {
        for (int i = arguments.size() - 1; i >= 0; i--) {
            if (arguments.hasCode(i, PARENTAGE)) {
                return store.upward(found, arguments.typeOf(i));
            }
        }
        return found;
    }

    private int countAhead(View view) {
        if (view.isBehindAll()) {
            return store.countOf(view.database());
        }
        int place = store.placeOf(view.mark());
        return place == NONE ? 0 : place;
    }

    private int placeBehind(View view) {
        int ahead = countAhead(view);
        return view.segmentAt() == NONE ? ahead : ahead + 1;
    }

    /** The first segment from a place on that is right for the first arguments, below one unless that is NONE. */
    private int firstRight(View view, int used, int start, int within) {
        int database = view.database();
        for (int place = start; place < store.countOf(database); place++) {
            int segment = store.segmentAt(database, place);
            if ((within == NONE || store.isBelow(segment, within)) && isRight(view, segment, used)) {
                return segment;
            }
        }
        return NONE;
    }

    private boolean isRight(View view, int segment, int used) {
        int type = store.typeOf(segment);
        if (!view.sees(schema, type) || (used > 0 && type != arguments.typeOf(used - 1))) {
            return false;
        }
        for (int i = 0; i < used; i++) {
            int upper = store.upward(segment, arguments.typeOf(i));
            if (!arguments.isFulfilled(i, store, upper) || !areCodesRight(view, upper, i)) {
                return false;
            }
        }
        return true;
    }

    private boolean areCodesRight(View view, int segment, int argument) {
        if (arguments.hasCode(argument, FIRST_TWIN) && isTwinFulfilling(segment, argument, true)) {
            return false;
        }
        if (arguments.hasCode(argument, LAST_TWIN) && isTwinFulfilling(segment, argument, false)) {
            return false;
        }
        int standing = view.segmentAt();
        return !arguments.hasCode(argument, HELD_HERE) || standing == segment || store.isBelow(standing, segment);
    }

    /** Whether a twin ahead of a segment, or else behind it, fulfils an argument. */
    private boolean isTwinFulfilling(int segment, int argument, boolean isAhead) {
        int type = store.typeOf(segment);
        int parent = store.parentOf(segment);
        for (int other = 0; other < MOST_SEGMENTS; other++) {
            boolean isTwin = other != segment && store.isTwin(other, type, parent);
            if (isTwin && store.placeOf(other) < store.placeOf(segment) == isAhead
                    && arguments.isFulfilled(argument, store, other)) {
                return true;
            }
        }
        return false;
    }

    // ---- inserting

    private int insertListed(View view) {
        int first = arguments.firstNew();
        if (first == NONE || !isListOrdered(view) || !areNewOnesOrdered(first)) {
            return BAD;
        }
        int type = arguments.typeOf(first);
        int parent = first > 0
            ? firstRight(view, first, 0, NONE)
            : store.upward(view.segmentAt(), schema.parentOf(type));
        if (parent == NONE && !schema.isRootType(type)) {
            return NOT_FOUND;
        }
        if (schema.keysOf(type) == UNIQUE && store.hasTwin(type, parent, slotNumber(0, KEY))) {
            return DOUBLE;
        }
        gatherNeedsOfNew(first);
        int status = statusOfNeeds(arguments.size() - first);
        if (status == OK) {
            makeNeeded();
            insertNew(view, first, parent);
        }
        return status;
    }

    private boolean areNewOnesOrdered(int first) {
        for (int i = first; i < arguments.size(); i++) {
            if (arguments.conditionsOf(i) > 0) {
                return false;
            }
            if (i > 0 && schema.parentOf(arguments.typeOf(i)) != arguments.typeOf(i - 1)) {
                return false;
            }
        }
        return true;
    }

    private void gatherNeedsOfNew(int first) {
        needs.start();
        for (int i = first; i < arguments.size(); i++) {
            int type = arguments.typeOf(i);
            int key = slotNumber(i - first, TARGET_KEY);
            boolean isNew = schema.targetOf(type) == arguments.typeOf(first) && key == slotNumber(0, KEY);
            if (!isNew) {
                needRoot(type, key);
            }
        }
    }

    private void insertNew(View view, int first, int parent) {
        int below = parent;
        for (int i = first; i < arguments.size(); i++) {
            int added = addSegment(arguments.typeOf(i), below, slotNumber(i - first, KEY), view.segmentAt());
            fillSegment(added, i - first);
            below = added;
        }
        view.standAt(below);
        view.setParent(below);
    }

    private int addSegment(int type, int parent, int key, int here) {
        int added = store.add(type, parent, twinBehindNew(type, parent, key, here));
        store.setNumber(added, KEY, key);
        return added;
    }

    /** The twin ahead of which a new segment is put; NONE, if it is put behind all twins. */
    private int twinBehindNew(int type, int parent, int key, int here) {
        boolean isKeyed = schema.keysOf(type) != UNKEYED;
        int rule = schema.ruleOf(type);
        if (rule == HERE && store.isTwin(here, type, parent) && (!isKeyed || store.numberOf(here, KEY) == key)) {
            return here;
        }
        if (rule == LAST && !isKeyed) {
            return NONE;
        }
        // by LAST only a higher key is behind the new one, otherwise the same key is, too
        int least = !isKeyed ? 0 : rule == LAST ? key + 1 : key;
        int database = schema.databaseOf(type);
        for (int place = 0; place < store.countOf(database); place++) {
            int other = store.segmentAt(database, place);
            if (store.isTwin(other, type, parent) && store.numberOf(other, KEY) >= least) {
                return other;
            }
        }
        return NONE;
    }

    // ---- second parents that have to be there

    private void needRoot(int type, int key) {
        int target = schema.targetOf(type);
        if (target == NONE || store.rootOf(target, key) != NONE) {
            return;
        }
        if (schema.comingOf(type) == MUST) {
            needs.refuse();
        } else {
            needs.add(target, key);
        }
    }

    private int statusOfNeeds(int newOnes) {
        if (needs.isRefused()) {
            return NO_TARGET;
        }
        return store.size() + newOnes + needs.size() > MOST_SEGMENTS ? FULL : OK;
    }

    private void makeNeeded() {
        for (int i = 0; i < needs.size(); i++) {
            addSegment(needs.typeOf(i), NONE, needs.keyOf(i), NONE);
        }
    }

    // ---- replacing

    private int replaceHeld(View view) {
        if (view.heldCount() == 0) {
            return NOT_HELD;
        }
        if (wouldChangeKey(view)) {
            return KEY_CHANGED;
        }
        gatherNeedsOfHeld(view);
        int status = statusOfNeeds(0);
        if (status == OK) {
            makeNeeded();
            fillHeld(view);
        }
        return status;
    }

    private boolean wouldChangeKey(View view) {
        for (int i = 0; i < view.heldCount(); i++) {
            int segment = view.heldAt(i);
            boolean isKeyed = schema.keysOf(store.typeOf(segment)) != UNKEYED;
            if (isKeyed && !view.isKept(i) && store.numberOf(segment, KEY) != slotNumber(i, KEY)) {
                return true;
            }
        }
        return false;
    }

    private void gatherNeedsOfHeld(View view) {
        needs.start();
        for (int i = 0; i < view.heldCount(); i++) {
            int segment = view.heldAt(i);
            int key = slotNumber(i, TARGET_KEY);
            if (!view.isKept(i) && store.numberOf(segment, TARGET_KEY) != key) {
                needRoot(store.typeOf(segment), key);
            }
        }
    }

    private void fillHeld(View view) {
        for (int i = 0; i < view.heldCount(); i++) {
            if (!view.isKept(i)) {
                fillSegment(view.heldAt(i), i);
            }
        }
    }

    // ---- deleting

    private int deleteFrom(int got) {
        store.spareAll();
        store.doom(got);
        for (int segment = 0; segment < MOST_SEGMENTS; segment++) {
            if (store.isTied(segment, got) && schema.goingOf(store.typeOf(segment)) == ALL) {
                store.doom(segment);
            }
        }
        if (isBound(got)) {
            return TIED;
        }
        for (int view = 0; view < views.length; view++) {
            leaveDoomed(views[view]);
        }
        store.removeDoomed();
        return OK;
    }

    private boolean isBound(int root) {
        for (int segment = 0; segment < MOST_SEGMENTS; segment++) {
            boolean isBound = store.isTied(segment, root) && schema.goingOf(store.typeOf(segment)) == BOUND;
            if (isBound && !store.isDoomed(segment)) {
                return true;
            }
        }
        return false;
    }

    private void leaveDoomed(View view) {
        if (view == null) {
            return;
        }
        if (store.isDoomed(view.mark())) {
            view.standAheadOf(store.sparedBehind(view.mark()));
        }
        if (store.isDoomed(view.parentSegment())) {
            view.setParent(NONE);
        }
        for (int i = 0; i < view.heldCount(); i++) {
            if (store.isDoomed(view.heldAt(i))) {
                view.release();
            }
        }
    }

    // ---- the row anew

    private int comparedAhead(int database, int segment) {
        int ahead = 0;
        for (int other = 0; other < MOST_SEGMENTS; other++) {
            if (store.databaseOf(other) == database && store.isAhead(other, segment)) {
                ahead++;
            }
        }
        return ahead;
    }

    /** The types, by their numbers. */
    private static final class Schema {
        private int defined = 0;
        private final int[] databases = new int[MOST_TYPES];
        private final int[] parents = new int[MOST_TYPES];
        private final int[] levels = new int[MOST_TYPES];
        private final int[] keyKinds = new int[MOST_TYPES];
        private final int[] rules = new int[MOST_TYPES];
        private final int[] targets = new int[MOST_TYPES];
        private final int[] comings = new int[MOST_TYPES];
        private final int[] goings = new int[MOST_TYPES];

        int size() {
            return defined;
        }

        boolean isType(int type) {
            return type >= 0 && type < defined;
        }

        int define(int database, int parent, int keyKind, int rule) {
            int type = defined;
            if (type >= MOST_TYPES) {
                return NONE;
            }
            levels[type] = levelBelow(parent);
            databases[type] = database;
            parents[type] = parent;
            keyKinds[type] = keyKind;
            rules[type] = rule;
            targets[type] = NONE;
            defined++;
            return type;
        }

        void bind(int type, int root, int coming, int going) {
            if (isType(type)) {
                targets[type] = root;
                comings[type] = coming;
                goings[type] = going;
            }
        }

        int databaseOf(int type) {
            return isType(type) ? databases[type] : NONE;
        }

        int parentOf(int type) {
            return isType(type) ? parents[type] : NONE;
        }

        int levelOf(int type) {
            return isType(type) ? levels[type] : 0;
        }

        int keysOf(int type) {
            return isType(type) ? keyKinds[type] : NONE;
        }

        int ruleOf(int type) {
            return isType(type) ? rules[type] : NONE;
        }

        int targetOf(int type) {
            return isType(type) ? targets[type] : NONE;
        }

        int comingOf(int type) {
            return isType(type) ? comings[type] : NONE;
        }

        int goingOf(int type) {
            return isType(type) ? goings[type] : NONE;
        }

        int levelBelow(int parent) {
            return levelOf(parent) + 1;
        }

        boolean isRootType(int type) {
            return isType(type) && parents[type] == NONE;
        }

        boolean hasRootType(int database) {
            for (int type = 0; type < defined; type++) {
                if (isRootType(type) && databaseOf(type) == database) {
                    return true;
                }
            }
            return false;
        }

        boolean isBelow(int type, int upper) {
            int step = parentOf(type);
            for (int level = 0; level < MOST_LEVELS && step != NONE; level++) {
                if (step == upper) {
                    return true;
                }
                step = parentOf(step);
            }
            return false;
        }
    }

    /** The segments, by numbers that are used again, and the rows of the databases. */
    private static final class Store {
        private final Schema schema;
        private final int[] types = new int[MOST_SEGMENTS];
        private final int[] parents = new int[MOST_SEGMENTS];
        // twins lie by rising ranks; ranks may have gaps
        private final int[] ranks = new int[MOST_SEGMENTS];
        private final int[] numbers = new int[MOST_SEGMENTS * FIELDS];
        private final int[] rows = new int[DATABASES * MOST_SEGMENTS];
        private final int[] counts = new int[DATABASES];
        private final int[] places = new int[MOST_SEGMENTS];
        private final boolean[] doomed = new boolean[MOST_SEGMENTS];
        private int total = 0;

        Store(Schema schema) {
            this.schema = schema;
            for (int segment = 0; segment < MOST_SEGMENTS; segment++) {
                types[segment] = NONE;
                parents[segment] = NONE;
                places[segment] = NONE;
            }
        }

        private static boolean isNumber(int segment) {
            return segment >= 0 && segment < MOST_SEGMENTS;
        }

        int size() {
            return total;
        }

        int countOf(int database) {
            return database >= 0 && database < DATABASES ? counts[database] : 0;
        }

        int segmentAt(int database, int place) {
            boolean isThere = database >= 0 && database < DATABASES && place >= 0 && place < MOST_SEGMENTS;
            return isThere && place < counts[database] ? rows[database * MOST_SEGMENTS + place] : NONE;
        }

        int typeOf(int segment) {
            return segment >= 0 && segment < MOST_SEGMENTS ? types[segment] : NONE;
        }

        int databaseOf(int segment) {
            return schema.databaseOf(typeOf(segment));
        }

        int parentOf(int segment) {
            return segment >= 0 && segment < MOST_SEGMENTS ? parents[segment] : NONE;
        }

        int numberOf(int segment, int field) {
            boolean isThere = segment >= 0 && segment < MOST_SEGMENTS && field >= 0 && field < FIELDS;
            return isThere ? numbers[segment * FIELDS + field] : NONE;
        }

        void setNumber(int segment, int field, int number) {
            if (isNumber(segment) && field >= 0 && field < FIELDS) {
                numbers[segment * FIELDS + field] = number;
            }
        }

        int signOf(int segment) {
            return NUMBERS * typeOf(segment) + numberOf(segment, KEY);
        }

        int placeOf(int segment) {
            return segment >= 0 && segment < MOST_SEGMENTS ? places[segment] : NONE;
        }

        boolean isBelow(int segment, int upper) {
            int step = parentOf(segment);
            for (int level = 0; level < MOST_LEVELS && step != NONE; level++) {
                if (step == upper) {
                    return true;
                }
                step = parentOf(step);
            }
            return false;
        }

        /** The one of a type among a segment, its parent, the parent of that, and so on. */
        int upward(int segment, int type) {
            int step = segment;
            for (int level = 0; level < MOST_LEVELS && step != NONE; level++) {
                if (typeOf(step) == type) {
                    return step;
                }
                step = parentOf(step);
            }
            return NONE;
        }

        boolean isTwin(int segment, int type, int parent) {
            boolean isThere = segment >= 0 && segment < MOST_SEGMENTS;
            return isThere && types[segment] == type && parents[segment] == parent;
        }

        boolean hasTwin(int type, int parent, int key) {
            for (int segment = 0; segment < MOST_SEGMENTS; segment++) {
                if (isTwin(segment, type, parent) && numberOf(segment, KEY) == key) {
                    return true;
                }
            }
            return false;
        }

        int rootOf(int rootType, int key) {
            for (int segment = 0; segment < MOST_SEGMENTS && rootType != NONE; segment++) {
                if (types[segment] == rootType && numberOf(segment, KEY) == key) {
                    return segment;
                }
            }
            return NONE;
        }

        /** Whether a root is the second parent of a segment. */
        boolean isTied(int segment, int root) {
            int target = schema.targetOf(typeOf(segment));
            return target != NONE && target == typeOf(root)
                && numberOf(segment, TARGET_KEY) == numberOf(root, KEY);
        }

        /** Adds a segment ahead of a twin, or behind all twins if that is NONE; its fields are 0. */
        int add(int type, int parent, int twin) {
            int place = twin == NONE ? endOfTwins(type, parent) : placeOf(twin);
            int segment = unused();
            if (segment == NONE || place == NONE) {
                return NONE;
            }
            ranks[segment] = makeRank(type, parent, twin);
            types[segment] = type;
            parents[segment] = parent;
            for (int field = 0; field < FIELDS; field++) {
                setNumber(segment, field, 0);
            }
            putInRow(schema.databaseOf(type), place, segment);
            return segment;
        }

        private int unused() {
            for (int segment = 0; segment < MOST_SEGMENTS; segment++) {
                if (types[segment] == NONE) {
                    return segment;
                }
            }
            return NONE;
        }

        private int endOfTwins(int type, int parent) {
            int database = schema.databaseOf(type);
            if (parent == NONE) {
                return countOf(database);
            }
            int place = placeOf(parent) + 1;
            for (int step = 0; step < MOST_SEGMENTS && liesUpTo(segmentAt(database, place), parent, type); step++) {
                place++;
            }
            return place;
        }

        /** Whether a segment is a child of a parent, or below one, of a type up to a child type. */
        private boolean liesUpTo(int segment, int parent, int type) {
            int step = segment;
            for (int level = 0; level < MOST_LEVELS && step != NONE; level++) {
                if (parentOf(step) == parent) {
                    return typeOf(step) <= type;
                }
                step = parentOf(step);
            }
            return false;
        }

        private int makeRank(int type, int parent, int twin) {
            int rank = 0;
            for (int segment = 0; segment < MOST_SEGMENTS; segment++) {
                if (isTwin(segment, type, parent)) {
                    rank = Math.max(rank, ranks[segment] + 1);
                }
            }
            if (!isNumber(twin)) {
                return rank;
            }
            rank = ranks[twin];
            for (int segment = 0; segment < MOST_SEGMENTS; segment++) {
                if (isTwin(segment, type, parent) && ranks[segment] >= rank) {
                    ranks[segment]++;
                }
            }
            return rank;
        }

        private void putInRow(int database, int place, int segment) {
            int count = countOf(database);
            if (!isIn(database, DATABASES) || count >= MOST_SEGMENTS || place < 0 || place > count) {
                return;
            }
            int start = database * MOST_SEGMENTS;
            for (int i = count; i > place; i--) {
                rows[start + i] = rows[start + i - 1];
            }
            rows[start + place] = segment;
            counts[database]++;
            total++;
            numberPlaces(database);
        }

        private void numberPlaces(int database) {
            for (int place = 0; place < countOf(database); place++) {
                int segment = segmentAt(database, place);
                if (isNumber(segment)) {
                    places[segment] = place;
                }
            }
        }

        /** Whether one segment lies ahead of another of its database, by what they are below. */
        boolean isAhead(int one, int other) {
            int level = schema.levelOf(typeOf(one));
            int otherLevel = schema.levelOf(typeOf(other));
            int upper = climb(one, level - otherLevel);
            int otherUpper = climb(other, otherLevel - level);
            if (upper == otherUpper) {
                return level < otherLevel;
            }
            for (int i = 0; i < MOST_LEVELS && parentOf(upper) != parentOf(otherUpper); i++) {
                upper = parentOf(upper);
                otherUpper = parentOf(otherUpper);
            }
            if (typeOf(upper) != typeOf(otherUpper)) {
                return typeOf(upper) < typeOf(otherUpper);
            }
            return isNumber(upper) && isNumber(otherUpper) && ranks[upper] < ranks[otherUpper];
        }

        private int climb(int segment, int levels) {
            int step = segment;
            for (int level = 0; level < levels; level++) {
                step = parentOf(step);
            }
            return step;
        }

        void spareAll() {
            for (int segment = 0; segment < MOST_SEGMENTS; segment++) {
                doomed[segment] = false;
            }
        }

        /** Marks a segment and all below it as those that are deleted. */
        void doom(int upper) {
            for (int segment = 0; segment < MOST_SEGMENTS; segment++) {
                if (types[segment] != NONE && (segment == upper || isBelow(segment, upper))) {
                    doomed[segment] = true;
                }
            }
        }

        boolean isDoomed(int segment) {
            return isNumber(segment) && doomed[segment];
        }

        int sparedBehind(int segment) {
            int database = databaseOf(segment);
            for (int place = placeOf(segment) + 1; place < countOf(database); place++) {
                if (!isDoomed(segmentAt(database, place))) {
                    return segmentAt(database, place);
                }
            }
            return NONE;
        }

        void removeDoomed() {
            for (int database = 0; database < DATABASES; database++) {
                int spared = 0;
                for (int place = 0; place < countOf(database); place++) {
                    int segment = segmentAt(database, place);
                    if (!isDoomed(segment)) {
                        rows[database * MOST_SEGMENTS + spared] = segment;
                        spared++;
                    }
                }
                total -= counts[database] - spared;
                counts[database] = spared;
                numberPlaces(database);
            }
            for (int segment = 0; segment < MOST_SEGMENTS; segment++) {
                if (doomed[segment]) {
                    types[segment] = NONE;
                    parents[segment] = NONE;
                    places[segment] = NONE;
                }
            }
            spareAll();
        }
    }

    /** The list of arguments; the conditions of all lie in the same rows, three places for each argument. */
    private static final class Arguments {
        private int listed = 0;
        private final int[] types = new int[MOST_ARGUMENTS];
        private final int[] codes = new int[MOST_ARGUMENTS];
        private final int[] conditions = new int[MOST_ARGUMENTS];
        private final boolean[] ors = new boolean[MOST_ARGUMENTS * MOST_CONDITIONS];
        private final int[] fields = new int[MOST_ARGUMENTS * MOST_CONDITIONS];
        private final int[] comparisons = new int[MOST_ARGUMENTS * MOST_CONDITIONS];
        private final int[] numbers = new int[MOST_ARGUMENTS * MOST_CONDITIONS];

        private boolean isListed(int argument) {
            return argument >= 0 && argument < listed && argument < MOST_ARGUMENTS;
        }

        int size() {
            return listed;
        }

        int list(int type, int codeSet) {
            if (listed < MOST_ARGUMENTS) {
                types[listed] = type;
                codes[listed] = codeSet;
                conditions[listed] = 0;
                listed++;
            }
            return listed;
        }

        int addCondition(boolean isOr, int field, int comparison, int number) {
            int argument = listed - 1;
            if (!isListed(argument) || conditions[argument] >= MOST_CONDITIONS) {
                return 0;
            }
            int index = argument * MOST_CONDITIONS + conditions[argument];
            ors[index] = isOr;
            fields[index] = field;
            comparisons[index] = comparison;
            numbers[index] = number;
            conditions[argument]++;
            return conditions[argument];
        }

        int drop() {
            int before = listed;
            listed = 0;
            return before;
        }

        int typeOf(int argument) {
            return isListed(argument) ? types[argument] : NONE;
        }

        boolean hasCode(int argument, int code) {
            return isListed(argument) && (codes[argument] & code) != 0;
        }

        int conditionsOf(int argument) {
            return argument >= 0 && argument < listed && argument < MOST_ARGUMENTS ? conditions[argument] : 0;
        }

        int firstNew() {
            for (int i = 0; i < listed; i++) {
                if (hasCode(i, PATH)) {
                    return i;
                }
            }
            return listed - 1;
        }

        boolean isFulfilled(int argument, Store store, int segment) {
            boolean isPartMet = true;
            int start = argument * MOST_CONDITIONS;
            for (int i = 0; i < conditionsOf(argument) && i < MOST_CONDITIONS; i++) {
                if (i > 0 && ors[start + i]) {
                    if (isPartMet) {
                        return true;
                    }
                    isPartMet = true;
                }
                int number = store.numberOf(segment, fields[start + i]);
                isPartMet = isPartMet && isMet(comparisons[start + i], number, numbers[start + i]);
            }
            return isPartMet;
        }

        private static boolean isMet(int comparison, int one, int other) {
            switch (comparison) {
                case SAME:
                    return one == other;
                case UNLIKE:
                    return one != other;
                case LESS:
                    return one < other;
                case AT_MOST:
                    return one <= other;
                case GREATER:
                    return one > other;
                default:
                    return one >= other;
            }
        }
    }

    /** The roots that a call makes first, since what it inserts or replaces is tied to them. */
    private static final class Needs {
        private int needed = 0;
        private boolean isRefused = false;
        private final int[] types = new int[MOST_ARGUMENTS];
        private final int[] rootKeys = new int[MOST_ARGUMENTS];

        void start() {
            needed = 0;
            isRefused = false;
        }

        void refuse() {
            isRefused = true;
        }

        boolean isRefused() {
            return isRefused;
        }

        int size() {
            return needed;
        }

        void add(int type, int key) {
            for (int i = 0; i < needed && i < MOST_ARGUMENTS; i++) {
                if (types[i] == type && rootKeys[i] == key) {
                    return;
                }
            }
            if (needed < MOST_ARGUMENTS) {
                types[needed] = type;
                rootKeys[needed] = key;
                needed++;
            }
        }

        int typeOf(int index) {
            return index >= 0 && index < needed ? types[index] : NONE;
        }

        int keyOf(int index) {
            return index >= 0 && index < needed ? rootKeys[index] : NONE;
        }
    }

    /** A view: its position, its parent, and what it holds, in the order of the slots. */
    private static final class View {
        private int database = 0;
        private int set = 0;
        // the segment at which, or ahead of which, the view is; NONE: it is ahead of all or behind all
        private int mark = NONE;
        private boolean isAt = false;
        private boolean isBehindAll = false;
        private int parent = NONE;
        private int holding = 0;
        private final int[] held = new int[SLOTS];
        private final boolean[] kept = new boolean[SLOTS];

        void reopen(int openedDatabase, int openedSet) {
            database = openedDatabase;
            set = openedSet;
            parent = NONE;
            holding = 0;
            standAheadOfAll();
        }

        int database() {
            return database;
        }

        boolean sees(Schema schema, int type) {
            if (schema.databaseOf(type) != database) {
                return false;
            }
            int step = type;
            for (int level = 0; level < MOST_LEVELS && step != NONE; level++) {
                if ((set >> step & 1) == 0) {
                    return false;
                }
                step = schema.parentOf(step);
            }
            return true;
        }

        int mark() {
            return mark;
        }

        int segmentAt() {
            return isAt ? mark : NONE;
        }

        boolean isBehindAll() {
            return isBehindAll;
        }

        void standAt(int segment) {
            mark = segment;
            isAt = true;
            isBehindAll = false;
        }

        /** Ahead of a segment; behind all, if that is NONE. */
        void standAheadOf(int segment) {
            mark = segment;
            isAt = false;
            isBehindAll = segment == NONE;
        }

        void standAheadOfAll() {
            mark = NONE;
            isAt = false;
            isBehindAll = false;
        }

        int parentSegment() {
            return parent;
        }

        void setParent(int segment) {
            parent = segment;
        }

        int heldCount() {
            return holding;
        }

        int heldAt(int slot) {
            return slot >= 0 && slot < holding && slot < SLOTS ? held[slot] : NONE;
        }

        boolean isKept(int slot) {
            return slot >= 0 && slot < holding && slot < SLOTS && kept[slot];
        }

        int lastHeld() {
            return heldAt(holding - 1);
        }

        void hold(int segment, boolean isKeptOne) {
            if (holding < SLOTS) {
                held[holding] = segment;
                kept[holding] = isKeptOne;
                holding++;
            }
        }

        void release() {
            holding = 0;
        }
    }
}

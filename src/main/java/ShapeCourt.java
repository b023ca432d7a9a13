/** The objects of a language with prototypes, their shared shapes, and the places that read them. */
public final class ShapeCourt {
    private static final int NONE = -1;
    private static final int VOID = -1000;
    private static final int LARGEST_NUMBER = 999;
    private static final int FIRST_OBJECT = 1000;
    private static final int MOST_OBJECTS = 24;
    private static final int NAMES = 12;
    private static final int NUMERIC_NAMES = 4;
    private static final int MOST_SHAPES = 80;
    private static final int MOST_SHAPED_FIELDS = 8;
    private static final int PLACES = 6;
    private static final int MOST_ENTRIES = 3;
    private static final int MOST_STEPS = 6;
    private static final int LARGEST_ADDEND = 99;

    // The traits of a FIELD, as bits; 0 stands for no FIELD.
    private static final int PRESENT = 1;
    private static final int PAIR = 2;
    private static final int FIXED = 4;
    private static final int HIDDEN = 8;

    private static final int OBJECT_WORDS = 3;
    private static final int LOOSE_FIELD_WORDS = 3;
    private static final int SHAPE_WORDS = 4;
    private static final int ENTRY_WORDS = 3;

    private static final int HIT_COST = 1;
    private static final int MISS_COST = 4;
    private static final int GETTER_COST = 2;

    private static final int DIGEST_START = 7615;
    private static final int DIGEST_NAME = 4;

    private final Thing[] things = new Thing[MOST_OBJECTS];
    private int objects;
    private final ShapeBook book = new ShapeBook();
    private final Place[] places = new Place[PLACES];

    // Rows that are used again, as no call may fill the room with new ones.
    private final int[] addends = new int[MOST_STEPS];
    private final int[] list = new int[NAMES];

    public ShapeCourt() {
        for (int k = 0; k < PLACES; k++) {
            places[k] = new Place();
        }
    }

    // ---- objects and fields

    public int make(int parent) throws IndexOutOfBoundsException, IllegalStateException {
        Thing above = parentAt(parent);
        if (objects >= MOST_OBJECTS) {
            throw new IllegalStateException("there are 24 OBJECTS");
        }
        Thing thing = new Thing(objects);
        things[objects] = thing;
        objects++;
        hangBeneath(thing, above);
        thing.shape = book.rootOf(above);
        return thing.number;
    }

    public int read(int object, int name) throws IndexOutOfBoundsException {
        Thing thing = thingAt(object);
        needName(name);
        return valueOf(thing, name);
    }

    public boolean write(int object, int name, int value) throws IndexOutOfBoundsException, IllegalArgumentException {
        Thing thing = thingAt(object);
        needName(name);
        needValue(value);
        int at = name;
        int now = value;
        for (int setters = 0; setters <= MOST_STEPS; setters++) {
            Thing holder = holderOf(thing, at);
            if (holder == null || !holder.is(at, PAIR)) {
                return writePlain(thing, holder, at, now);
            }
            now = raised(now, holder.addends[at]);
            at = holder.setters[at];
            if (at == NONE) {
                return false;
            }
        }
        return false;
    }

    public boolean define(int object, int name, int value, boolean isFixed, boolean isHidden)
            throws IndexOutOfBoundsException, IllegalArgumentException {
        Thing thing = thingAt(object);
        needName(name);
        needValue(value);
        if (!mayDefine(thing, name)) {
            return false;
        }
        putTraits(thing, name, PRESENT | (isFixed ? FIXED : 0) | (isHidden ? HIDDEN : 0));
        thing.fill(name, value, NONE, NONE, 0);
        return true;
    }

    public boolean pair(int object, int name, int getter, int setter, int n, boolean isHidden)
            throws IndexOutOfBoundsException, IllegalArgumentException {
        Thing thing = thingAt(object);
        needName(name);
        needPair(getter, setter, n);
        if (!mayDefine(thing, name)) {
            return false;
        }
        putTraits(thing, name, PRESENT | PAIR | (isHidden ? HIDDEN : 0));
        thing.fill(name, VOID, getter, setter, n);
        return true;
    }

    public boolean remove(int object, int name) throws IndexOutOfBoundsException {
        Thing thing = thingAt(object);
        needName(name);
        if (!thing.has(name) || thing.is(name, FIXED)) {
            return false;
        }
        thing.takeAway(name);
        thing.shape = null;
        dropEntries(thing);
        return true;
    }

    public boolean adopt(int object, int parent) throws IndexOutOfBoundsException {
        Thing thing = thingAt(object);
        Thing above = parentAt(parent);
        if (thing.parent == above) {
            return true;
        }
        if (thing.isShut || isInLine(above, thing)) {
            return false;
        }
        dropEntries(thing);
        hangBeneath(thing, above);
        if (thing.shape != null) {
            thing.shape = thing.size == 0 ? book.rootOf(above) : null;
        }
        return true;
    }

    public int shut(int object, boolean isFrozen) throws IndexOutOfBoundsException {
        Thing thing = thingAt(object);
        thing.isShut = true;
        return isFrozen ? freeze(thing) : 0;
    }

    public boolean settle(int object) throws IndexOutOfBoundsException {
        Thing thing = thingAt(object);
        if (canSettle(thing)) {
            thing.shape = settledShape(thing);
        }
        return thing.shape != null;
    }

    // ---- places

    public int readAt(int place, int object, int name) throws IndexOutOfBoundsException {
        Place site = placeAt(place);
        Thing thing = thingAt(object);
        needName(name);
        boolean isHit = site.knows(thing.shape, name);
        site.count(isHit, costAt(site, thing, name));
        if (!isHit && thing.shape != null) {
            site.addEntry(thing.shape, name, wayUp(thing, name));
        }
        return valueOf(thing, name);
    }

    public int ofPlace(int place, int what) throws IndexOutOfBoundsException, IllegalArgumentException {
        Place site = placeAt(place);
        needWhat(what, 5);
        return site.fact(what);
    }

    public int entry(int place, int k, int what) throws IndexOutOfBoundsException, IllegalArgumentException {
        Place site = placeAt(place);
        if (k < 0 || k >= site.size) {
            throw new IndexOutOfBoundsException("no such ENTRY");
        }
        needWhat(what, 2);
        return site.entryFact(k, what);
    }

    // ---- what one asks

    public int ofObject(int object, int what) throws IndexOutOfBoundsException, IllegalArgumentException {
        Thing thing = thingAt(object);
        needWhat(what, 7);
        return objectFact(thing, what);
    }

    public int ofField(int object, int name, int what) throws IndexOutOfBoundsException, IllegalArgumentException {
        Thing thing = thingAt(object);
        needName(name);
        needWhat(what, 6);
        return thing.fieldFact(name, what);
    }

    public int listed(int object, int k) throws IndexOutOfBoundsException {
        Thing thing = thingAt(object);
        int size = fillList(thing);
        if (k < 0 || k >= size) {
            throw new IndexOutOfBoundsException("no such place in the LIST");
        }
        return list[k];
    }

    public int ofShape(int shape, int what) throws IndexOutOfBoundsException, IllegalArgumentException {
        if (shape < 0 || shape >= book.size) {
            throw new IndexOutOfBoundsException("no such SHAPE");
        }
        needWhat(what, 6);
        return shapeFact(book.shapes[shape], what);
    }

    public int many(int what) throws IllegalArgumentException {
        needWhat(what, 10);
        return total(what);
    }

    public double meanCost() {
        int reads = placesTotal(Place.HITS) + placesTotal(Place.MISSES);
        return reads > 0 ? (double) placesTotal(Place.COST) / reads : 0.0;
    }

    // ---- what would be (nothing is changed)

    public int wouldCost(int place, int object, int name) throws IndexOutOfBoundsException {
        Place site = placeAt(place);
        Thing thing = thingAt(object);
        needName(name);
        return costAt(site, thing, name);
    }

    public int wouldDrop(int object, int name) throws IndexOutOfBoundsException {
        Thing thing = thingAt(object);
        needName(name);
        return droppable(thing);
    }

    public int wouldSave(int object) throws IndexOutOfBoundsException {
        return saving(thingAt(object));
    }

    public int differs(int one, int other) throws IndexOutOfBoundsException {
        Thing first = thingAt(one);
        Thing second = thingAt(other);
        int differing = 0;
        for (int name = 0; name < NAMES; name++) {
            if (valueOf(first, name) != valueOf(second, name)) {
                differing++;
            }
        }
        return differing;
    }

    public long digest() {
        long d = DIGEST_START;
        for (int what = 0; what <= 10; what++) {
            d = mixed(d, total(what));
        }
        for (int k = 0; k < objects; k++) {
            d = withObject(d, things[k]);
        }
        for (int k = 0; k < book.size; k++) {
            for (int what = 0; what <= 6; what++) {
                d = mixed(d, shapeFact(book.shapes[k], what));
            }
        }
        for (int k = 0; k < PLACES; k++) {
            d = withPlace(d, places[k]);
        }
        return d;
    }

    // ---- what is asked for, and whether it is there

    private Thing thingAt(int object) {
        if (object < 0 || object >= objects) {
            throw new IndexOutOfBoundsException("no such OBJECT");
        }
        return things[object];
    }

    private Thing parentAt(int parent) {
        return parent == NONE ? null : thingAt(parent);
    }

    private Place placeAt(int place) {
        if (place < 0 || place >= PLACES) {
            throw new IndexOutOfBoundsException("no such PLACE");
        }
        return places[place];
    }

    private static boolean isName(int name) {
        return name >= 0 && name < NAMES;
    }

    private static void needName(int name) {
        if (!isName(name)) {
            throw new IndexOutOfBoundsException("no such NAME");
        }
    }

    private static void needWhat(int what, int most) {
        if (what < 0 || what > most) {
            throw new IllegalArgumentException("no such what");
        }
    }

    private void needValue(int value) {
        boolean isObject = value >= FIRST_OBJECT && value - FIRST_OBJECT < objects;
        if (!isNumber(value) && value != VOID && !isObject) {
            throw new IllegalArgumentException("no VALUE");
        }
    }

    private static void needPair(int getter, int setter, int n) {
        if (getter != NONE && !isName(getter)) {
            throw new IllegalArgumentException("no GETTER");
        }
        if (setter != NONE && !isName(setter)) {
            throw new IllegalArgumentException("no SETTER");
        }
        if (getter == NONE && setter == NONE) {
            throw new IllegalArgumentException("neither GETTER nor SETTER");
        }
        if (n < -LARGEST_ADDEND || n > LARGEST_ADDEND) {
            throw new IllegalArgumentException("no n");
        }
    }

    // ---- the LINE, reading and writing

    private static boolean isNumber(int value) {
        return value >= -LARGEST_NUMBER && value <= LARGEST_NUMBER;
    }

    private static int raised(int value, int addend) {
        if (!isNumber(value)) {
            return value;
        }
        return Math.max(-LARGEST_NUMBER, Math.min(LARGEST_NUMBER, value + addend));
    }

    private static boolean isInLine(Thing from, Thing sought) {
        for (Thing at = from; at != null; at = at.parent) {
            if (at == sought) {
                return true;
            }
        }
        return false;
    }

    private static int lineLength(Thing thing) {
        int length = 0;
        for (Thing at = thing; at != null; at = at.parent) {
            length++;
        }
        return length;
    }

    private static Thing holderOf(Thing thing, int name) {
        for (Thing at = thing; at != null; at = at.parent) {
            if (at.has(name)) {
                return at;
            }
        }
        return null;
    }

    private static int wayUp(Thing thing, int name) {
        int up = 0;
        for (Thing at = thing; at != null; at = at.parent) {
            if (at.has(name)) {
                return up;
            }
            up++;
        }
        return NONE;
    }

    private static int lookedAt(Thing thing, int name) {
        int up = wayUp(thing, name);
        return up == NONE ? lineLength(thing) : up + 1;
    }

    private static int getterOf(Thing thing, int name) {
        Thing holder = holderOf(thing, name);
        return holder == null ? NONE : holder.getters[name];
    }

    private int valueOf(Thing thing, int name) {
        int at = name;
        int steps = 0;
        Thing holder = holderOf(thing, at);
        while (steps < MOST_STEPS && holder != null && holder.getters[at] != NONE) {
            addends[steps] = holder.addends[at];
            steps++;
            at = holder.getters[at];
            holder = holderOf(thing, at);
        }
        // A PAIR holds VOID: so a GETTER too many, and one that is not there, give VOID here.
        int value = holder == null ? VOID : holder.values[at];
        for (int k = steps - 1; k >= 0; k--) {
            value = raised(value, addends[k]);
        }
        return value;
    }

    private boolean writePlain(Thing thing, Thing holder, int name, int value) {
        if (holder != null && holder.is(name, FIXED)) {
            return false;
        }
        if (holder != thing) {
            if (thing.isShut) {
                return false;
            }
            putTraits(thing, name, PRESENT);
        }
        thing.fill(name, value, NONE, NONE, 0);
        return true;
    }

    // ---- changes, and what they do to SHAPES and ENTRIES

    private static void hangBeneath(Thing thing, Thing above) {
        thing.parent = above;
        if (above != null) {
            above.isWatched = true;
        }
    }

    private static boolean mayDefine(Thing thing, int name) {
        return thing.has(name) ? !thing.is(name, FIXED) : !thing.isShut;
    }

    /** Lets a FIELD come, or be made another one; one that has these traits already stays as it is. */
    private void putTraits(Thing thing, int name, int traits) {
        if (thing.traits[name] == traits) {
            return;
        }
        if (thing.has(name)) {
            thing.shape = null;
        } else {
            thing.append(name);
            thing.shape = book.beneath(thing.shape, name, traits);
        }
        thing.traits[name] = traits;
        dropEntries(thing);
    }

    private int freeze(Thing thing) {
        int fixed = 0;
        for (int name = 0; name < NAMES; name++) {
            if (thing.has(name) && !thing.is(name, PAIR) && !thing.is(name, FIXED)) {
                putTraits(thing, name, thing.traits[name] | FIXED);
                fixed++;
            }
        }
        return fixed;
    }

    private static boolean canSettle(Thing thing) {
        return thing.shape == null && thing.size <= MOST_SHAPED_FIELDS;
    }

    private Shape settledShape(Thing thing) {
        Shape shape = book.rootOf(thing.parent);
        for (int k = 0; k < thing.size; k++) {
            int name = thing.order[k];
            shape = book.beneath(shape, name, thing.traits[name]);
        }
        return shape;
    }

    private void dropEntries(Thing changed) {
        if (!changed.isWatched) {
            return;
        }
        for (int k = 0; k < PLACES; k++) {
            Place site = places[k];
            for (int e = site.size - 1; e >= 0; e--) {
                if (isInLine(site.shapes[e].rootParent, changed)) {
                    site.takeAway(e);
                    site.dropped++;
                }
            }
        }
    }

    private int droppable(Thing changed) {
        if (!changed.isWatched) {
            return 0;
        }
        int drops = 0;
        for (int k = 0; k < PLACES; k++) {
            Place site = places[k];
            for (int e = 0; e < site.size; e++) {
                if (isInLine(site.shapes[e].rootParent, changed)) {
                    drops++;
                }
            }
        }
        return drops;
    }

    // ---- costs and words

    private static int costAt(Place site, Thing thing, int name) {
        int cost = site.knows(thing.shape, name) ? HIT_COST : MISS_COST + lookedAt(thing, name);
        int getter = getterOf(thing, name);
        for (int steps = 0; steps < MOST_STEPS && getter != NONE; steps++) {
            cost += GETTER_COST + lookedAt(thing, getter);
            getter = getterOf(thing, getter);
        }
        return cost;
    }

    private static int looseWords(Thing thing) {
        return OBJECT_WORDS + LOOSE_FIELD_WORDS * thing.size;
    }

    private static int shapedWords(Thing thing) {
        return OBJECT_WORDS + thing.size + thing.pairs();
    }

    private static int wordsOf(Thing thing) {
        return thing.shape == null ? looseWords(thing) : shapedWords(thing);
    }

    private int missingShapes(Thing thing) {
        Shape shape = book.findRoot(thing.parent);
        int missing = shape == null ? 1 : 0;
        for (int k = 0; k < thing.size; k++) {
            int name = thing.order[k];
            shape = shape == null ? null : book.findBeneath(shape, name, thing.traits[name]);
            if (shape == null) {
                missing++;
            }
        }
        return missing;
    }

    private int saving(Thing thing) {
        if (!canSettle(thing)) {
            return 0;
        }
        int missing = missingShapes(thing);
        int free = MOST_SHAPES - book.size;
        if (missing > free) {
            // It stays LOOSE, and the SHAPES that came by then stay.
            return -SHAPE_WORDS * free;
        }
        return looseWords(thing) - shapedWords(thing) - SHAPE_WORDS * missing;
    }

    // ---- what is told of one, and of all

    private int objectFact(Thing thing, int what) {
        switch (what) {
            case 0: return numberOf(thing.parent);
            case 1: return thing.size;
            case 2: return thing.shape == null ? NONE : thing.shape.number;
            case 3: return thing.isShut ? 1 : 0;
            case 4: return thing.isWatched ? 1 : 0;
            case 5: return childrenOf(thing);
            case 6: return lineLength(thing);
            default: return wordsOf(thing);
        }
    }

    private static int numberOf(Thing thing) {
        return thing == null ? NONE : thing.number;
    }

    private int childrenOf(Thing thing) {
        int children = 0;
        for (int k = 0; k < objects; k++) {
            if (things[k].parent == thing) {
                children++;
            }
        }
        return children;
    }

    private int shapeFact(Shape shape, int what) {
        switch (what) {
            case 0: return shape.above == null ? NONE : shape.above.number;
            case 1: return numberOf(shape.rootParent);
            case 2: return shape.size;
            case 3: return shape.name;
            case 4: return book.countBeneath(shape);
            case 5: return thingsWith(shape);
            default: return entriesOf(shape);
        }
    }

    /** How many OBJECTS have this SHAPE; of null: how many are LOOSE. */
    private int thingsWith(Shape shape) {
        int found = 0;
        for (int k = 0; k < objects; k++) {
            if (things[k].shape == shape) {
                found++;
            }
        }
        return found;
    }

    private int entriesOf(Shape shape) {
        int found = 0;
        for (int k = 0; k < PLACES; k++) {
            found += places[k].countOf(shape);
        }
        return found;
    }

    private int total(int what) {
        switch (what) {
            case 0: return objects;
            case 1: return allFields();
            case 2: return book.size;
            case 3: return thingsWith(null);
            case 4: return placesTotal(Place.ENTRIES);
            case 5: return placesTotal(Place.HITS);
            case 6: return placesTotal(Place.MISSES);
            case 7: return placesTotal(Place.COST);
            case 8: return allWords();
            case 9: return placesTotal(Place.DROPPED);
            default: return unusedShapes();
        }
    }

    private int allFields() {
        int fields = 0;
        for (int k = 0; k < objects; k++) {
            fields += things[k].size;
        }
        return fields;
    }

    private int placesTotal(int what) {
        int sum = 0;
        for (int k = 0; k < PLACES; k++) {
            sum += places[k].fact(what);
        }
        return sum;
    }

    private int allWords() {
        int words = SHAPE_WORDS * book.size + ENTRY_WORDS * placesTotal(Place.ENTRIES);
        for (int k = 0; k < objects; k++) {
            words += wordsOf(things[k]);
        }
        return words;
    }

    private int unusedShapes() {
        int unused = 0;
        for (int k = 0; k < book.size; k++) {
            if (thingsWith(book.shapes[k]) == 0) {
                unused++;
            }
        }
        return unused;
    }

    // ---- the LIST

    /** Puts the LIST of this one into the row list; returns how long it is. */
    private int fillList(Thing thing) {
        int size = 0;
        int ahead = 0;
        for (Thing at = thing; at != null; at = at.parent) {
            for (int name = 0; name < NUMERIC_NAMES; name++) {
                if (at.has(name)) {
                    size = listUnlessAhead(at, name, ahead, size);
                }
            }
            for (int k = 0; k < at.size; k++) {
                if (at.order[k] >= NUMERIC_NAMES) {
                    size = listUnlessAhead(at, at.order[k], ahead, size);
                }
            }
            ahead |= at.nameBits();
        }
        return size;
    }

    private int listUnlessAhead(Thing at, int name, int ahead, int size) {
        boolean isAhead = (ahead & (1 << name)) != 0;
        if (isAhead || at.is(name, HIDDEN) || size >= NAMES) {
            return size;
        }
        list[size] = name;
        return size + 1;
    }

    // ---- the checksum

    private static long mixed(long d, long v) {
        return d * 31 + v;
    }

    private long withObject(long start, Thing thing) {
        long d = start;
        for (int what = 0; what <= 7; what++) {
            d = mixed(d, objectFact(thing, what));
        }
        for (int name = 0; name < NAMES; name++) {
            d = mixed(d, valueOf(thing, name));
            for (int what = 0; what <= 6; what++) {
                d = mixed(d, thing.fieldFact(name, what));
            }
        }
        int listSize = fillList(thing);
        for (int k = 0; k < listSize && k < NAMES; k++) {
            d = mixed(d, list[k]);
        }
        d = mixed(d, saving(thing));
        return mixed(d, droppable(thing));
    }

    private long withPlace(long start, Place site) {
        long d = start;
        for (int what = 0; what <= 5; what++) {
            d = mixed(d, site.fact(what));
        }
        for (int k = 0; k < site.size; k++) {
            for (int what = 0; what <= 2; what++) {
                d = mixed(d, site.entryFact(k, what));
            }
        }
        for (int k = 0; k < objects; k++) {
            d = mixed(d, costAt(site, things[k], DIGEST_NAME));
        }
        return d;
    }

    /** An OBJECT: its FIELDS stand in rows, by their NAME. */
    private static final class Thing {
        final int number;
        Thing parent;
        Shape shape;
        boolean isShut;
        boolean isWatched;
        int size;
        final int[] order = new int[NAMES];
        final int[] traits = new int[NAMES];
        final int[] values = new int[NAMES];
        final int[] getters = new int[NAMES];
        final int[] setters = new int[NAMES];
        final int[] addends = new int[NAMES];

        Thing(int number) {
            this.number = number;
            for (int name = 0; name < NAMES; name++) {
                fill(name, VOID, NONE, NONE, 0);
            }
        }

        boolean has(int name) {
            return traits[name] != 0;
        }

        boolean is(int name, int trait) {
            return (traits[name] & trait) != 0;
        }

        void fill(int name, int value, int getter, int setter, int addend) {
            values[name] = value;
            getters[name] = getter;
            setters[name] = setter;
            addends[name] = addend;
        }

        void append(int name) {
            if (size < NAMES) {
                order[size] = name;
                size++;
            }
        }

        void takeAway(int name) {
            int kept = 0;
            for (int k = 0; k < size; k++) {
                if (order[k] != name) {
                    order[kept] = order[k];
                    kept++;
                }
            }
            size = kept;
            traits[name] = 0;
            fill(name, VOID, NONE, NONE, 0);
        }

        int pairs() {
            int pairs = 0;
            for (int name = 0; name < NAMES; name++) {
                if (is(name, PAIR)) {
                    pairs++;
                }
            }
            return pairs;
        }

        int nameBits() {
            int bits = 0;
            for (int k = 0; k < size; k++) {
                bits |= 1 << order[k];
            }
            return bits;
        }

        int fieldFact(int name, int what) {
            switch (what) {
                case 0: return kind(name);
                case 1: return values[name];
                case 2: return is(name, FIXED) ? 1 : 0;
                case 3: return is(name, HIDDEN) ? 1 : 0;
                case 4: return getters[name];
                case 5: return setters[name];
                default: return placeInOrder(name);
            }
        }

        private int kind(int name) {
            if (!has(name)) {
                return 0;
            }
            return is(name, PAIR) ? 2 : 1;
        }

        private int placeInOrder(int name) {
            for (int k = 0; k < size; k++) {
                if (order[k] == name) {
                    return k;
                }
            }
            return NONE;
        }
    }

    /** A SHAPE; one without any above it is a ROOT. */
    private static final class Shape {
        final int number;
        final Shape above;
        final Thing rootParent;
        final int name;
        final int traits;
        final int size;

        Shape(int number, Shape above, Thing rootParent, int name, int traits) {
            this.number = number;
            this.above = above;
            this.rootParent = rootParent;
            this.name = name;
            this.traits = traits;
            this.size = above == null ? 0 : above.size + 1;
        }
    }

    /** All SHAPES, as they came; where one can't be had, it answers null. */
    private static final class ShapeBook {
        final Shape[] shapes = new Shape[MOST_SHAPES];
        int size;

        Shape findRoot(Thing parent) {
            for (int k = 0; k < size; k++) {
                Shape shape = shapes[k];
                if (shape.above == null && shape.rootParent == parent) {
                    return shape;
                }
            }
            return null;
        }

        Shape findBeneath(Shape above, int name, int traits) {
            for (int k = above.number + 1; k < size; k++) {
                Shape shape = shapes[k];
                if (shape.above == above && shape.name == name && shape.traits == traits) {
                    return shape;
                }
            }
            return null;
        }

        Shape rootOf(Thing parent) {
            Shape found = findRoot(parent);
            return found != null ? found : newShape(null, parent, NONE, 0);
        }

        Shape beneath(Shape above, int name, int traits) {
            if (above == null || above.size >= MOST_SHAPED_FIELDS) {
                return null;
            }
            Shape found = findBeneath(above, name, traits);
            return found != null ? found : newShape(above, above.rootParent, name, traits);
        }

        int countBeneath(Shape above) {
            int found = 0;
            for (int k = above.number + 1; k < size; k++) {
                if (shapes[k].above == above) {
                    found++;
                }
            }
            return found;
        }

        private Shape newShape(Shape above, Thing rootParent, int name, int traits) {
            if (size >= MOST_SHAPES) {
                return null;
            }
            Shape shape = new Shape(size, above, rootParent, name, traits);
            shapes[size] = shape;
            size++;
            return shape;
        }
    }

    /** A PLACE that reads: its ENTRIES, and the count of what it cost. */
    private static final class Place {
        static final int ENTRIES = 0;
        static final int HITS = 1;
        static final int MISSES = 2;
        static final int COST = 3;
        static final int LAST_COST = 4;
        static final int DROPPED = 5;

        int size;
        final Shape[] shapes = new Shape[MOST_ENTRIES];
        final int[] names = new int[MOST_ENTRIES];
        final int[] ways = new int[MOST_ENTRIES];
        int hits;
        int misses;
        int cost;
        int lastCost;
        int dropped;

        boolean knows(Shape shape, int name) {
            for (int k = 0; k < size; k++) {
                if (shapes[k] == shape && names[k] == name) {
                    return true;
                }
            }
            return false;
        }

        void count(boolean isHit, int costNow) {
            if (isHit) {
                hits++;
            } else {
                misses++;
            }
            lastCost = costNow;
            cost += costNow;
        }

        void addEntry(Shape shape, int name, int way) {
            if (size >= MOST_ENTRIES) {
                takeAway(0);
            }
            shapes[size] = shape;
            names[size] = name;
            ways[size] = way;
            size++;
        }

        void takeAway(int gone) {
            for (int k = gone; k + 1 < size; k++) {
                shapes[k] = shapes[k + 1];
                names[k] = names[k + 1];
                ways[k] = ways[k + 1];
            }
            size--;
        }

        int countOf(Shape shape) {
            int found = 0;
            for (int k = 0; k < size; k++) {
                if (shapes[k] == shape) {
                    found++;
                }
            }
            return found;
        }

        int fact(int what) {
            switch (what) {
                case ENTRIES: return size;
                case HITS: return hits;
                case MISSES: return misses;
                case COST: return cost;
                case LAST_COST: return lastCost;
                default: return dropped;
            }
        }

        int entryFact(int k, int what) {
            switch (what) {
                case 0: return shapes[k].number;
                case 1: return names[k];
                default: return ways[k];
            }
        }
    }
}

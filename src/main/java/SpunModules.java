/**
 * A workbench for modules of an algebra with two generators over a field with 2 or 3 elements.
 *
 * <p>Vectors are packed into longs, so that a sum is a few operations and no call makes an object: all rows that
 * the calls work on are made by the constructor and used again.
 */
public final class SpunModules {
    public static final int NONE = -1, BAD = -2, NO = -3, FULL = -4;

    private static final int MODULES = 4;
    private static final int PLACES = 6;
    private static final int KEPT = 8;
    private static final int TEXT = 40;
    private static final int LETTERS = 6;
    private static final int LARGEST_COUNTED = 4;
    private static final int NUMBERS = 243;

    /*
     * A packed vector has twelve places of four bits. Place 0 is the highest one, so that packed vectors compare as
     * their elements do lexicographically. The elements are at the places 0 to 5; the places 6 to 11 carry a second
     * row along through an elimination.
     */
    private static final int PLACE_BITS = 4;
    private static final int FIRST_SHIFT = 44;
    private static final int CARRIED_SHIFT = 24;
    private static final long ONES = 0x111111111111L;
    private static final long EIGHTS = 0x888888888888L;

    private final Field field = new Field();
    private final Action[] modules = new Action[MODULES];
    private final Action made = new Action(field);
    private final Space space = new Space(field);
    private final Past past = new Past(field);
    private final Words words = new Words(field);
    private final Factors factorsOfFirst = new Factors(field);
    private final Factors factorsOfSecond = new Factors(field);
    private final Homs homs = new Homs(field);
    private final Socles socles = new Socles(field);
    private final Polynomial polynomial = new Polynomial();
    private int badCalls = 0;
    private int noCalls = 0;
    private int fullCalls = 0;

    public SpunModules() {
        for (int k = 0; k < MODULES; k++) {
            modules[k] = new Action(field);
        }
    }

    // ---- modules

    public int begins(int p) {
        if (p != 2 && p != 3) {
            return fails(BAD);
        }
        past.keeps(modules);
        field.p = p;
        for (int k = 0; k < MODULES; k++) {
            modules[k].empties(1);
        }
        return p;
    }

    public int sizes(int k, int n) {
        if (!isModule(k) || n < 1 || n > field.largest()) {
            return fails(BAD);
        }
        past.keeps(modules);
        modules[k].empties(n);
        return n;
    }

    public int sets(int k, int g, int i, int j, int v) {
        if (!isEntry(k, g, i, j) || !isElement(v)) {
            return fails(BAD);
        }
        past.keeps(modules);
        int before = modules[k].entry(g, i, j);
        modules[k].puts(g, i, j, v);
        return before;
    }

    public int draws(int k, int seed) {
        if (!isModule(k) || seed < 0 || seed > 999999) {
            return fails(BAD);
        }
        past.keeps(modules);
        return modules[k].fillsAtRandom(seed);
    }

    public int turns(int k, int i, int j, int c) {
        if (!isPlace(k, i) || !isPlace(k, j) || i == j || !isElement(c)) {
            return fails(BAD);
        }
        past.keeps(modules);
        made.copies(modules[k]);
        made.changesBasis(i, j, c);
        int changed = made.differences(modules[k]);
        modules[k].copies(made);
        return changed;
    }

    public int adds(int k, int x, int y) {
        if (!isModule(k) || !isModule(x) || !isModule(y)) {
            return fails(BAD);
        }
        if (modules[x].size + modules[y].size > field.largest()) {
            return fails(NO);
        }
        made.joins(modules[x], modules[y]);
        return changesTo(k);
    }

    public int times(int k, int x, int y) {
        if (!isModule(k) || !isModule(x) || !isModule(y)) {
            return fails(BAD);
        }
        if (modules[x].size * modules[y].size > field.largest()) {
            return fails(NO);
        }
        made.multiplies(modules[x], modules[y]);
        return changesTo(k);
    }

    public int over(int k, int x) {
        if (!isModule(k) || !isModule(x)) {
            return fails(BAD);
        }
        made.transposes(modules[x]);
        return changesTo(k);
    }

    public int parts(int k, int x, int v) {
        if (!isModule(k) || !isVector(x, v)) {
            return fails(BAD);
        }
        if (v == 0) {
            return fails(NO);
        }
        spins(x, v);
        made.restricts(modules[x], space);
        return changesTo(k);
    }

    public int rests(int k, int x, int v) {
        if (!isModule(k) || !isVector(x, v)) {
            return fails(BAD);
        }
        spins(x, v);
        if (space.dim == modules[x].size) {
            return fails(NO);
        }
        made.divides(modules[x], space);
        return changesTo(k);
    }

    // ---- asked

    public int size(int k) {
        return isModule(k) ? modules[k].size : fails(BAD);
    }

    public int at(int k, int g, int i, int j) {
        return isEntry(k, g, i, j) ? modules[k].entry(g, i, j) : fails(BAD);
    }

    public int moved(int k, int g, int v) {
        if (!isMatrix(g) || !isVector(k, v)) {
            return fails(BAD);
        }
        int n = modules[k].size;
        return field.number(modules[k].image(g, field.vector(v, n)), n);
    }

    public int spun(int k, int v) {
        if (!isVector(k, v)) {
            return fails(BAD);
        }
        spins(k, v);
        return space.dim;
    }

    public int row(int k, int v, int i) {
        if (!isVector(k, v) || i < 0) {
            return fails(BAD);
        }
        spins(k, v);
        return i < space.dim ? field.number(space.basisVector(i), modules[k].size) : NONE;
    }

    public int simple(int k) {
        if (!isModule(k)) {
            return fails(BAD);
        }
        space.spinsLeast(modules[k]);
        return space.dim == modules[k].size ? 1 : 0;
    }

    public int least(int k) {
        if (!isModule(k)) {
            return fails(BAD);
        }
        space.spinsLeast(modules[k]);
        return space.dim;
    }

    public int factors(int k) {
        if (!isModule(k)) {
            return fails(BAD);
        }
        factorsOfFirst.finds(modules[k]);
        return factorsOfFirst.count;
    }

    public int factor(int k, int i, int what) {
        if (!isModule(k) || i < 0 || what < 0 || what > 3) {
            return fails(BAD);
        }
        factorsOfFirst.finds(modules[k]);
        if (i >= factorsOfFirst.count) {
            return NONE;
        }
        Action form = factorsOfFirst.forms[i];
        switch (what) {
            case 0:
                return form.size;
            case 1:
                return factorsOfFirst.countOf(form);
            case 2:
                return homs.dimension(form, form);
            default:
                return homs.dimension(form, modules[k]);
        }
    }

    public int telling(int k, int i, int j) {
        if (!isModule(k) || i < 0 || j < 0) {
            return fails(BAD);
        }
        factorsOfFirst.finds(modules[k]);
        if (i >= factorsOfFirst.count) {
            return NONE;
        }
        return factorsOfFirst.forms[i].entryInSequence(j);
    }

    public int common(int x, int y) {
        if (!isModule(x) || !isModule(y)) {
            return fails(BAD);
        }
        factorsOfFirst.finds(modules[x]);
        factorsOfSecond.finds(modules[y]);
        return factorsOfFirst.sharedWith(factorsOfSecond);
    }

    public int ways(int x, int y) {
        if (!isModule(x) || !isModule(y)) {
            return fails(BAD);
        }
        return homs.dimension(modules[x], modules[y]);
    }

    public int layer(int k, int i) {
        if (!isModule(k) || i < 0) {
            return fails(BAD);
        }
        return socles.layerOf(modules[k], i);
    }

    public int spaces(int k, int d) {
        if (!isModule(k) || d < 0 || d > 6) {
            return fails(BAD);
        }
        int n = modules[k].size;
        if (n > LARGEST_COUNTED) {
            return fails(NO);
        }
        int count = 0;
        for (int pivots = 0; pivots < (1 << n); pivots++) {
            if (Integer.bitCount(pivots) == d) {
                count += invariantSpaces(modules[k], pivots);
            }
        }
        return count;
    }

    // ---- words

    public int type(int c) {
        if (c < 0 || c > 127) {
            return fails(BAD);
        }
        if (words.textLength >= TEXT) {
            return fails(FULL);
        }
        words.appends(c);
        return words.textLength;
    }

    public int clear() {
        int had = words.textLength;
        words.textLength = 0;
        return had;
    }

    public int tells() {
        int fault = words.fault();
        if (fault != NONE) {
            return -10 - fault;
        }
        words.takesText();
        return words.terms();
    }

    public int word(int k, int i, int j) {
        if (!isPlace(k, i) || !isPlace(k, j)) {
            return fails(BAD);
        }
        return element(words.valueRow(modules[k], i), j);
    }

    public int nulls(int k, int what) {
        if (!isModule(k) || what < 0 || what > 2) {
            return fails(BAD);
        }
        words.findsNulls(modules[k], space);
        switch (what) {
            case 0:
                return space.dim;
            case 1:
                return space.smallestNumber();
            default:
                space.spins(modules[k]);
                return space.dim;
        }
    }

    public int poly(int k, int i) {
        if (!isModule(k) || i < 0 || i > modules[k].size) {
            return fails(BAD);
        }
        int n = modules[k].size;
        for (int row = 0; row < n; row++) {
            polynomial.takesRow(row, words.valueRow(modules[k], row));
        }
        polynomial.computes(n);
        return field.modulo(polynomial.coefficients[i]);
    }

    // ---- undo, numbers

    public int back() {
        if (past.count == 0) {
            return fails(NO);
        }
        past.restores(modules);
        return past.count;
    }

    public int told(int what) {
        return what >= 0 && what <= 5 ? toldNumber(what) : fails(BAD);
    }

    public long digest() {
        long h = 1562;
        for (int what = 0; what <= 5; what++) {
            h = 31 * h + toldNumber(what);
        }
        for (int k = 0; k < MODULES; k++) {
            h = modules[k].digestOnto(h);
        }
        int n = modules[0].size;
        for (int i = 0; i < n; i++) {
            h = rowOnto(h, words.valueRow(modules[0], i), n);
        }
        return h;
    }

    // ---- what the methods share

    private int fails(int code) {
        if (code == BAD) {
            badCalls++;
        } else if (code == NO) {
            noCalls++;
        } else {
            fullCalls++;
        }
        return code;
    }

    private int toldNumber(int what) {
        switch (what) {
            case 0:
                return badCalls;
            case 1:
                return noCalls;
            case 2:
                return fullCalls;
            case 3:
                return past.count;
            case 4:
                return field.p;
            default:
                return words.textLength;
        }
    }

    private boolean isModule(int k) {
        return k >= 0 && k < MODULES;
    }

    private boolean isMatrix(int g) {
        return g == 0 || g == 1;
    }

    private boolean isElement(int v) {
        return v >= 0 && v < field.p;
    }

    private boolean isPlace(int k, int i) {
        return isModule(k) && i >= 0 && i < modules[k].size;
    }

    private boolean isEntry(int k, int g, int i, int j) {
        return isMatrix(g) && isPlace(k, i) && isPlace(k, j);
    }

    private boolean isVector(int k, int v) {
        return isModule(k) && v >= 0 && v < field.power(modules[k].size);
    }

    /** Makes module k what has been built aside, which may have been built from module k itself. */
    private int changesTo(int k) {
        past.keeps(modules);
        modules[k].copies(made);
        return made.size;
    }

    private void spins(int k, int v) {
        int n = modules[k].size;
        space.empties(n);
        space.takes(field.vector(v, n));
        space.spins(modules[k]);
    }

    /** Runs over all reduced row echelon forms with these pivots: each subspace has just one. */
    private int invariantSpaces(Action module, int pivots) {
        int fillings = field.power(freePlaces(module.size, pivots));
        int count = 0;
        for (int filling = 0; filling < fillings; filling++) {
            space.fills(module.size, pivots, filling);
            if (space.isInvariant(module)) {
                count++;
            }
        }
        return count;
    }

    private static int freePlaces(int n, int pivots) {
        int count = 0;
        for (int i = 0; i < n; i++) {
            for (int j = i + 1; j < n; j++) {
                if (isPivot(pivots, i) && !isPivot(pivots, j)) {
                    count++;
                }
            }
        }
        return count;
    }

    private static boolean isPivot(int pivots, int place) {
        return ((pivots >> place) & 1) == 1;
    }

    private static int element(long v, int place) {
        return (int) (v >>> (FIRST_SHIFT - PLACE_BITS * place)) & 15;
    }

    private static long unit(int place) {
        return 1L << (FIRST_SHIFT - PLACE_BITS * place);
    }

    /** Whether the elements are all 0, whatever is carried along. */
    private static boolean isZero(long v) {
        return v >>> CARRIED_SHIFT == 0;
    }

    /** The place of the first element that is not 0, or the number of places if there is none. */
    private static int firstPlace(long v) {
        int place = 0;
        while (place < 2 * PLACES && element(v, place) == 0) {
            place++;
        }
        return place;
    }

    private static long rowOnto(long start, long row, int n) {
        long h = start;
        for (int j = 0; j < n; j++) {
            h = 31 * h + element(row, j);
        }
        return h;
    }

    /** The field, and sums of packed vectors over it. */
    private static final class Field {
        int p = 2;

        int largest() {
            return p == 2 ? 6 : 5;
        }

        int modulo(int x) {
            return p == 2 ? Math.floorMod(x, 2) : Math.floorMod(x, 3);
        }

        int negative(int c) {
            return c == 0 ? 0 : p - c;
        }

        int power(int exponent) {
            int product = 1;
            for (int i = 0; i < exponent; i++) {
                product *= p;
            }
            return product;
        }

        /** x + c * y: places that reach p are found by the bit 8 that 8 - p more lift them to. */
        long plusTimes(long x, int c, long y) {
            long sum = x;
            for (int i = 0; i < c; i++) {
                sum += y;
                sum -= p * (((sum + (8 - p) * ONES) & EIGHTS) >>> 3);
            }
            return sum;
        }

        long vector(int number, int n) {
            long v = 0;
            int left = number;
            for (int i = 0; i < n; i++) {
                int digit = modulo(left);
                v |= digit * unit(i);
                left = p == 2 ? left / 2 : left / 3;
            }
            return v;
        }

        int number(long v, int n) {
            int sum = 0;
            for (int i = n - 1; i >= 0; i--) {
                sum = sum * p + element(v, i);
            }
            return sum;
        }
    }

    /** The size and the two matrices of a module. Inside, a quotient may have the size 0. */
    private static final class Action {
        final Field field;
        int size = 1;
        /** Row i of matrix g is at PLACES * g + i; what is behind the size is 0. */
        final long[] rows = new long[2 * PLACES];

        Action(Field field) {
            this.field = field;
        }

        void empties(int n) {
            size = n;
            for (int i = 0; i < 2 * PLACES; i++) {
                rows[i] = 0;
            }
        }

        void copies(Action other) {
            size = other.size;
            System.arraycopy(other.rows, 0, rows, 0, 2 * PLACES);
        }

        int entry(int g, int i, int j) {
            return element(rows[PLACES * g + i], j);
        }

        void puts(int g, int i, int j, int v) {
            int at = PLACES * g + i;
            rows[at] += (v - element(rows[at], j)) * unit(j);
        }

        long image(int g, long v) {
            long sum = 0;
            for (int i = 0; i < size; i++) {
                int c = element(v, i);
                if (c != 0) {
                    sum = field.plusTimes(sum, c, rows[PLACES * g + i]);
                }
            }
            return sum;
        }

        int fillsAtRandom(int seed) {
            long x = seed;
            int filled = 0;
            for (int g = 0; g < 2; g++) {
                for (int i = 0; i < size; i++) {
                    for (int j = 0; j < size; j++) {
                        x = (x * 1103515245L + 12345L) & 0x7fffffffL;
                        int v = field.modulo((int) (x >>> 16));
                        puts(g, i, j, v);
                        filled += v == 0 ? 0 : 1;
                    }
                }
            }
            return filled;
        }

        /** The new rows are combinations of the old ones; their coefficients change the other way round. */
        void changesBasis(int i, int j, int c) {
            for (int g = 0; g < 2; g++) {
                int at = PLACES * g;
                rows[at + i] = field.plusTimes(rows[at + i], c, rows[at + j]);
                for (int h = 0; h < size; h++) {
                    int less = field.modulo(-c * element(rows[at + h], i));
                    rows[at + h] = field.plusTimes(rows[at + h], less, unit(j));
                }
            }
        }

        int differences(Action other) {
            int count = 0;
            for (int i = 0; i < 2 * PLACES; i++) {
                for (int j = 0; j < size; j++) {
                    count += element(rows[i], j) == element(other.rows[i], j) ? 0 : 1;
                }
            }
            return count;
        }

        void joins(Action x, Action y) {
            copies(x);
            size = x.size + y.size;
            for (int g = 0; g < 2; g++) {
                for (int i = 0; i < y.size; i++) {
                    rows[PLACES * g + x.size + i] = y.rows[PLACES * g + i] >>> (PLACE_BITS * x.size);
                }
            }
        }

        void multiplies(Action x, Action y) {
            empties(x.size * y.size);
            for (int g = 0; g < 2; g++) {
                for (int i = 0; i < x.size; i++) {
                    for (int q = 0; q < x.size; q++) {
                        addsBlock(y, g, i, q, x.entry(g, i, q));
                    }
                }
            }
        }

        /** Adds c times a matrix of y in the block whose rows stand for place i and whose columns for place q of x. */
        private void addsBlock(Action y, int g, int i, int q, int c) {
            for (int j = 0; j < y.size; j++) {
                int at = PLACES * g + y.size * i + j;
                rows[at] = field.plusTimes(rows[at], c, y.rows[PLACES * g + j] >>> (PLACE_BITS * y.size * q));
            }
        }

        void transposes(Action x) {
            empties(x.size);
            for (int g = 0; g < 2; g++) {
                for (int i = 0; i < size; i++) {
                    for (int j = 0; j < size; j++) {
                        puts(g, i, j, x.entry(g, j, i));
                    }
                }
            }
        }

        /** Coefficients with respect to a reduced basis are the elements at its pivots. */
        void restricts(Action x, Space part) {
            empties(part.dim);
            int line = 0;
            for (int place = 0; place < x.size; place++) {
                if (part.hasPivot(place)) {
                    for (int g = 0; g < 2; g++) {
                        rows[PLACES * g + line] = part.picks(x.image(g, part.rows[place]), true);
                    }
                    line++;
                }
            }
        }

        void divides(Action x, Space part) {
            empties(x.size - part.dim);
            int line = 0;
            for (int place = 0; place < x.size; place++) {
                if (!part.hasPivot(place)) {
                    for (int g = 0; g < 2; g++) {
                        rows[PLACES * g + line] = part.picks(part.reduced(x.rows[PLACES * g + place]), false);
                    }
                    line++;
                }
            }
        }

        int entryInSequence(int j) {
            int entries = size * size;
            if (size < 1 || j < 0 || j >= 2 * entries) {
                return NONE;
            }
            int g = j < entries ? 0 : 1;
            int index = j - g * entries;
            return entry(g, index / size, index % size);
        }

        /** Below 0, 0 or above 0 as this module is before, of one type with or behind the other one. */
        int compares(Action other) {
            int order = Integer.compare(size, other.size);
            for (int i = 0; i < 2 * PLACES && order == 0; i++) {
                order = Long.compare(rows[i], other.rows[i]);
            }
            return order;
        }

        long digestOnto(long start) {
            long h = 31 * start + size;
            for (int g = 0; g < 2; g++) {
                for (int i = 0; i < size; i++) {
                    h = rowOnto(h, rows[PLACES * g + i], size);
                }
            }
            return h;
        }
    }

    /** A subspace with its reduced row echelon basis. */
    private static final class Space {
        final Field field;
        int places = 1;
        int dim = 0;
        /** The basis vector whose pivot is place i; 0 if i is no pivot. */
        final long[] rows = new long[PLACES];
        /** The vectors that enlarged the space, in the order in which they came. */
        final long[] taken = new long[PLACES];

        Space(Field field) {
            this.field = field;
        }

        void empties(int n) {
            places = n;
            dim = 0;
            for (int i = 0; i < PLACES; i++) {
                rows[i] = 0;
            }
        }

        void copies(Space other) {
            places = other.places;
            dim = other.dim;
            System.arraycopy(other.rows, 0, rows, 0, PLACES);
            System.arraycopy(other.taken, 0, taken, 0, PLACES);
        }

        boolean hasPivot(int place) {
            return rows[place] != 0;
        }

        /** Subtracts the vector of the space with the same elements at all pivots. */
        long reduced(long v) {
            long left = v;
            for (int i = 0; i < places; i++) {
                int c = rows[i] == 0 ? 0 : element(left, i);
                if (c != 0) {
                    left = field.plusTimes(left, field.negative(c), rows[i]);
                }
            }
            return left;
        }

        void takes(long v) {
            long left = reduced(v);
            int pivot = firstPlace(left);
            if (pivot >= places || dim >= places) {
                return;
            }
            taken[dim] = v;
            dim++;
            // 1 and 2 are their own inverses
            long row = field.plusTimes(0, element(left, pivot), left);
            for (int i = 0; i < places; i++) {
                int c = element(rows[i], pivot);
                if (c != 0) {
                    rows[i] = field.plusTimes(rows[i], field.negative(c), row);
                }
            }
            rows[pivot] = row;
        }

        /** Enlarges the space to the smallest invariant one. */
        void spins(Action module) {
            for (int i = 0; i < places && i < dim && dim < places; i++) {
                takes(module.image(0, taken[i]));
                takes(module.image(1, taken[i]));
            }
        }

        /** Becomes a smallest space that a vector spins: it is simple, for its vectors spin nothing smaller. */
        void spinsLeast(Action module) {
            int least = PLACES + 1;
            int from = 0;
            for (int place = 0; place < module.size; place++) {
                int first = field.power(place);
                // a vector whose last element is 1 stands for its multiples
                for (int number = first; number < 2 * first && least > 1; number++) {
                    empties(module.size);
                    takes(field.vector(number, module.size));
                    spins(module);
                    if (dim < least) {
                        least = dim;
                        from = number;
                    }
                }
            }
            empties(module.size);
            takes(field.vector(from, module.size));
            spins(module);
        }

        long basisVector(int index) {
            int left = index;
            for (int i = 0; i < places; i++) {
                if (hasPivot(i)) {
                    if (left == 0) {
                        return rows[i];
                    }
                    left--;
                }
            }
            return 0;
        }

        /** The elements of v at the pivots, or at the other places, moved together. */
        long picks(long v, boolean pivots) {
            long picked = 0;
            int count = 0;
            for (int i = 0; i < places; i++) {
                if (hasPivot(i) == pivots) {
                    picked |= element(v, i) * unit(count);
                    count++;
                }
            }
            return picked;
        }

        int smallestNumber() {
            if (dim == 0) {
                return NONE;
            }
            int numbers = field.power(places);
            for (int number = 1; number < numbers; number++) {
                if (isZero(reduced(field.vector(number, places)))) {
                    return number;
                }
            }
            return NONE;
        }

        /** Becomes the space with these pivots whose free elements are the digits of a number. */
        void fills(int n, int pivots, int filling) {
            empties(n);
            long digits = field.vector(filling, PLACES);
            int digit = 0;
            for (int i = 0; i < n; i++) {
                if (isPivot(pivots, i)) {
                    rows[i] = unit(i);
                    dim++;
                    for (int j = i + 1; j < n; j++) {
                        if (!isPivot(pivots, j)) {
                            rows[i] |= element(digits, digit) * unit(j);
                            digit++;
                        }
                    }
                }
            }
        }

        boolean isInvariant(Action module) {
            for (int i = 0; i < places; i++) {
                for (int g = 0; g < 2; g++) {
                    if (!isZero(reduced(module.image(g, rows[i])))) {
                        return false;
                    }
                }
            }
            return true;
        }
    }

    /** The composition factors of a module, in their order and in canonical form. */
    private static final class Factors {
        final Field field;
        final Action[] forms = new Action[PLACES];
        int count = 0;
        private final Action whole;
        private final Action rest;
        private final Action part;
        private final Action tried;
        private final Space space;

        Factors(Field field) {
            this.field = field;
            for (int i = 0; i < PLACES; i++) {
                forms[i] = new Action(field);
            }
            whole = new Action(field);
            rest = new Action(field);
            part = new Action(field);
            tried = new Action(field);
            space = new Space(field);
        }

        void finds(Action module) {
            whole.copies(module);
            count = 0;
            for (int i = 0; i < PLACES && whole.size > 0; i++) {
                space.spinsLeast(whole);
                part.restricts(whole, space);
                rest.divides(whole, space);
                formsPart(forms[i]);
                count++;
                sinksLast();
                whole.copies(rest);
            }
        }

        /** Moves the newest form in front of the ones that it comes before. */
        private void sinksLast() {
            for (int i = count - 1; i > 0 && forms[i].compares(forms[i - 1]) < 0; i--) {
                Action behind = forms[i];
                forms[i] = forms[i - 1];
                forms[i - 1] = behind;
            }
        }

        private void formsPart(Action best) {
            int n = part.size;
            best.empties(0);
            for (int place = 0; place < n; place++) {
                int first = field.power(place);
                // the multiples of a vector give the same sequence
                for (int number = first; number < 2 * first; number++) {
                    writesFrom(field.vector(number, n), best);
                    if (best.size == 0 || tried.compares(best) < 0) {
                        best.copies(tried);
                    }
                }
            }
        }

        /**
         * Writes the part with respect to the list that begins with v. The basis of the space carries along what
         * each of its vectors is in terms of the list. Stops early where it is behind the best form already.
         */
        private void writesFrom(long v, Action best) {
            int n = part.size;
            int order = best.size == 0 ? -1 : 0;
            tried.empties(n);
            space.empties(n);
            space.takes(v | unit(PLACES));
            for (int i = 0; i < n && i < space.dim && order <= 0; i++) {
                for (int g = 0; g < 2; g++) {
                    long product = part.image(g, space.taken[i]);
                    long left = space.reduced(product);
                    if (isZero(left)) {
                        tried.rows[PLACES * g + i] = field.plusTimes(0, field.negative(1), left) << CARRIED_SHIFT;
                    } else {
                        tried.rows[PLACES * g + i] = unit(space.dim);
                        space.takes(product | unit(PLACES + space.dim));
                    }
                }
                order = order == 0 ? Long.compare(tried.rows[i], best.rows[i]) : order;
            }
        }

        int countOf(Action form) {
            int same = 0;
            for (int i = 0; i < count; i++) {
                same += forms[i].compares(form) == 0 ? 1 : 0;
            }
            return same;
        }

        int sharedWith(Factors other) {
            int shared = 0;
            for (int i = 0; i < count; i++) {
                // factors of one type stand side by side: the first of them speaks for all
                if (i == 0 || forms[i].compares(forms[i - 1]) != 0) {
                    shared += Math.min(countOf(forms[i]), other.countOf(forms[i]));
                }
            }
            return shared;
        }
    }

    /**
     * Homomorphism spaces: the null spaces of h -> (a of x) * h - h * (a of y), together with the same for b. Only
     * the rank of this map is computed, from its values at the matrices with a single 1.
     */
    private static final class Homs {
        final Field field;
        /** Reduced values, a row of the matrix a long, that for a at the first places and that for b carried along. */
        private final long[][] values = new long[PLACES * PLACES][PLACES];
        private final int[] pivotRows = new int[PLACES * PLACES];
        private final int[] pivotPlaces = new int[PLACES * PLACES];
        private int rank = 0;

        Homs(Field field) {
            this.field = field;
        }

        int dimension(Action x, Action y) {
            rank = 0;
            for (int i = 0; i < x.size; i++) {
                for (int j = 0; j < y.size; j++) {
                    evaluates(x, y, i, j);
                    reduces(x.size);
                    keepsIfNew(x.size);
                }
            }
            return x.size * y.size - rank;
        }

        /** The value at the matrix whose 1 is in row i and column j. */
        private void evaluates(Action x, Action y, int i, int j) {
            long[] value = values[rank];
            for (int row = 0; row < x.size; row++) {
                value[row] = x.entry(0, row, i) * unit(j) | x.entry(1, row, i) * unit(PLACES + j);
            }
            long image = y.rows[j] | (y.rows[PLACES + j] >>> CARRIED_SHIFT);
            value[i] = field.plusTimes(value[i], field.negative(1), image);
        }

        private void reduces(int rows) {
            long[] value = values[rank];
            for (int t = 0; t < rank; t++) {
                int c = element(value[pivotRows[t]], pivotPlaces[t]);
                if (c != 0) {
                    for (int row = pivotRows[t]; row < rows; row++) {
                        value[row] = field.plusTimes(value[row], field.negative(c), values[t][row]);
                    }
                }
            }
        }

        private void keepsIfNew(int rows) {
            long[] value = values[rank];
            int first = 0;
            while (first < rows && value[first] == 0) {
                first++;
            }
            if (first < rows) {
                int place = firstPlace(value[first]);
                int inverse = element(value[first], place);
                for (int row = first; row < rows; row++) {
                    value[row] = field.plusTimes(0, inverse, value[row]);
                }
                pivotRows[rank] = first;
                pivotPlaces[rank] = place;
                rank++;
            }
        }
    }

    /** The socle series of a module. */
    private static final class Socles {
        final Field field;
        private final Action whole;
        private final Action rest;
        private final Space socle;
        private final Space part;
        private final Space sum;
        /** The dimensions of the spaces that the vectors spin, by their numbers. */
        private final int[] dims = new int[NUMBERS];

        Socles(Field field) {
            this.field = field;
            whole = new Action(field);
            rest = new Action(field);
            socle = new Space(field);
            part = new Space(field);
            sum = new Space(field);
        }

        int layerOf(Action module, int index) {
            whole.copies(module);
            for (int i = 0; i < PLACES && whole.size > 0; i++) {
                findsDimensions();
                findsSocle();
                if (i == index) {
                    return socle.dim;
                }
                rest.divides(whole, socle);
                whole.copies(rest);
            }
            return NONE;
        }

        private void findsDimensions() {
            int n = whole.size;
            for (int place = 0; place < n; place++) {
                int first = field.power(place);
                for (int number = first; number < 2 * first && number < NUMBERS; number++) {
                    part.empties(n);
                    part.takes(field.vector(number, n));
                    part.spins(whole);
                    dims[number] = part.dim;
                }
            }
        }

        private void findsSocle() {
            int n = whole.size;
            socle.empties(n);
            for (int d = 1; d <= n; d++) {
                for (int place = 0; place < n; place++) {
                    int first = field.power(place);
                    for (int number = first; number < 2 * first && number < NUMBERS; number++) {
                        if (dims[number] == d) {
                            addsIfSimple(field.vector(number, n));
                        }
                    }
                }
            }
        }

        /**
         * The spaces come in ascending order of their dimensions, so that all smaller simple spaces are in the socle
         * already. A space that meets it in 0 alone has none of them inside and is simple; one that meets it in
         * more is in it as a whole or is not simple.
         */
        private void addsIfSimple(long v) {
            if (isZero(socle.reduced(v))) {
                return;
            }
            part.empties(whole.size);
            part.takes(v);
            part.spins(whole);
            sum.copies(socle);
            for (int i = 0; i < part.dim; i++) {
                sum.takes(part.taken[i]);
            }
            if (sum.dim == socle.dim + part.dim) {
                socle.copies(sum);
            }
        }
    }

    /** The text, and the word that was read last. */
    private static final class Words {
        private static final int PLUS = 43;
        private static final int DIGIT_0 = 48;
        private static final int LETTER_A = 97;

        final Field field;
        int textLength = 0;
        private final int[] text = new int[TEXT];
        private int length = 1;
        private final int[] bytes = new int[TEXT];
        private final Space images;

        Words(Field field) {
            this.field = field;
            images = new Space(field);
            bytes[0] = LETTER_A;
        }

        void appends(int c) {
            if (textLength < TEXT) {
                text[textLength] = c;
                textLength++;
            }
        }

        /** The index of the fault of the text; NONE if it has none. */
        int fault() {
            int letters = NONE;
            for (int i = 0; i < textLength; i++) {
                int c = text[i];
                if (isLetter(c) && letters < LETTERS) {
                    letters = Math.max(letters, 0) + 1;
                } else if (isDigit(c) && letters == NONE) {
                    letters = 0;
                } else if (c == PLUS && letters != NONE) {
                    letters = NONE;
                } else {
                    return i;
                }
            }
            return letters == NONE ? textLength : NONE;
        }

        void takesText() {
            System.arraycopy(text, 0, bytes, 0, TEXT);
            length = textLength;
        }

        int terms() {
            int count = 1;
            for (int i = 0; i < length; i++) {
                count += bytes[i] == PLUS ? 1 : 0;
            }
            return count;
        }

        /** Row i of the value, the sum of what the terms make of unit vector i. */
        long valueRow(Action module, int i) {
            long sum = 0;
            int c = 1;
            long v = unit(i);
            for (int at = 0; at < length; at++) {
                if (isDigit(bytes[at])) {
                    c = field.modulo(bytes[at] - DIGIT_0);
                } else if (isLetter(bytes[at])) {
                    v = module.image(bytes[at] - LETTER_A, v);
                } else {
                    sum = field.plusTimes(sum, c, v);
                    c = 1;
                    v = unit(i);
                }
            }
            return field.plusTimes(sum, c, v);
        }

        /** A row that the others reduce to 0 has the combination that does it carried along. */
        void findsNulls(Action module, Space nulls) {
            nulls.empties(module.size);
            images.empties(module.size);
            for (int i = 0; i < module.size; i++) {
                long image = valueRow(module, i) | unit(PLACES + i);
                long left = images.reduced(image);
                if (isZero(left)) {
                    nulls.takes(left << CARRIED_SHIFT);
                } else {
                    images.takes(image);
                }
            }
        }

        private static boolean isDigit(int c) {
            return c >= DIGIT_0 && c <= DIGIT_0 + 2;
        }

        private static boolean isLetter(int c) {
            return c == LETTER_A || c == LETTER_A + 1;
        }
    }

    /** The characteristic polynomial, computed over the integers, where the divisions by 2 and 3 are exact. */
    private static final class Polynomial {
        final int[] coefficients = new int[PLACES + 1];
        private final int[][] matrix = new int[PLACES][PLACES];
        private final int[][] power = new int[PLACES][PLACES];
        private final int[][] product = new int[PLACES][PLACES];

        void takesRow(int i, long row) {
            for (int j = 0; j < PLACES; j++) {
                matrix[i][j] = element(row, j);
            }
        }

        /** The method of Faddeev and LeVerrier. */
        void computes(int n) {
            for (int i = 0; i < n; i++) {
                for (int j = 0; j < n; j++) {
                    product[i][j] = 0;
                }
            }
            coefficients[n] = 1;
            for (int k = 1; k <= n; k++) {
                addsUnit(n, coefficients[n - k + 1]);
                coefficients[n - k] = -multiplied(n) / k;
            }
        }

        private void addsUnit(int n, int c) {
            for (int i = 0; i < n; i++) {
                for (int j = 0; j < n; j++) {
                    power[i][j] = product[i][j] + (i == j ? c : 0);
                }
            }
        }

        /** Sets the product and returns its trace. */
        private int multiplied(int n) {
            int trace = 0;
            for (int i = 0; i < n; i++) {
                for (int j = 0; j < n; j++) {
                    int sum = 0;
                    for (int q = 0; q < n; q++) {
                        sum += matrix[i][q] * power[q][j];
                    }
                    product[i][j] = sum;
                }
                trace += product[i][i];
            }
            return trace;
        }
    }

    /** The states before the latest changes, in a ring. */
    private static final class Past {
        final Field field;
        int count = 0;
        private int next = 0;
        private final int[] fields = new int[KEPT];
        private final Action[] kept = new Action[KEPT * MODULES];

        Past(Field field) {
            this.field = field;
            for (int i = 0; i < KEPT * MODULES; i++) {
                kept[i] = new Action(field);
            }
        }

        void keeps(Action[] modules) {
            fields[next] = field.p;
            for (int k = 0; k < MODULES; k++) {
                kept[MODULES * next + k].copies(modules[k]);
            }
            next = (next + 1) % KEPT;
            count = Math.min(count + 1, KEPT);
        }

        void restores(Action[] modules) {
            if (count > 0) {
                next = (next + KEPT - 1) % KEPT;
                count--;
                field.p = fields[next];
                for (int k = 0; k < MODULES; k++) {
                    modules[k].copies(kept[MODULES * next + k]);
                }
            }
        }
    }
}

/** Quadrics in finite projective spaces over the fields with 2, 3 or 5 elements. */
public final class QuadricFlats {
    public static final int NONE = -1, UNKNOWN = -101, OUTSIDE = -102, STATE = -103, FULL = -104;

    private static final int PAGE_ROOM = 28;
    private static final int FEWEST_VARIABLES = 3;
    private static final int MOST_VARIABLES = 6;
    private static final int CELLS = MOST_VARIABLES * MOST_VARIABLES;
    private static final int MOST_POINTS = 156;
    private static final int NUMBERS = MOST_POINTS * MOST_VARIABLES;
    /** The hyperbolic form in 6 variables has 105 lines and 30 planes, and no form has more. */
    private static final int MOST_LINES = 105, MOST_PLANES = 30;
    /** Sets of points and of maximal flats are bits of a long: a nonsingular form has at most 40 and 45. */
    private static final int BITS = 64;
    /** The largest ovoid or spread has 26 entries. */
    private static final int DEEPEST = 40;
    private static final int FINISH_LIMIT = 20, WAYS_LIMIT = 12, MOST_PAIRS = 100;
    private static final int SINGULAR_TYPE = 3;

    private final Page page;
    private final Form current;
    private final Form kept;
    private final Quadric quadric;
    private final Flats known;
    private final Side picked;
    private final Side gathered;
    private final Search ovoids;
    private final Search spreads;
    private int keptType;
    private int formsRead;
    private int finishCalls;
    private int waysCalls;
    /** What is derived from the form is made when it is first asked for. */
    private boolean surveyed;
    private boolean built;

    public QuadricFlats() {
        page = new Page();
        current = new Form();
        kept = new Form();
        quadric = new Quadric();
        known = new Flats();
        picked = new Side();
        gathered = new Side();
        ovoids = new Search(picked, gathered);
        spreads = new Search(gathered, picked);
    }

    // ---- texts

    public int letter(int code) {
        if (code < 32 || code > 126) {
            return OUTSIDE;
        }
        if (page.length >= PAGE_ROOM) {
            return FULL;
        }
        page.append(code);
        return page.length;
    }

    public int blank() {
        int had = page.length;
        page.length = 0;
        return had;
    }

    public int fault() {
        return page.firstWrong();
    }

    public int form() {
        if (!page.isText()) {
            return STATE;
        }
        page.copyTo(current);
        page.length = 0;
        formsRead++;
        quadric.layPoints(current);
        forget();
        return quadric.total;
    }

    // ---- the form

    public int about(int what) {
        if (what < 0 || what > 7) {
            return OUTSIDE;
        }
        if (!hasForm()) {
            return STATE;
        }
        switch (what) {
            case 0: return current.prime;
            case 1: return current.variables;
            case 2: return quadric.total;
            case 3: return quadric.memberTotal;
            case 4: return quadric.singularTotal;
            case 5: return quadric.kind();
            case 6: return current.discriminant();
            default: return quadric.index();
        }
    }

    public int coefficient(int i, int j) {
        if (!current.hasVariable(i) || !current.hasVariable(j)) {
            return UNKNOWN;
        }
        return current.cell(i, j);
    }

    public int point(int point, int i) {
        if (!hasPoint(point) || !current.hasVariable(i)) {
            return UNKNOWN;
        }
        return quadric.numbers[point * MOST_VARIABLES + i];
    }

    public int value(int point) {
        if (!hasPoint(point)) {
            return UNKNOWN;
        }
        return quadric.values[point];
    }

    public int polar(int one, int other) {
        if (!hasPoint(one) || !hasPoint(other)) {
            return UNKNOWN;
        }
        return quadric.product(quadric.normals, one, other);
    }

    public int joined(int one, int other) {
        if (!hasPoint(one) || !hasPoint(other)) {
            return UNKNOWN;
        }
        return quadric.areCollinear(one, other) ? 1 : 0;
    }

    public int section(int point, int what) {
        if (!hasPoint(point)) {
            return UNKNOWN;
        }
        if (what != 0 && what != 1) {
            return OUTSIDE;
        }
        return what == 0 ? quadric.sectionSize(point) : quadric.tangentPoint(point);
    }

    // ---- flats

    public int flats(int degree) {
        if (degree < 1 || degree > 3) {
            return OUTSIDE;
        }
        if (!hasFlats()) {
            return STATE;
        }
        return known.totalOf(degree);
    }

    public int flat(int degree, int flat, int place) {
        if (degree < 1 || degree > 3) {
            return OUTSIDE;
        }
        if (!hasFlats()) {
            return STATE;
        }
        if (flat < 0 || flat >= known.totalOf(degree)) {
            return UNKNOWN;
        }
        long rest = known.maskOf(degree, flat);
        if (place < 0 || place >= Long.bitCount(rest)) {
            return UNKNOWN;
        }
        for (int passed = 0; passed < place; passed++) {
            rest &= rest - 1;
        }
        return quadric.members[lowestBit(rest)];
    }

    public int near(int point, int greatest, int what) {
        if (!hasFlats()) {
            return STATE;
        }
        if (!isMember(point) || !isGreatest(greatest)) {
            return UNKNOWN;
        }
        if (what != 0 && what != 1) {
            return OUTSIDE;
        }
        int rank = quadric.ranks[point];
        long considered = gathered.covers[greatest] & known.links[rank];
        if (what == 0) {
            return Long.bitCount(considered);
        }
        return considered == 0 ? NONE : quadric.members[lowestBit(considered)];
    }

    // ---- ovoids and spreads

    public int pick(int point) {
        if (!hasFlats()) {
            return STATE;
        }
        if (!isMember(point)) {
            return UNKNOWN;
        }
        int rank = quadric.ranks[point];
        if (picked.refuses(rank)) {
            return STATE;
        }
        picked.append(rank);
        return picked.length;
    }

    public int gather(int greatest) {
        if (!hasFlats()) {
            return STATE;
        }
        if (!isGreatest(greatest)) {
            return UNKNOWN;
        }
        if (gathered.refuses(greatest)) {
            return STATE;
        }
        gathered.append(greatest);
        return gathered.length;
    }

    public int drop(int of) {
        if (of != 0 && of != 1) {
            return OUTSIDE;
        }
        Side side = sideOf(of);
        if (side.length == 0) {
            return STATE;
        }
        int last = entryOf(of, side.length - 1);
        side.length--;
        return last;
    }

    public int chosen(int of, int place) {
        if (of != 0 && of != 1) {
            return OUTSIDE;
        }
        if (place < 0 || place >= sideOf(of).length) {
            return UNKNOWN;
        }
        return entryOf(of, place);
    }

    public int left(int of) {
        if (of != 0 && of != 1) {
            return OUTSIDE;
        }
        if (!hasFlats()) {
            return STATE;
        }
        return missing(of);
    }

    public int finish(int of) {
        if (of != 0 && of != 1) {
            return OUTSIDE;
        }
        if (!hasFlats() || finishCalls >= FINISH_LIMIT) {
            return STATE;
        }
        finishCalls++;
        Side side = sideOf(of);
        Search search = searchOf(of);
        search.run();
        if (search.found == 0) {
            return NONE;
        }
        int before = side.length;
        side.appendAll(search.first & ~side.taken());
        return side.length - before;
    }

    public int ways(int of) {
        if (of != 0 && of != 1) {
            return OUTSIDE;
        }
        if (!hasFlats() || waysCalls >= WAYS_LIMIT) {
            return STATE;
        }
        waysCalls++;
        Search search = searchOf(of);
        search.run();
        return search.found;
    }

    // ---- changing the form

    public int put(int i, int j, int v) {
        if (!current.hasVariable(i) || !current.hasVariable(j)) {
            return UNKNOWN;
        }
        if (v < 0 || v >= current.prime) {
            return OUTSIDE;
        }
        int was = current.cell(i, j);
        current.store(i, j, v);
        forget();
        return was;
    }

    public int swap(int i, int j) {
        if (!current.hasVariable(i) || !current.hasVariable(j) || i == j) {
            return UNKNOWN;
        }
        current.exchange(i, j);
        forget();
        return memberTotal();
    }

    public int plus(int i, int j, int c) {
        if (!current.hasVariable(i) || !current.hasVariable(j) || i == j) {
            return UNKNOWN;
        }
        if (c < 0 || c >= current.prime) {
            return OUTSIDE;
        }
        current.shear(i, j, c);
        forget();
        return memberTotal();
    }

    public int scale(int i, int c) {
        if (!current.hasVariable(i)) {
            return UNKNOWN;
        }
        if (c < 1 || c >= current.prime) {
            return OUTSIDE;
        }
        current.stretch(i, c);
        forget();
        return memberTotal();
    }

    public int times(int c) {
        if (current.variables == 0) {
            return STATE;
        }
        if (c < 1 || c >= current.prime) {
            return OUTSIDE;
        }
        current.multiply(c);
        forget();
        return current.discriminant();
    }

    // ---- the image and counts

    public int image() {
        if (!hasForm()) {
            return STATE;
        }
        kept.copyFrom(current);
        keptType = quadric.kind();
        return quadric.total;
    }

    public int restore() {
        if (kept.variables == 0) {
            return STATE;
        }
        current.copyFrom(kept);
        quadric.layPoints(current);
        forget();
        return quadric.total;
    }

    public int like() {
        if (kept.variables == 0 || !hasForm()) {
            return STATE;
        }
        boolean sameSpace = current.prime == kept.prime && current.variables == kept.variables;
        boolean sameType = quadric.kind() == keptType && keptType != SINGULAR_TYPE;
        return sameSpace && sameType && current.discriminant() == kept.discriminant() ? 1 : 0;
    }

    public int drawn(int times, int seed, int what) {
        if (times < 1 || times > MOST_PAIRS || seed < 0 || what < 0 || what > 2) {
            return OUTSIDE;
        }
        if (!hasForm()) {
            return STATE;
        }
        int onQuadric = 0;
        int collinear = 0;
        int present = seed;
        for (int pair = 0; pair < times; pair++) {
            present = nextSeed(present);
            int one = mod(present / 65536, quadric.total);
            present = nextSeed(present);
            int other = mod(present / 65536, quadric.total);
            onQuadric += (quadric.isOn(one) ? 1 : 0) + (quadric.isOn(other) ? 1 : 0);
            collinear += quadric.areCollinear(one, other) ? 1 : 0;
        }
        if (what == 0) {
            return onQuadric;
        }
        return what == 1 ? collinear : present;
    }

    public int count(int what) {
        switch (what) {
            case 0: return pointTotal();
            case 1: return memberTotal();
            case 2: return hasFlats() ? gathered.size : 0;
            case 3: return picked.length;
            case 4: return gathered.length;
            case 5: return page.length;
            case 6: return formsRead;
            case 7: return finishCalls;
            case 8: return waysCalls;
            default: return OUTSIDE;
        }
    }

    public long digest() {
        long h = 1499;
        if (hasForm()) {
            h = digestForm(h);
        }
        if (hasFlats()) {
            h = digestFlats(h);
        }
        for (int of = 0; of <= 1; of++) {
            for (int place = 0; place < sideOf(of).length; place++) {
                h = 31 * h + entryOf(of, place);
            }
        }
        for (int place = 0; place < page.length; place++) {
            h = 31 * h + page.codes[place];
        }
        for (int what = 0; what <= 8; what++) {
            h = 31 * h + count(what);
        }
        return h;
    }

    private long digestForm(long start) {
        long h = start;
        for (int what = 0; what <= 7; what++) {
            h = 31 * h + about(what);
        }
        for (int i = 0; i < current.variables; i++) {
            for (int j = i; j < current.variables; j++) {
                h = 31 * h + current.cell(i, j);
            }
        }
        for (int point = 0; point < quadric.total; point++) {
            h = 31 * h + quadric.values[point];
        }
        return h;
    }

    private long digestFlats(long start) {
        long h = start;
        for (int degree = 1; degree <= 3; degree++) {
            h = 31 * h + known.totalOf(degree);
        }
        for (int greatest = 0; greatest < gathered.size; greatest++) {
            long rest = gathered.covers[greatest];
            for (int turn = Long.bitCount(rest); turn > 0; turn--) {
                h = 31 * h + quadric.members[lowestBit(rest)];
                rest &= rest - 1;
            }
        }
        h = 31 * h + missing(0);
        return 31 * h + missing(1);
    }

    /** Tells whether there is a form; if so, its values stand afterwards. */
    private boolean hasForm() {
        if (current.variables == 0) {
            return false;
        }
        if (!surveyed) {
            quadric.survey(current);
            surveyed = true;
        }
        return true;
    }

    /** Tells whether there is a nonsingular form; if so, its flats stand afterwards. */
    private boolean hasFlats() {
        if (!hasForm() || quadric.singularTotal > 0) {
            return false;
        }
        if (!built) {
            known.build(quadric);
            fillSides();
            built = true;
        }
        return true;
    }

    private void fillSides() {
        int degree = quadric.index();
        picked.size = Math.min(known.pointTotal, BITS);
        gathered.size = Math.min(known.totalOf(degree), BITS);
        for (int rank = 0; rank < picked.size; rank++) {
            picked.covers[rank] = 0;
        }
        for (int greatest = 0; greatest < gathered.size; greatest++) {
            long mask = known.maskOf(degree, greatest);
            gathered.covers[greatest] = mask;
            for (int rank = 0; rank < picked.size; rank++) {
                if ((mask >>> rank & 1) != 0) {
                    picked.covers[rank] |= 1L << greatest;
                }
            }
        }
        picked.findClashes(gathered);
        gathered.findClashes(picked);
    }

    /** What was derived from the form is void when the form changes, and the lists become empty. */
    private void forget() {
        surveyed = false;
        built = false;
        picked.length = 0;
        gathered.length = 0;
    }

    private boolean hasPoint(int point) {
        return hasForm() && point >= 0 && point < quadric.total;
    }

    /** Only when the flats stand. */
    private boolean isMember(int point) {
        return hasPoint(point) && quadric.ranks[point] >= 0 && quadric.ranks[point] < picked.size;
    }

    /** Only when the flats stand. */
    private boolean isGreatest(int greatest) {
        return greatest >= 0 && greatest < gathered.size;
    }

    private int pointTotal() {
        return hasForm() ? quadric.total : 0;
    }

    private int memberTotal() {
        return hasForm() ? quadric.memberTotal : 0;
    }

    private Side sideOf(int of) {
        return of == 0 ? picked : gathered;
    }

    private Search searchOf(int of) {
        return of == 0 ? ovoids : spreads;
    }

    private int entryOf(int of, int place) {
        return of == 0 ? quadric.members[picked.entries[place]] : gathered.entries[place];
    }

    private int missing(int of) {
        return sideOf(1 - of).size - Long.bitCount(sideOf(of).covered());
    }

    private static int nextSeed(int seed) {
        return (int) ((1103515245L * seed + 12345L) & 2147483647L);
    }

    private static int mod(int number, int divisor) {
        if (divisor <= 0) {
            return 0;
        }
        int rest = number % divisor;
        return rest < 0 ? rest + divisor : rest;
    }

    /** The number that gives 1 with this one; 0 for 0. Only 2 and 3 modulo 5 are not their own inverses. */
    private static int inverse(int number, int prime) {
        return prime == 5 && (number == 2 || number == 3) ? 5 - number : number;
    }

    private static int lowestBit(long mask) {
        return Long.bitCount((mask & -mask) - 1);
    }

    /** The page, and the place that a reading of it has come to. */
    private static final class Page {
        private final int[] codes = new int[PAGE_ROOM];
        private int length;
        private int prime;
        private int width;
        private int row;
        private int column;

        private void append(int code) {
            if (length < PAGE_ROOM) {
                codes[length] = code;
                length++;
            }
        }

        private int firstWrong() {
            row = 0;
            column = 0;
            for (int place = 0; place < length; place++) {
                if (!accepts(place, codes[place])) {
                    return place;
                }
            }
            return length;
        }

        private boolean isText() {
            return firstWrong() == length && row > 0 && row == width - 1 && column == 1;
        }

        private boolean accepts(int place, int code) {
            if (place == 0) {
                prime = code - '0';
                width = mostVariables();
                return width > 0;
            }
            if (place == 1) {
                return code == ':';
            }
            return code == '/' ? endsRow() : addsDigit(code - '0');
        }

        private int mostVariables() {
            switch (prime) {
                case 2: return 6;
                case 3: return 5;
                case 5: return 4;
                default: return 0;
            }
        }

        /** Until the first row ends, the width is the greatest that it can have. */
        private boolean endsRow() {
            if (row == 0 && column >= FEWEST_VARIABLES) {
                width = column;
            }
            if (column < width - row || row >= width - 1) {
                return false;
            }
            row++;
            column = 0;
            return true;
        }

        private boolean addsDigit(int digit) {
            if (digit < 0 || digit >= prime || column >= width - row) {
                return false;
            }
            column++;
            return true;
        }

        /** Only for a page that is the text of a form, right after its reading. */
        private void copyTo(Form form) {
            form.prime = prime;
            form.variables = width;
            int place = 2;
            for (int i = 0; i < width; i++) {
                for (int j = i; j < width; j++) {
                    if (place < length) {
                        form.store(i, j, codes[place] - '0');
                    }
                    place++;
                }
                place++;
            }
        }
    }

    /** A prime, a number of variables, and coefficients that stand at (i, j) and at (j, i). */
    private static final class Form {
        /** Never 0, as it divides; without variables there is no form. */
        private int prime = 2;
        private int variables;
        private final int[] cells = new int[CELLS];
        private final int[] matrix = new int[CELLS];

        private boolean hasVariable(int i) {
            return i >= 0 && i < variables;
        }

        private int cell(int i, int j) {
            return cells[i * MOST_VARIABLES + j];
        }

        private void store(int i, int j, int number) {
            int rest = mod(number, prime);
            cells[i * MOST_VARIABLES + j] = rest;
            cells[j * MOST_VARIABLES + i] = rest;
        }

        private void copyFrom(Form other) {
            prime = other.prime;
            variables = other.variables;
            System.arraycopy(other.cells, 0, cells, 0, CELLS);
        }

        private void exchange(int i, int j) {
            for (int k = 0; k < variables; k++) {
                if (k != i && k != j) {
                    int was = cell(i, k);
                    store(i, k, cell(j, k));
                    store(j, k, was);
                }
            }
            int was = cell(i, i);
            store(i, i, cell(j, j));
            store(j, j, was);
        }

        /** Puts x(i) + c * x(j) in place of x(i). */
        private void shear(int i, int j, int c) {
            store(j, j, cell(j, j) + c * cell(i, j) + c * c * cell(i, i));
            for (int k = 0; k < variables; k++) {
                if (k != i && k != j) {
                    store(j, k, cell(j, k) + c * cell(i, k));
                }
            }
            store(i, j, cell(i, j) + 2 * c * cell(i, i));
        }

        /** Puts c * x(i) in place of x(i). */
        private void stretch(int i, int c) {
            for (int k = 0; k < variables; k++) {
                store(i, k, (k == i ? c * c : c) * cell(i, k));
            }
        }

        private void multiply(int c) {
            for (int i = 0; i < variables; i++) {
                for (int j = i; j < variables; j++) {
                    store(i, j, c * cell(i, j));
                }
            }
        }

        private int discriminant() {
            if (prime == 2) {
                return 0;
            }
            int determinant = determinant();
            if (determinant == 0) {
                return 0;
            }
            for (int root = 1; root < prime; root++) {
                if (mod(root * root, prime) == determinant) {
                    return 1;
                }
            }
            return -1;
        }

        private int determinant() {
            for (int i = 0; i < variables; i++) {
                for (int j = 0; j < variables; j++) {
                    int factor = i == j ? 2 : 1;
                    matrix[i * MOST_VARIABLES + j] = mod(factor * cell(i, j), prime);
                }
            }
            int product = 1;
            for (int step = 0; step < variables; step++) {
                int pivot = pivotRow(step);
                if (pivot == NONE) {
                    return 0;
                }
                if (pivot != step) {
                    exchangeRows(step, pivot);
                    product = -product;
                }
                product = mod(product * matrix[step * MOST_VARIABLES + step], prime);
                clearBelow(step);
            }
            return product;
        }

        private int pivotRow(int step) {
            for (int i = step; i < variables; i++) {
                if (matrix[i * MOST_VARIABLES + step] != 0) {
                    return i;
                }
            }
            return NONE;
        }

        private void exchangeRows(int one, int other) {
            for (int j = 0; j < variables; j++) {
                int was = matrix[one * MOST_VARIABLES + j];
                matrix[one * MOST_VARIABLES + j] = matrix[other * MOST_VARIABLES + j];
                matrix[other * MOST_VARIABLES + j] = was;
            }
        }

        private void clearBelow(int step) {
            int base = step * MOST_VARIABLES;
            int divided = inverse(matrix[base + step], prime);
            for (int i = step + 1; i < variables; i++) {
                int row = i * MOST_VARIABLES;
                int factor = matrix[row + step] * divided;
                for (int j = step; j < variables; j++) {
                    matrix[row + j] = mod(matrix[row + j] - factor * matrix[base + j], prime);
                }
            }
        }
    }

    /** The points of a form's space, with the values there; the members are the points on the quadric. */
    private static final class Quadric {
        private int prime = 2;
        private int variables;
        private int total;
        private final int[] numbers = new int[NUMBERS];
        /** At each point, the polar values with the unit vectors. */
        private final int[] normals = new int[NUMBERS];
        private final int[] values = new int[MOST_POINTS];
        private final int[] members = new int[MOST_POINTS];
        /** The place of a point among the members, or NONE. */
        private final int[] ranks = new int[MOST_POINTS];
        private int memberTotal;
        private int singularTotal;
        private final int[] vector = new int[MOST_VARIABLES];

        private void layPoints(Form form) {
            if (form.prime == prime && form.variables == variables) {
                return;
            }
            prime = form.prime;
            variables = form.variables;
            int sum = 0;
            for (int i = 0; i < variables; i++) {
                sum = sum * prime + 1;
            }
            total = Math.min(sum, MOST_POINTS);
            for (int point = 0; point < total; point++) {
                layPoint(point);
            }
        }

        /** From the last number backwards, so that the numbering of vectorPoint() is undone. */
        private void layPoint(int point) {
            int rest = point;
            boolean led = false;
            for (int i = variables - 1; i >= 0; i--) {
                int number = led ? 0 : 1;
                if (rest > 0) {
                    number = mod(rest - 1, prime);
                    rest = prime > 0 ? (rest - 1) / prime : 0;
                } else {
                    led = true;
                }
                numbers[point * MOST_VARIABLES + i] = number;
            }
        }

        /**
         * The point of the vector, NONE if it is 0. Before the points with m numbers behind the leading 1
         * there are 1 + P + .. + P^(m - 1) others: therefore each of these numbers counts as one more.
         */
        private int vectorPoint() {
            int factor = 0;
            int point = 0;
            for (int i = 0; i < variables; i++) {
                if (factor == 0) {
                    factor = inverse(vector[i], prime);
                } else {
                    point = point * prime + mod(factor * vector[i], prime) + 1;
                }
            }
            return factor == 0 ? NONE : point;
        }

        private void survey(Form form) {
            memberTotal = 0;
            singularTotal = 0;
            for (int point = 0; point < total; point++) {
                values[point] = measure(form, point);
                ranks[point] = NONE;
                if (values[point] == 0) {
                    ranks[point] = memberTotal;
                    members[memberTotal] = point;
                    memberTotal++;
                    singularTotal += isSingular(point) ? 1 : 0;
                }
            }
        }

        /** Sets the normal of a point and returns the value there. */
        private int measure(Form form, int point) {
            int base = point * MOST_VARIABLES;
            int twice = 0;
            for (int i = 0; i < variables; i++) {
                int normal = form.cell(i, i) * numbers[base + i];
                for (int j = 0; j < variables; j++) {
                    normal += form.cell(i, j) * numbers[base + j];
                }
                normals[base + i] = mod(normal, prime);
                twice += normal * numbers[base + i];
            }
            // exact: as numbers, not only modulo P, the sum has each product of the form twice
            return mod(twice / 2, prime);
        }

        private boolean isSingular(int member) {
            for (int i = 0; i < variables; i++) {
                if (normals[member * MOST_VARIABLES + i] != 0) {
                    return false;
                }
            }
            return true;
        }

        private boolean isOn(int point) {
            return values[point] == 0;
        }

        /** The sum of the products of a row's numbers and a point's. */
        private int product(int[] rows, int row, int point) {
            int sum = 0;
            for (int i = 0; i < variables; i++) {
                sum += rows[row * MOST_VARIABLES + i] * numbers[point * MOST_VARIABLES + i];
            }
            return mod(sum, prime);
        }

        /** The value at a * x + b * y is a * b times the polar value, if the values at x and y are 0. */
        private boolean areCollinear(int one, int other) {
            return one != other && isOn(one) && isOn(other) && product(normals, one, other) == 0;
        }

        private int sectionSize(int point) {
            int size = 0;
            for (int rank = 0; rank < memberTotal; rank++) {
                size += product(numbers, point, members[rank]) == 0 ? 1 : 0;
            }
            return size;
        }

        private int tangentPoint(int point) {
            for (int rank = 0; rank < memberTotal; rank++) {
                int base = members[rank] * MOST_VARIABLES;
                for (int i = 0; i < variables; i++) {
                    vector[i] = normals[base + i];
                }
                if (vectorPoint() == point) {
                    return members[rank];
                }
            }
            return NONE;
        }

        private int kind() {
            if (singularTotal > 0) {
                return SINGULAR_TYPE;
            }
            if (variables % 2 != 0) {
                return 0;
            }
            return isHyperbolic() ? 1 : 2;
        }

        private int index() {
            if (singularTotal > 0) {
                return NONE;
            }
            return variables % 2 != 0 || isHyperbolic() ? variables / 2 : variables / 2 - 1;
        }

        /** With an even number of variables: only then are there more members than points in a section. */
        private boolean isHyperbolic() {
            return memberTotal * prime > total - 1;
        }
    }

    /** The flats of a nonsingular form, as bits of the ranks of their points. */
    private static final class Flats {
        /** For each member those that are collinear with it, and itself. */
        private final long[] links = new long[BITS];
        private final long[] lines = new long[MOST_LINES];
        private final long[] planes = new long[MOST_PLANES];
        private int pointTotal;
        private int lineTotal;
        private int planeTotal;

        private void build(Quadric quadric) {
            pointTotal = Math.min(quadric.memberTotal, BITS);
            findLinks(quadric);
            lineTotal = 0;
            for (int rank = 0; rank < pointTotal; rank++) {
                addLines(rank);
            }
            planeTotal = 0;
            for (int line = 0; line < lineTotal; line++) {
                addPlanes(lines[line]);
            }
        }

        private void findLinks(Quadric quadric) {
            for (int one = 0; one < pointTotal; one++) {
                links[one] = 1L << one;
                for (int other = 0; other < one; other++) {
                    if (quadric.product(quadric.normals, quadric.members[one], quadric.members[other]) == 0) {
                        links[one] |= 1L << other;
                        links[other] |= 1L << one;
                    }
                }
            }
        }

        /** Adds the lines whose lowest point has this rank, ordered by their second point. */
        private void addLines(int rank) {
            long rest = links[rank] & ~(1L << rank);
            for (int other = 0; other < pointTotal; other++) {
                if ((rest >>> other & 1) != 0) {
                    long line = spanned(1L << rank | 1L << other);
                    rest &= ~line;
                    if ((line & -line) == 1L << rank && lineTotal < MOST_LINES) {
                        lines[lineTotal] = line;
                        lineTotal++;
                    }
                }
            }
        }

        /** Adds the planes whose two lowest points are those of the line, ordered by their next point. */
        private void addPlanes(long line) {
            long rest = linkedWithAll(line) & ~line;
            for (int rank = 0; rank < pointTotal; rank++) {
                if ((rest >>> rank & 1) != 0) {
                    long plane = spanned(line | 1L << rank);
                    rest &= ~plane;
                    if (lowestTwo(plane) == lowestTwo(line) && planeTotal < MOST_PLANES) {
                        planes[planeTotal] = plane;
                        planeTotal++;
                    }
                }
            }
        }

        /**
         * The smallest flat that has these points, any two of which are collinear: on a nonsingular
         * quadric no other point is linked with all points that are linked with all of these.
         */
        private long spanned(long points) {
            return linkedWithAll(linkedWithAll(points));
        }

        private long linkedWithAll(long points) {
            long common = -1;
            for (int rank = 0; rank < pointTotal; rank++) {
                if ((points >>> rank & 1) != 0) {
                    common &= links[rank];
                }
            }
            return common;
        }

        private static long lowestTwo(long mask) {
            long rest = mask & (mask - 1);
            return mask & -mask | rest & -rest;
        }

        private int totalOf(int degree) {
            switch (degree) {
                case 1: return pointTotal;
                case 2: return lineTotal;
                case 3: return planeTotal;
                default: return 0;
            }
        }

        /** Only for a flat that is there. */
        private long maskOf(int degree, int flat) {
            switch (degree) {
                case 1: return 1L << flat;
                case 2: return lines[flat];
                case 3: return planes[flat];
                default: return 0;
            }
        }
    }

    /**
     * The points or the maximal flats, and the list of some of them: each covers those of the other side
     * that it is in or that are in it.
     */
    private static final class Side {
        private int size;
        private final long[] covers = new long[BITS];
        /** For each one those that cover something that it covers, and itself. */
        private final long[] clashes = new long[BITS];
        private final int[] entries = new int[BITS];
        private int length;

        private void findClashes(Side other) {
            for (int one = 0; one < size; one++) {
                long all = 0;
                for (int covered = 0; covered < other.size; covered++) {
                    if ((covers[one] >>> covered & 1) != 0) {
                        all |= other.covers[covered];
                    }
                }
                clashes[one] = all;
            }
        }

        private boolean refuses(int one) {
            return (clashes[one] & taken()) != 0 || length >= BITS;
        }

        private void append(int one) {
            if (length < BITS) {
                entries[length] = one;
                length++;
            }
        }

        private void appendAll(long mask) {
            for (int one = 0; one < size; one++) {
                if ((mask >>> one & 1) != 0) {
                    append(one);
                }
            }
        }

        private long taken() {
            long mask = 0;
            for (int place = 0; place < length; place++) {
                mask |= 1L << entries[place];
            }
            return mask;
        }

        private long covered() {
            long mask = 0;
            for (int place = 0; place < length; place++) {
                mask |= covers[entries[place]];
            }
            return mask;
        }

        private long clashing() {
            long mask = 0;
            for (int place = 0; place < length; place++) {
                mask |= clashes[entries[place]];
            }
            return mask;
        }

        private long everything() {
            return size >= BITS ? -1L : (1L << size) - 1;
        }
    }

    /** Walks through all sets of one side that hold its list and cover each of the other side once. */
    private static final class Search {
        private final Side side;
        private final Side other;
        private int found;
        private long first;

        private Search(Side searched, Side covered) {
            side = searched;
            other = covered;
        }

        private void run() {
            found = 0;
            first = 0;
            long open = other.everything() & ~side.covered();
            long free = side.everything() & ~side.clashing();
            walk(this, open, free, side.taken(), side.length);
        }

        /** Static, as the language's rule asks of a method that calls itself. */
        private static void walk(Search search, long open, long free, long taken, int depth) {
            if (open == 0) {
                search.note(taken);
                return;
            }
            if (depth >= DEEPEST) {
                return;
            }
            Side side = search.side;
            long rest = search.fewestChoices(open, free);
            for (int turn = Long.bitCount(rest); turn > 0; turn--) {
                int one = lowestBit(rest);
                rest &= rest - 1;
                walk(search, open & ~side.covers[one], free & ~side.clashes[one], taken | 1L << one, depth + 1);
            }
        }

        /** The first of two sets is the one that has the lowest entry that is not in both. */
        private void note(long taken) {
            long differing = taken ^ first;
            if (found == 0 || (taken & differing & -differing) != 0) {
                first = taken;
            }
            found++;
        }

        /** Those that can cover the open one that the fewest can cover. */
        private long fewestChoices(long open, long free) {
            long fewest = 0;
            int least = BITS + 1;
            for (int covered = 0; covered < other.size && least > 1; covered++) {
                if ((open >>> covered & 1) != 0) {
                    long choices = other.covers[covered] & free;
                    int number = Long.bitCount(choices);
                    if (number < least) {
                        fewest = choices;
                        least = number;
                    }
                }
            }
            return fewest;
        }
    }
}

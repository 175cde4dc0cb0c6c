/**
 * A workbench for plane symmetry groups (wallpaper groups) modulo a sublattice of translations.
 *
 * <p>The face checks arguments and asks the classes inside. All rows are made in the constructors
 * and used again, because all calls of a run share one room.
 */
public final class WallpaperGroups {
    public static final int INVALID_ARGUMENT = -1;
    public static final int LIMIT_REACHED = -2;
    public static final int NOT_FOUND = -3;

    private static final int SQUARE = 0;
    private static final int HEXAGONAL = 1;
    private static final int FIRST_N = 4;
    private static final int MOST_N = 5;
    private static final int MOST_GENERATORS = 4;
    private static final int MOST_UNDOS = 4;
    private static final int MOST_COLORS = 4;
    private static final int MOST_PARTS = 12;
    private static final int MOST_CELLS = MOST_N * MOST_N;
    private static final int MOST_CODES = MOST_PARTS * MOST_CELLS;

    private static final int TRANSLATION = 0;
    private static final int ROTATION = 1;
    private static final int REFLECTION = 2;
    private static final int GLIDE = 3;
    private static final int KINDS = 4;

    private static final int P1 = 0;
    private static final int PG = 1;
    private static final int CM = 2;
    private static final int PM = 3;
    private static final int P2 = 4;
    private static final int PGG = 5;
    private static final int PMG = 6;
    private static final int CMM = 7;
    private static final int PMM = 8;
    private static final int P3 = 9;
    private static final int P31M = 10;
    private static final int P3M1 = 11;
    private static final int P4 = 12;
    private static final int P4G = 13;
    private static final int P4M = 14;
    private static final int P6 = 15;
    private static final int P6M = 16;

    private final Lattice lattice = new Lattice();
    private final Generators generators = new Generators();
    private final History history = new History();
    private final Group group = new Group(lattice, generators);
    private final Features features = new Features(lattice, group);
    private final Cells cells = new Cells(lattice, generators, group);

    public WallpaperGroups() {
        refresh();
    }

    public int setLattice(int kind, int n) {
        if (kind < SQUARE || kind > HEXAGONAL || n < 1 || n > MOST_N) {
            return INVALID_ARGUMENT;
        }
        int previous = lattice.n;
        history.save(lattice, generators);
        lattice.choose(kind, n);
        generators.clear();
        refresh();
        return previous;
    }

    public int addGenerator(int linear, int u, int v) {
        if (!lattice.hasMovement(linear, u, v)) {
            return INVALID_ARGUMENT;
        }
        if (generators.isFull()) {
            return LIMIT_REACHED;
        }
        history.save(lattice, generators);
        generators.append(lattice.codeOf(linear, u, v));
        refresh();
        return group.size();
    }

    public int removeGenerator(int index) {
        if (!generators.has(index)) {
            return INVALID_ARGUMENT;
        }
        history.save(lattice, generators);
        generators.removeAt(index);
        refresh();
        return group.size();
    }

    public int setGenerator(int index, int linear, int u, int v) {
        if (!generators.has(index) || !lattice.hasMovement(linear, u, v)) {
            return INVALID_ARGUMENT;
        }
        int previous = generators.codeAt(index);
        history.save(lattice, generators);
        generators.replace(index, lattice.codeOf(linear, u, v));
        refresh();
        return previous;
    }

    public int undo() {
        if (history.isEmpty()) {
            return NOT_FOUND;
        }
        history.restore(lattice, generators);
        refresh();
        return history.depth;
    }

    public int generator(int index) {
        if (index < 0) {
            return INVALID_ARGUMENT;
        }
        return generators.has(index) ? generators.codeAt(index) : NOT_FOUND;
    }

    public int order() {
        return group.size();
    }

    public int element(int index) {
        if (index < 0) {
            return INVALID_ARGUMENT;
        }
        return index < group.size() ? group.elementAt(index) : NOT_FOUND;
    }

    public int contains(int code) {
        if (!lattice.hasCode(code)) {
            return INVALID_ARGUMENT;
        }
        return oneIf(group.has(code));
    }

    public int product(int g, int h) {
        if (!lattice.hasCode(g) || !lattice.hasCode(h)) {
            return INVALID_ARGUMENT;
        }
        return lattice.times(g, h);
    }

    public int orderOf(int code) {
        if (!lattice.hasCode(code)) {
            return INVALID_ARGUMENT;
        }
        return lattice.factorsToIdentity(code);
    }

    public int kindOf(int code) {
        if (!lattice.hasCode(code)) {
            return INVALID_ARGUMENT;
        }
        return lattice.kindNumber(code);
    }

    public int count(int kind) {
        if (kind < 0 || kind >= KINDS) {
            return INVALID_ARGUMENT;
        }
        return features.elementsOfKind(kind);
    }

    public int isAbelian() {
        return oneIf(group.commutes());
    }

    public int conjugacyClasses() {
        return group.countConjugacyClasses();
    }

    public int linearParts() {
        return features.countParts();
    }

    public int rotationOrder() {
        return features.greatestTurnOrder();
    }

    public int mirrorDirections() {
        return features.countMirrorParts();
    }

    public int isCentered() {
        return oneIf(features.hasCentering());
    }

    public int type() {
        return features.typeNumber();
    }

    public int orbitSize(int x, int y) {
        if (!lattice.hasCell(x, y)) {
            return INVALID_ARGUMENT;
        }
        return cells.sizeOfOrbit(lattice.cellOf(x, y));
    }

    public int orbitFirst(int x, int y) {
        if (!lattice.hasCell(x, y)) {
            return INVALID_ARGUMENT;
        }
        return cells.leastOfOrbit(lattice.cellOf(x, y));
    }

    public int stabilizerOrder(int x, int y) {
        if (!lattice.hasCell(x, y)) {
            return INVALID_ARGUMENT;
        }
        return cells.sizeOfStabilizer(lattice.cellOf(x, y));
    }

    public int orbitCount() {
        return cells.orbits();
    }

    public int isSymmorphic() {
        return oneIf(cells.hasStabilizerOf(features.countParts()));
    }

    public long invariantColorings(int colors) {
        if (colors < 1 || colors > MOST_COLORS) {
            return INVALID_ARGUMENT;
        }
        return power(colors, cells.orbits());
    }

    public long coloringClasses(int colors) {
        if (colors < 1 || colors > MOST_COLORS) {
            return INVALID_ARGUMENT;
        }
        return cells.countColoringClasses(colors);
    }

    private void refresh() {
        group.rebuild();
        features.survey();
        cells.findOrbits();
    }

    private static int oneIf(boolean condition) {
        return condition ? 1 : 0;
    }

    private static int quotient(int value, int divisor) {
        return divisor > 0 ? value / divisor : 0;
    }

    /** Counts upwards from 0 for negative values too. */
    private static int remainder(int value, int divisor) {
        int rest = divisor > 0 ? value % divisor : 0;
        return rest < 0 ? rest + divisor : rest;
    }

    private static boolean isInside(int index, int length) {
        return index >= 0 && index < length;
    }

    private static void clearMarks(boolean[] marks) {
        for (int i = 0; i < marks.length; i++) {
            marks[i] = false;
        }
    }

    private static int countMarks(boolean[] marks) {
        int marked = 0;
        for (int i = 0; i < marks.length; i++) {
            if (marks[i]) {
                marked++;
            }
        }
        return marked;
    }

    private static long power(int base, int exponent) {
        long result = 1;
        for (int i = 0; i < exponent; i++) {
            result *= base;
        }
        return result;
    }

    /** The lattice in use, and how its movements are numbered, multiplied and told apart. */
    private static final class Lattice {
        // The rows a, b, c, d of the linear parts r^0, r^1, ..., then r^0 f, r^1 f, ...
        private static final int[] SQUARE_PARTS = {
            1, 0, 0, 1,
            0, -1, 1, 0,
            -1, 0, 0, -1,
            0, 1, -1, 0,
            1, 0, 0, -1,
            0, 1, 1, 0,
            -1, 0, 0, 1,
            0, -1, -1, 0,
        };
        private static final int[] HEXAGONAL_PARTS = {
            1, 0, 0, 1,
            0, -1, 1, 1,
            -1, -1, 1, 0,
            -1, 0, 0, -1,
            0, 1, -1, -1,
            1, 1, -1, 0,
            0, 1, 1, 0,
            -1, 0, 1, 1,
            -1, -1, 0, 1,
            0, -1, -1, 0,
            1, 0, -1, -1,
            1, 1, 0, -1,
        };

        int kind = SQUARE;
        int n = FIRST_N;

        void choose(int newKind, int newN) {
            kind = newKind;
            n = newN;
        }

        /** How many linear parts have determinant 1; as many have determinant -1. */
        int turns() {
            return kind == HEXAGONAL ? 6 : 4;
        }

        int parts() {
            return 2 * turns();
        }

        int cellCount() {
            return n * n;
        }

        int codes() {
            return parts() * cellCount();
        }

        boolean hasCell(int x, int y) {
            return isInside(x, n) && isInside(y, n);
        }

        boolean hasMovement(int part, int u, int v) {
            return isInside(part, parts()) && hasCell(u, v);
        }

        boolean hasCode(int code) {
            return isInside(code, codes());
        }

        int cellOf(int x, int y) {
            return n * x + y;
        }

        int codeOf(int part, int u, int v) {
            return part * cellCount() + cellOf(u, v);
        }

        int partOf(int code) {
            return quotient(code, cellCount());
        }

        int shiftX(int code) {
            return quotient(remainder(code, cellCount()), n);
        }

        int shiftY(int code) {
            return remainder(code, n);
        }

        int wrap(int coordinate) {
            return remainder(coordinate, n);
        }

        /** The number at a place (0 to 3 for a to d) of a linear part. */
        int entry(int part, int place) {
            int[] rows = kind == HEXAGONAL ? HEXAGONAL_PARTS : SQUARE_PARTS;
            int index = 4 * part + place;
            return isInside(index, rows.length) ? rows[index] : 0;
        }

        int imageX(int part, int x, int y) {
            return entry(part, 0) * x + entry(part, 1) * y;
        }

        int imageY(int part, int x, int y) {
            return entry(part, 2) * x + entry(part, 3) * y;
        }

        int imageOfCell(int code, int cell) {
            int part = partOf(code);
            int x = quotient(cell, n);
            int y = remainder(cell, n);
            return cellOf(wrap(imageX(part, x, y) + shiftX(code)), wrap(imageY(part, x, y) + shiftY(code)));
        }

        int times(int g, int h) {
            int part = partOf(g);
            int u = wrap(imageX(part, shiftX(h), shiftY(h)) + shiftX(g));
            int v = wrap(imageY(part, shiftX(h), shiftY(h)) + shiftY(g));
            return codeOf(timesPart(part, partOf(h)), u, v);
        }

        /** Needs no matrices, since f r = r^-1 f in both lattices. */
        private int timesPart(int left, int right) {
            int turns = turns();
            boolean leftFlips = left >= turns;
            boolean rightFlips = right >= turns;
            int turn = remainder(leftFlips ? left - right : left + right, turns);
            return leftFlips == rightFlips ? turn : turns + turn;
        }

        int inverseOf(int g) {
            int part = inversePart(partOf(g));
            int u = wrap(-imageX(part, shiftX(g), shiftY(g)));
            int v = wrap(-imageY(part, shiftX(g), shiftY(g)));
            return codeOf(part, u, v);
        }

        private int inversePart(int part) {
            return part < turns() ? remainder(-part, turns()) : part;
        }

        int factorsToIdentity(int code) {
            int factors = 1;
            int product = code;
            while (product != 0 && factors < MOST_CODES) {
                product = times(product, code);
                factors++;
            }
            return factors;
        }

        int turnOrder(int part) {
            int factors = 1;
            while (factors < MOST_PARTS && remainder(factors * part, turns()) != 0) {
                factors++;
            }
            return factors;
        }

        int kindNumber(int code) {
            int part = partOf(code);
            if (part == 0) {
                return TRANSLATION;
            }
            if (part < turns()) {
                return ROTATION;
            }
            return isReflection(code) ? REFLECTION : GLIDE;
        }

        /**
         * The rows of 1 + M are multiples of one row (a, b) without a common factor. So w + M w = 0
         * says that a (u + p N) + b (v + q N) = 0, and as a p + b q takes every value, p and q are
         * to be had just when N divides a u + b v.
         */
        private boolean isReflection(int code) {
            int part = partOf(code);
            int a = 1 + entry(part, 0);
            int b = entry(part, 1);
            if (a == 0 && b == 0) {
                a = entry(part, 2);
                b = 1 + entry(part, 3);
            }
            // No entry of 1 + M is beyond 2, so 2 is the only common factor there can be.
            if (a % 2 == 0 && b % 2 == 0) {
                a = a / 2;
                b = b / 2;
            }
            return wrap(a * shiftX(code) + b * shiftY(code)) == 0;
        }
    }

    /** The codes of the generators, in their order. */
    private static final class Generators {
        private final int[] codes = new int[MOST_GENERATORS];
        int size;

        boolean has(int index) {
            return isInside(index, size);
        }

        boolean isFull() {
            return size >= MOST_GENERATORS;
        }

        int codeAt(int index) {
            return isInside(index, MOST_GENERATORS) ? codes[index] : 0;
        }

        void replace(int index, int code) {
            if (isInside(index, MOST_GENERATORS)) {
                codes[index] = code;
            }
        }

        void append(int code) {
            if (!isFull()) {
                replace(size, code);
                size++;
            }
        }

        void removeAt(int index) {
            if (!has(index)) {
                return;
            }
            for (int i = index; i < size - 1; i++) {
                replace(i, codeAt(i + 1));
            }
            size--;
        }

        void clear() {
            size = 0;
        }
    }

    /** What stood before the latest edits: a row for each, the oldest first. */
    private static final class History {
        private static final int GENERATORS_AT = 3;
        private static final int ROW_LENGTH = GENERATORS_AT + MOST_GENERATORS;

        private final int[][] rows = new int[MOST_UNDOS][ROW_LENGTH];
        int depth;

        boolean isEmpty() {
            return depth <= 0;
        }

        void save(Lattice lattice, Generators generators) {
            if (depth >= MOST_UNDOS) {
                forgetOldest();
            }
            if (isInside(depth, MOST_UNDOS)) {
                write(rows[depth], lattice, generators);
                depth++;
            }
        }

        void restore(Lattice lattice, Generators generators) {
            if (isInside(depth - 1, MOST_UNDOS)) {
                depth--;
                read(rows[depth], lattice, generators);
            }
        }

        private void forgetOldest() {
            for (int i = 1; i < MOST_UNDOS; i++) {
                for (int place = 0; place < ROW_LENGTH; place++) {
                    rows[i - 1][place] = rows[i][place];
                }
            }
            depth = MOST_UNDOS - 1;
        }

        private static void write(int[] row, Lattice lattice, Generators generators) {
            if (row.length < ROW_LENGTH) {
                return;
            }
            row[0] = lattice.kind;
            row[1] = lattice.n;
            row[2] = generators.size;
            for (int i = 0; i < MOST_GENERATORS; i++) {
                row[GENERATORS_AT + i] = generators.codeAt(i);
            }
        }

        private static void read(int[] row, Lattice lattice, Generators generators) {
            if (row.length < ROW_LENGTH) {
                return;
            }
            lattice.choose(row[0], row[1]);
            generators.size = row[2];
            for (int i = 0; i < MOST_GENERATORS; i++) {
                generators.replace(i, row[GENERATORS_AT + i]);
            }
        }
    }

    /** The elements of the group, and how they commute. */
    private static final class Group {
        private final Lattice lattice;
        private final Generators generators;
        private final boolean[] members = new boolean[MOST_CODES];
        private final int[] elements = new int[MOST_CODES];
        private final boolean[] classified = new boolean[MOST_CODES];
        private final int[] waiting = new int[MOST_CODES];
        private int elementCount;
        private int waitingCount;

        Group(Lattice lattice, Generators generators) {
            this.lattice = lattice;
            this.generators = generators;
        }

        int size() {
            return elementCount;
        }

        int elementAt(int index) {
            return isInside(index, MOST_CODES) ? elements[index] : 0;
        }

        boolean has(int code) {
            return isInside(code, MOST_CODES) && members[code];
        }

        boolean hasTranslation(int x, int y) {
            return has(lattice.codeOf(0, lattice.wrap(x), lattice.wrap(y)));
        }

        /** Inverses come by themselves, because powers of a generator come back to code 0. */
        void rebuild() {
            clearMarks(members);
            elementCount = 0;
            admit(0);
            for (int i = 0; i < elementCount && i < MOST_CODES; i++) {
                for (int j = 0; j < generators.size; j++) {
                    admit(lattice.times(elements[i], generators.codeAt(j)));
                }
            }
            listByCode();
        }

        private void admit(int code) {
            if (isInside(code, MOST_CODES) && !members[code] && isInside(elementCount, MOST_CODES)) {
                members[code] = true;
                elements[elementCount] = code;
                elementCount++;
            }
        }

        private void listByCode() {
            int listed = 0;
            for (int code = 0; code < MOST_CODES && listed < MOST_CODES; code++) {
                if (members[code]) {
                    elements[listed] = code;
                    listed++;
                }
            }
        }

        /** A group commutes as soon as its generators do. */
        boolean commutes() {
            for (int i = 0; i < generators.size; i++) {
                for (int j = 0; j < i; j++) {
                    int g = generators.codeAt(i);
                    int h = generators.codeAt(j);
                    if (lattice.times(g, h) != lattice.times(h, g)) {
                        return false;
                    }
                }
            }
            return true;
        }

        int countConjugacyClasses() {
            clearMarks(classified);
            int classes = 0;
            for (int i = 0; i < elementCount && i < MOST_CODES; i++) {
                int code = elements[i];
                if (isInside(code, MOST_CODES) && !classified[code]) {
                    classes++;
                    classify(code);
                }
            }
            return classes;
        }

        /** Conjugating by generators alone, again and again, reaches the whole class. */
        private void classify(int code) {
            waitingCount = 0;
            admitToClass(code);
            for (int i = 0; i < waitingCount && i < MOST_CODES; i++) {
                for (int j = 0; j < generators.size; j++) {
                    int k = generators.codeAt(j);
                    admitToClass(lattice.times(lattice.times(k, waiting[i]), lattice.inverseOf(k)));
                }
            }
        }

        private void admitToClass(int code) {
            if (isInside(code, MOST_CODES) && !classified[code] && isInside(waitingCount, MOST_CODES)) {
                classified[code] = true;
                waiting[waitingCount] = code;
                waitingCount++;
            }
        }
    }

    /** What the type of the group depends on. */
    private static final class Features {
        private final Lattice lattice;
        private final Group group;
        private final boolean[] occurring = new boolean[MOST_PARTS];
        private final boolean[] mirrors = new boolean[MOST_PARTS];
        private final int[] kindCounts = new int[KINDS];

        Features(Lattice lattice, Group group) {
            this.lattice = lattice;
            this.group = group;
        }

        void survey() {
            clearMarks(occurring);
            clearMarks(mirrors);
            for (int kind = 0; kind < KINDS; kind++) {
                kindCounts[kind] = 0;
            }
            for (int i = 0; i < group.size(); i++) {
                note(group.elementAt(i));
            }
        }

        private void note(int code) {
            int part = lattice.partOf(code);
            int kind = lattice.kindNumber(code);
            if (isInside(part, MOST_PARTS) && isInside(kind, KINDS)) {
                occurring[part] = true;
                mirrors[part] = mirrors[part] || kind == REFLECTION;
                kindCounts[kind]++;
            }
        }

        int elementsOfKind(int kind) {
            return isInside(kind, KINDS) ? kindCounts[kind] : 0;
        }

        int countParts() {
            return countMarks(occurring);
        }

        int countMirrorParts() {
            return countMarks(mirrors);
        }

        int greatestTurnOrder() {
            int greatest = 1;
            for (int part = 0; part < lattice.turns(); part++) {
                if (occurs(part)) {
                    greatest = Math.max(greatest, lattice.turnOrder(part));
                }
            }
            return greatest;
        }

        private boolean occurs(int part) {
            return isInside(part, MOST_PARTS) && occurring[part];
        }

        private boolean hasReversal() {
            for (int part = lattice.turns(); part < lattice.parts(); part++) {
                if (occurs(part)) {
                    return true;
                }
            }
            return false;
        }

        boolean hasCentering() {
            for (int part = 0; part < MOST_PARTS; part++) {
                if (mirrors[part] && !keepsHalfSums(part)) {
                    return true;
                }
            }
            return false;
        }

        /**
         * The vectors w with (w + M w) / 2 in the translation lattice are closed under addition, so
         * it is enough to try vectors that span the translation lattice.
         */
        private boolean keepsHalfSums(int part) {
            if (!keepsHalfSum(part, lattice.n, 0) || !keepsHalfSum(part, 0, lattice.n)) {
                return false;
            }
            for (int u = 0; u < lattice.n; u++) {
                for (int v = 0; v < lattice.n; v++) {
                    if (group.hasTranslation(u, v) && !keepsHalfSum(part, u, v)) {
                        return false;
                    }
                }
            }
            return true;
        }

        private boolean keepsHalfSum(int part, int x, int y) {
            int sumX = x + lattice.imageX(part, x, y);
            int sumY = y + lattice.imageY(part, x, y);
            return sumX % 2 == 0 && sumY % 2 == 0 && group.hasTranslation(sumX / 2, sumY / 2);
        }

        int typeNumber() {
            int mirrorParts = countMirrorParts();
            boolean centered = hasCentering();
            switch (greatestTurnOrder()) {
                case 1:
                    return typeWithoutTurns(mirrorParts, centered);
                case 2:
                    return typeWithHalfTurns(mirrorParts, centered);
                case 3:
                    return typeWithThirdTurns();
                case 4:
                    return typeWithQuarterTurns(mirrorParts);
                default:
                    return hasReversal() ? P6M : P6;
            }
        }

        private int typeWithoutTurns(int mirrorParts, boolean centered) {
            if (!hasReversal()) {
                return P1;
            }
            if (mirrorParts == 0) {
                return PG;
            }
            return centered ? CM : PM;
        }

        private int typeWithHalfTurns(int mirrorParts, boolean centered) {
            if (!hasReversal()) {
                return P2;
            }
            if (mirrorParts == 0) {
                return PGG;
            }
            if (mirrorParts == 1) {
                return PMG;
            }
            return centered ? CMM : PMM;
        }

        private int typeWithThirdTurns() {
            if (!hasReversal()) {
                return P3;
            }
            return fixesShortestVector() ? P31M : P3M1;
        }

        private int typeWithQuarterTurns(int mirrorParts) {
            if (!hasReversal()) {
                return P4;
            }
            return mirrorParts < 4 ? P4G : P4M;
        }

        /**
         * As (N, 0) is a translation, the shortest ones have no squared length beyond N * N, and so,
         * for N up to 5, no coordinate beyond N.
         */
        private boolean fixesShortestVector() {
            int n = lattice.n;
            int least = leastSquaredLength();
            for (int x = -n; x <= n; x++) {
                for (int y = -n; y <= n; y++) {
                    if (squaredLength(x, y) == least && group.hasTranslation(x, y) && isFixedByReversal(x, y)) {
                        return true;
                    }
                }
            }
            return false;
        }

        private int leastSquaredLength() {
            int n = lattice.n;
            int least = squaredLength(n, 0);
            for (int x = -n; x <= n; x++) {
                for (int y = -n; y <= n; y++) {
                    int length = squaredLength(x, y);
                    if (length > 0 && length < least && group.hasTranslation(x, y)) {
                        least = length;
                    }
                }
            }
            return least;
        }

        /** Of the hexagonal lattice, because turns of order 3 occur in no other. */
        private static int squaredLength(int x, int y) {
            return x * x + x * y + y * y;
        }

        private boolean isFixedByReversal(int x, int y) {
            for (int part = lattice.turns(); part < lattice.parts(); part++) {
                if (occurs(part) && lattice.imageX(part, x, y) == x && lattice.imageY(part, x, y) == y) {
                    return true;
                }
            }
            return false;
        }
    }

    /** The cells, numbered N x + y, under the group. */
    private static final class Cells {
        private final Lattice lattice;
        private final Generators generators;
        private final Group group;
        private final int[] leasts = new int[MOST_CELLS];
        private final int[] sizes = new int[MOST_CELLS];
        private final boolean[] reached = new boolean[MOST_CELLS];
        private final int[] waiting = new int[MOST_CELLS];
        private final int[] images = new int[MOST_CELLS];
        private int waitingCount;
        private int orbitTotal;

        Cells(Lattice lattice, Generators generators, Group group) {
            this.lattice = lattice;
            this.generators = generators;
            this.group = group;
        }

        void findOrbits() {
            clearMarks(reached);
            orbitTotal = 0;
            for (int cell = 0; cell < lattice.cellCount() && cell < MOST_CELLS; cell++) {
                if (!reached[cell]) {
                    orbitTotal++;
                    findOrbit(cell);
                }
            }
        }

        /** Generators alone, again and again, reach the whole orbit. */
        private void findOrbit(int least) {
            waitingCount = 0;
            reach(least);
            for (int i = 0; i < waitingCount && i < MOST_CELLS; i++) {
                for (int j = 0; j < generators.size; j++) {
                    reach(lattice.imageOfCell(generators.codeAt(j), waiting[i]));
                }
            }
            for (int i = 0; i < waitingCount && i < MOST_CELLS; i++) {
                int cell = waiting[i];
                if (isInside(cell, MOST_CELLS)) {
                    leasts[cell] = least;
                    sizes[cell] = waitingCount;
                }
            }
        }

        private void reach(int cell) {
            if (isInside(cell, MOST_CELLS) && !reached[cell] && isInside(waitingCount, MOST_CELLS)) {
                reached[cell] = true;
                waiting[waitingCount] = cell;
                waitingCount++;
            }
        }

        int orbits() {
            return orbitTotal;
        }

        int leastOfOrbit(int cell) {
            return isInside(cell, MOST_CELLS) ? leasts[cell] : 0;
        }

        int sizeOfOrbit(int cell) {
            return isInside(cell, MOST_CELLS) ? sizes[cell] : 0;
        }

        /** Equally many elements send a cell to each cell of its orbit, itself among them. */
        int sizeOfStabilizer(int cell) {
            return quotient(group.size(), sizeOfOrbit(cell));
        }

        boolean hasStabilizerOf(int size) {
            for (int cell = 0; cell < lattice.cellCount(); cell++) {
                if (sizeOfStabilizer(cell) == size) {
                    return true;
                }
            }
            return false;
        }

        /** Burnside: there are as many classes as an element fixes colorings on the average. */
        long countColoringClasses(int colors) {
            int elements = group.size();
            long fixed = 0;
            for (int i = 0; i < elements; i++) {
                fixed += power(colors, countCycles(group.elementAt(i)));
            }
            return elements > 0 ? fixed / elements : 0;
        }

        private int countCycles(int code) {
            fillImages(code);
            clearMarks(reached);
            int cycles = 0;
            for (int cell = 0; cell < lattice.cellCount() && cell < MOST_CELLS; cell++) {
                if (!reached[cell]) {
                    cycles++;
                    walkCycle(cell);
                }
            }
            return cycles;
        }

        private void walkCycle(int start) {
            int cell = start;
            for (int steps = 0; steps < MOST_CELLS; steps++) {
                if (!isInside(cell, MOST_CELLS) || reached[cell]) {
                    return;
                }
                reached[cell] = true;
                cell = images[cell];
            }
        }

        /** One pass with the matrix in hand: this is the dearest work of all calls. */
        private void fillImages(int code) {
            int part = lattice.partOf(code);
            int a = lattice.entry(part, 0);
            int b = lattice.entry(part, 1);
            int c = lattice.entry(part, 2);
            int d = lattice.entry(part, 3);
            int u = lattice.shiftX(code);
            int v = lattice.shiftY(code);
            int cell = 0;
            for (int x = 0; x < lattice.n; x++) {
                for (int y = 0; y < lattice.n && cell < MOST_CELLS; y++) {
                    images[cell] = lattice.cellOf(lattice.wrap(a * x + b * y + u), lattice.wrap(c * x + d * y + v));
                    cell++;
                }
            }
        }
    }
}

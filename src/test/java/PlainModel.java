import java.util.ArrayDeque;
import java.util.ArrayList;
import java.util.Arrays;
import java.util.HashSet;
import java.util.List;
import java.util.Set;
import java.util.TreeSet;

/**
 * The document word for word, without a thought for speed: matrices are multiplied, whole numbers
 * p and q are tried out, classes are found with every element. It shares nothing with the class.
 */
final class PlainModel {
    private static final int[] IDENTITY = {1, 0, 0, 1};

    private int kind;
    private int n = 4;
    private List<Integer> generators = new ArrayList<>();
    private final ArrayDeque<Saved> history = new ArrayDeque<>();
    private int[][] parts;
    private int[] elements;
    private final long[] coloringClasses = new long[5];
    private int conjugacyClasses;

    private record Saved(int kind, int n, List<Integer> generators) { }

    PlainModel() {
        refresh();
    }

    // ---- lattice and generators

    int setLattice(int newKind, int newN) {
        if (newKind < 0 || newKind > 1 || newN < 1 || newN > 5) {
            return -1;
        }
        int previous = n;
        save();
        kind = newKind;
        n = newN;
        generators = new ArrayList<>();
        refresh();
        return previous;
    }

    int addGenerator(int linear, int u, int v) {
        if (isNoMovement(linear, u, v)) {
            return -1;
        }
        if (generators.size() == 4) {
            return -2;
        }
        save();
        generators.add(linear * n * n + u * n + v);
        refresh();
        return elements.length;
    }

    int removeGenerator(int index) {
        if (index < 0 || index >= generators.size()) {
            return -1;
        }
        save();
        generators.remove(index);
        refresh();
        return elements.length;
    }

    int setGenerator(int index, int linear, int u, int v) {
        if (index < 0 || index >= generators.size() || isNoMovement(linear, u, v)) {
            return -1;
        }
        save();
        int previous = generators.set(index, linear * n * n + u * n + v);
        refresh();
        return previous;
    }

    int undo() {
        if (history.isEmpty()) {
            return -3;
        }
        Saved saved = history.removeLast();
        kind = saved.kind();
        n = saved.n();
        generators = new ArrayList<>(saved.generators());
        refresh();
        return history.size();
    }

    int generator(int index) {
        return index < 0 ? -1 : index < generators.size() ? generators.get(index) : -3;
    }

    private boolean isNoMovement(int linear, int u, int v) {
        return linear < 0 || linear >= parts.length || u < 0 || u >= n || v < 0 || v >= n;
    }

    private void save() {
        history.addLast(new Saved(kind, n, new ArrayList<>(generators)));
        if (history.size() > 4) {
            history.removeFirst();
        }
    }

    private void refresh() {
        parts = makeParts(kind);
        elements = makeElements();
        Arrays.fill(coloringClasses, 0);
        conjugacyClasses = 0;
    }

    private static int[][] makeParts(int kind) {
        int turns = kind == 0 ? 4 : 6;
        int[] r = kind == 0 ? new int[] {0, -1, 1, 0} : new int[] {0, -1, 1, 1};
        int[] f = kind == 0 ? new int[] {1, 0, 0, -1} : new int[] {0, 1, 1, 0};
        int[][] made = new int[2 * turns][];
        int[] turn = IDENTITY;
        for (int k = 0; k < turns; k++) {
            made[k] = turn;
            made[turns + k] = multiply(turn, f);
            turn = multiply(turn, r);
        }
        return made;
    }

    private static int[] multiply(int[] a, int[] b) {
        return new int[] {
            a[0] * b[0] + a[1] * b[2], a[0] * b[1] + a[1] * b[3],
            a[2] * b[0] + a[3] * b[2], a[2] * b[1] + a[3] * b[3]};
    }

    private static int determinant(int[] m) {
        return m[0] * m[3] - m[1] * m[2];
    }

    private static int[] send(int[] m, int x, int y) {
        return new int[] {m[0] * x + m[1] * y, m[2] * x + m[3] * y};
    }

    private int numberOf(int[] matrix) {
        for (int k = 0; k < parts.length; k++) {
            if (Arrays.equals(parts[k], matrix)) {
                return k;
            }
        }
        throw new IllegalStateException("no linear part");
    }

    private int[] makeElements() {
        TreeSet<Integer> found = new TreeSet<>();
        ArrayDeque<Integer> open = new ArrayDeque<>();
        found.add(0);
        open.add(0);
        while (!open.isEmpty()) {
            int h = open.remove();
            for (int g : generators) {
                int product = multiplyCodes(g, h);
                if (found.add(product)) {
                    open.add(product);
                }
            }
        }
        return found.stream().mapToInt(Integer::intValue).toArray();
    }

    // ---- elements

    private int linear(int code) {
        return code / (n * n);
    }

    private int[] matrix(int code) {
        return parts[linear(code)];
    }

    private int u(int code) {
        return code % (n * n) / n;
    }

    private int v(int code) {
        return code % n;
    }

    private boolean isNoCode(int code) {
        return code < 0 || code >= parts.length * n * n;
    }

    private boolean isElement(int code) {
        return Arrays.binarySearch(elements, code) >= 0;
    }

    private int multiplyCodes(int g, int h) {
        int[] t = send(matrix(g), u(h), v(h));
        int sumU = Math.floorMod(t[0] + u(g), n);
        int sumV = Math.floorMod(t[1] + v(g), n);
        return numberOf(multiply(matrix(g), matrix(h))) * n * n + sumU * n + sumV;
    }

    int order() {
        return elements.length;
    }

    int element(int index) {
        return index < 0 ? -1 : index < elements.length ? elements[index] : -3;
    }

    int contains(int code) {
        return isNoCode(code) ? -1 : isElement(code) ? 1 : 0;
    }

    int product(int g, int h) {
        return isNoCode(g) || isNoCode(h) ? -1 : multiplyCodes(g, h);
    }

    int orderOf(int code) {
        if (isNoCode(code)) {
            return -1;
        }
        int factors = 1;
        for (int power = code; power != 0; power = multiplyCodes(power, code)) {
            factors++;
        }
        return factors;
    }

    int kindOf(int code) {
        if (isNoCode(code)) {
            return -1;
        }
        if (linear(code) == 0) {
            return 0;
        }
        if (determinant(matrix(code)) == 1) {
            return 1;
        }
        for (int p = -8; p <= 8; p++) {
            for (int q = -8; q <= 8; q++) {
                int x = u(code) + p * n;
                int y = v(code) + q * n;
                int[] sent = send(matrix(code), x, y);
                if (x + sent[0] == 0 && y + sent[1] == 0) {
                    return 2;
                }
            }
        }
        return 3;
    }

    int count(int wanted) {
        if (wanted < 0 || wanted > 3) {
            return -1;
        }
        int counted = 0;
        for (int code : elements) {
            if (kindOf(code) == wanted) {
                counted++;
            }
        }
        return counted;
    }

    int isAbelian() {
        for (int g : elements) {
            for (int h : elements) {
                if (multiplyCodes(g, h) != multiplyCodes(h, g)) {
                    return 0;
                }
            }
        }
        return 1;
    }

    int conjugacyClasses() {
        if (conjugacyClasses > 0) {
            return conjugacyClasses;
        }
        Set<Integer> left = new TreeSet<>();
        for (int code : elements) {
            left.add(code);
        }
        while (!left.isEmpty()) {
            int g = left.iterator().next();
            conjugacyClasses++;
            for (int k : elements) {
                int wanted = multiplyCodes(k, g);
                for (int h : elements) {
                    if (left.contains(h) && multiplyCodes(h, k) == wanted) {
                        left.remove(h);
                    }
                }
            }
        }
        return conjugacyClasses;
    }

    // ---- type

    int linearParts() {
        Set<Integer> found = new HashSet<>();
        for (int code : elements) {
            found.add(linear(code));
        }
        return found.size();
    }

    private boolean occurs(int determinant) {
        for (int code : elements) {
            if (determinant(matrix(code)) == determinant) {
                return true;
            }
        }
        return false;
    }

    int rotationOrder() {
        int greatest = 1;
        for (int code : elements) {
            if (determinant(matrix(code)) != 1) {
                continue;
            }
            int factors = 1;
            for (int[] m = matrix(code); !Arrays.equals(m, IDENTITY); m = multiply(m, matrix(code))) {
                factors++;
            }
            greatest = Math.max(greatest, factors);
        }
        return greatest;
    }

    int mirrorDirections() {
        Set<Integer> found = new HashSet<>();
        for (int code : elements) {
            if (kindOf(code) == 2) {
                found.add(linear(code));
            }
        }
        return found.size();
    }

    private boolean isLatticeVector(int x, int y) {
        return isElement(Math.floorMod(x, n) * n + Math.floorMod(y, n));
    }

    int isCentered() {
        for (int code : elements) {
            if (kindOf(code) == 2 && centers(matrix(code))) {
                return 1;
            }
        }
        return 0;
    }

    private boolean centers(int[] m) {
        for (int x = -2 * n; x <= 2 * n; x++) {
            for (int y = -2 * n; y <= 2 * n; y++) {
                if (!isLatticeVector(x, y)) {
                    continue;
                }
                int[] sent = send(m, x, y);
                int sumX = x + sent[0];
                int sumY = y + sent[1];
                if (sumX % 2 != 0 || sumY % 2 != 0 || !isLatticeVector(sumX / 2, sumY / 2)) {
                    return true;
                }
            }
        }
        return false;
    }

    int type() {
        boolean reversal = occurs(-1);
        int d = mirrorDirections();
        boolean centered = isCentered() == 1;
        switch (rotationOrder()) {
            case 1:
                return !reversal ? 0 : d == 0 ? 1 : centered ? 2 : 3;
            case 2:
                return !reversal ? 4 : d == 0 ? 5 : d == 1 ? 6 : centered ? 7 : 8;
            case 3:
                return !reversal ? 9 : fixesShortest() ? 10 : 11;
            case 4:
                return !reversal ? 12 : d < 4 ? 13 : 14;
            default:
                return reversal ? 16 : 15;
        }
    }

    private int squaredLength(int x, int y) {
        return x * x + y * y + (kind == 1 ? x * y : 0);
    }

    private boolean fixesShortest() {
        int least = Integer.MAX_VALUE;
        boolean fixes = false;
        for (int x = -3 * n; x <= 3 * n; x++) {
            for (int y = -3 * n; y <= 3 * n; y++) {
                int length = squaredLength(x, y);
                if (length == 0 || length > least || !isLatticeVector(x, y)) {
                    continue;
                }
                fixes = isFixed(x, y) || fixes && length == least;
                least = length;
            }
        }
        return fixes;
    }

    private boolean isFixed(int x, int y) {
        for (int code : elements) {
            if (determinant(matrix(code)) == -1
                    && Arrays.equals(send(matrix(code), x, y), new int[] {x, y})) {
                return true;
            }
        }
        return false;
    }

    // ---- cells

    private int sendCell(int code, int cell) {
        int[] sent = send(matrix(code), cell / n, cell % n);
        return Math.floorMod(sent[0] + u(code), n) * n + Math.floorMod(sent[1] + v(code), n);
    }

    private boolean isNoCell(int x, int y) {
        return x < 0 || x >= n || y < 0 || y >= n;
    }

    private TreeSet<Integer> orbit(int cell) {
        TreeSet<Integer> found = new TreeSet<>();
        for (int code : elements) {
            found.add(sendCell(code, cell));
        }
        return found;
    }

    private int stabilizer(int cell) {
        int counted = 0;
        for (int code : elements) {
            if (sendCell(code, cell) == cell) {
                counted++;
            }
        }
        return counted;
    }

    int orbitSize(int x, int y) {
        return isNoCell(x, y) ? -1 : orbit(n * x + y).size();
    }

    int orbitFirst(int x, int y) {
        return isNoCell(x, y) ? -1 : orbit(n * x + y).first();
    }

    int stabilizerOrder(int x, int y) {
        return isNoCell(x, y) ? -1 : stabilizer(n * x + y);
    }

    int orbitCount() {
        Set<Set<Integer>> found = new HashSet<>();
        for (int cell = 0; cell < n * n; cell++) {
            found.add(orbit(cell));
        }
        return found.size();
    }

    int isSymmorphic() {
        for (int cell = 0; cell < n * n; cell++) {
            if (stabilizer(cell) == linearParts()) {
                return 1;
            }
        }
        return 0;
    }

    long invariantColorings(int colors) {
        if (colors < 1 || colors > 4) {
            return -1;
        }
        long product = 1;
        for (int i = orbitCount(); i > 0; i--) {
            product *= colors;
        }
        return product;
    }

    long coloringClasses(int colors) {
        if (colors < 1 || colors > 4) {
            return -1;
        }
        if (coloringClasses[colors] == 0) {
            double colorings = Math.pow(colors, n * n);
            coloringClasses[colors] = colorings <= 1000 ? classesOneByOne(colors, (int) colorings)
                    : classesByCycles(colors);
        }
        return coloringClasses[colors];
    }

    /** Takes each coloring to all that are equivalent to it, and counts those not met before. */
    private long classesOneByOne(int colors, int colorings) {
        boolean[] met = new boolean[colorings];
        int classes = 0;
        for (int coloring = 0; coloring < colorings; coloring++) {
            if (met[coloring]) {
                continue;
            }
            classes++;
            int[] digits = new int[n * n];
            for (int cell = 0, rest = coloring; cell < n * n; cell++, rest /= colors) {
                digits[cell] = rest % colors;
            }
            for (int code : elements) {
                int other = 0;
                for (int cell = n * n - 1; cell >= 0; cell--) {
                    other = other * colors + digits[sendCell(code, cell)];
                }
                met[other] = true;
            }
        }
        return classes;
    }

    private long classesByCycles(int colors) {
        long fixed = 0;
        for (int code : elements) {
            Set<Integer> seen = new HashSet<>();
            long product = 1;
            for (int cell = 0; cell < n * n; cell++) {
                if (seen.add(cell)) {
                    product *= colors;
                    for (int at = sendCell(code, cell); at != cell; at = sendCell(code, at)) {
                        seen.add(at);
                    }
                }
            }
            fixed += product;
        }
        if (fixed % elements.length != 0) {
            throw new IllegalStateException("no whole number of classes");
        }
        return fixed / elements.length;
    }

    int latticeKind() {
        return kind;
    }

    int latticeN() {
        return n;
    }

    int generatorCount() {
        return generators.size();
    }

    int codeCount() {
        return parts.length * n * n;
    }

    int partCount() {
        return parts.length;
    }
}

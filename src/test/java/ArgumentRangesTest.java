/**
 * The least and the greatest allowed value of each argument and the values next to them on the wrong
 * side, in every lattice; a title names the promise and the sentence.
 */
final class ArgumentRangesTest {
    private static final Checks CHECKS = new Checks();
    private static final int LOW = Groups.LOW;
    private static final int HIGH = Groups.HIGH;

    public static void main(String[] args) {
        latticeKind();
        latticeSize();
        latticeKindAndSize();
        rangesFollowTheLattice();
        Groups.eachLattice(ArgumentRangesTest::addedLinear);
        Groups.eachLattice(ArgumentRangesTest::addedTranslation);
        Groups.eachLattice(ArgumentRangesTest::replacingLinear);
        Groups.eachLattice(ArgumentRangesTest::replacingTranslation);
        Groups.eachLattice(ArgumentRangesTest::everyGeneratorCode);
        for (int size = 0; size <= 4; size++) {
            removedIndex(size);
            replacedIndex(size);
            generatorIndex(size);
        }
        Groups.eachLattice(ArgumentRangesTest::elementIndex);
        Groups.eachLattice(ArgumentRangesTest::containedCode);
        Groups.eachLattice(ArgumentRangesTest::factorCodes);
        Groups.eachLattice(ArgumentRangesTest::orderedCode);
        Groups.eachLattice(ArgumentRangesTest::kindCode);
        Groups.eachLattice(ArgumentRangesTest::countedKind);
        Groups.eachLattice(ArgumentRangesTest::cells);
        Groups.eachLattice(ArgumentRangesTest::invariantColors);
        Groups.eachLattice(ArgumentRangesTest::classColors);
        CHECKS.end();
    }

    // ---- edits

    private static void latticeKind() {
        CHECKS.begin("2 kind: 0 for square, 1 for hexagonal");
        for (int n = 1; n <= 5; n++) {
            WallpaperGroups x = new WallpaperGroups();
            CHECKS.due("setLattice(-1, " + n + ")", x.setLattice(-1, n), -1);
            CHECKS.due("setLattice(2, " + n + ")", x.setLattice(2, n), -1);
            CHECKS.due("setLattice(LOW, " + n + ")", x.setLattice(LOW, n), -1);
            CHECKS.due("setLattice(HIGH, " + n + ")", x.setLattice(HIGH, n), -1);
            CHECKS.due("setLattice(0, " + n + ")", x.setLattice(0, n), 4);
            CHECKS.due("the last code of the square lattice", x.contains(8 * n * n - 1), 0);
            CHECKS.due("the code behind it", x.contains(8 * n * n), -1);
            CHECKS.due("setLattice(1, " + n + ")", x.setLattice(1, n), n);
            CHECKS.due("the last code of the hexagonal lattice", x.contains(12 * n * n - 1), 0);
            CHECKS.due("the code behind it", x.contains(12 * n * n), -1);
        }
    }

    private static void latticeSize() {
        CHECKS.begin("2 n: the new N, 1 to 5; returns the previous N");
        for (int kind = 0; kind <= 1; kind++) {
            WallpaperGroups x = new WallpaperGroups();
            int previous = 4;
            for (int n = 1; n <= 5; n++) {
                CHECKS.due("setLattice(" + kind + ", 0)", x.setLattice(kind, 0), -1);
                CHECKS.due("setLattice(" + kind + ", 6)", x.setLattice(kind, 6), -1);
                CHECKS.due("setLattice(" + kind + ", -1)", x.setLattice(kind, -1), -1);
                CHECKS.due("setLattice(" + kind + ", LOW)", x.setLattice(kind, LOW), -1);
                CHECKS.due("setLattice(" + kind + ", HIGH)", x.setLattice(kind, HIGH), -1);
                CHECKS.due("setLattice(" + kind + ", " + n + ")", x.setLattice(kind, n), previous);
                CHECKS.due("cells, N = " + n, x.orbitCount(), n * n);
                previous = n;
            }
            CHECKS.due("setLattice(" + kind + ", 1)", x.setLattice(kind, 1), 5);
        }
    }

    private static void latticeKindAndSize() {
        CHECKS.begin("2 INVALID_ARGUMENT if an argument is out of range, or both");
        int[] kinds = {-1, 2, LOW, HIGH};
        int[] sizes = {0, 6, LOW, HIGH};
        WallpaperGroups x = new WallpaperGroups();
        for (int kind : kinds) {
            for (int n : sizes) {
                CHECKS.due("setLattice(" + kind + ", " + n + ")", x.setLattice(kind, n), -1);
            }
        }
        CHECKS.due("setLattice(1, 1)", x.setLattice(1, 1), 4);
    }

    private static void rangesFollowTheLattice() {
        CHECKS.begin("2, 3, 6 the ranges are those of the lattice that is set");
        WallpaperGroups x = new WallpaperGroups();
        CHECKS.due("addGenerator(8, 0, 0), square", x.addGenerator(8, 0, 0), -1);
        CHECKS.due("addGenerator(0, 4, 4), N = 4", x.addGenerator(0, 4, 4), -1);
        CHECKS.due("setLattice(1, 5)", x.setLattice(1, 5), 4);
        CHECKS.due("addGenerator(8, 0, 0), hexagonal", x.addGenerator(8, 0, 0), 2);
        CHECKS.due("setGenerator(0, 0, 4, 4), N = 5", x.setGenerator(0, 0, 4, 4), 200);
        CHECKS.due("undo()", x.undo(), 2);
        CHECKS.due("undo()", x.undo(), 1);
        CHECKS.due("undo(), the square lattice again", x.undo(), 0);
        CHECKS.due("addGenerator(8, 0, 0), square", x.addGenerator(8, 0, 0), -1);
        CHECKS.due("addGenerator(0, 4, 4), N = 4", x.addGenerator(0, 4, 4), -1);
        CHECKS.due("addGenerator(7, 3, 3)", x.addGenerator(7, 3, 3), 2);
        CHECKS.due("setLattice(0, 3)", x.setLattice(0, 3), 4);
        CHECKS.due("addGenerator(7, 3, 3), N = 3", x.addGenerator(7, 3, 3), -1);
        CHECKS.due("orbitSize(3, 3)", x.orbitSize(3, 3), -1);
    }

    private static void addedLinear(int kind, int n) {
        CHECKS.begin("3 linear: number of a linear part; " + Groups.name(kind, n));
        int last = Groups.parts(kind) - 1;
        WallpaperGroups x = Groups.made(kind, n);
        CHECKS.due("linear -1", x.addGenerator(-1, 0, 0), -1);
        CHECKS.due("linear " + (last + 1), x.addGenerator(last + 1, n - 1, n - 1), -1);
        CHECKS.due("linear LOW", x.addGenerator(LOW, 0, 0), -1);
        CHECKS.due("linear HIGH", x.addGenerator(HIGH, n - 1, n - 1), -1);
        CHECKS.due("linear 0", x.addGenerator(0, 0, 0), 1);
        CHECKS.due("linear " + last, x.addGenerator(last, 0, 0), 2);
        CHECKS.due("generator(1)", x.generator(1), last * n * n);
    }

    /** The translations (N - 1, 0) and (0, N - 1) have N multiples, as 1 and N have no common factor. */
    private static void addedTranslation(int kind, int n) {
        CHECKS.begin("3 u and v: 0 to N - 1; " + Groups.name(kind, n));
        WallpaperGroups x = Groups.made(kind, n);
        int[] wrong = {-1, n, LOW, HIGH, -n, n * n};
        int[] right = {0, n - 1};
        for (int bad : wrong) {
            for (int good : right) {
                CHECKS.due("u " + bad + ", v " + good, x.addGenerator(0, bad, good), -1);
                CHECKS.due("u " + good + ", v " + bad, x.addGenerator(0, good, bad), -1);
            }
            CHECKS.due("u and v " + bad, x.addGenerator(1, bad, bad), -1);
        }
        CHECKS.due("u 0, v 0", x.addGenerator(0, 0, 0), 1);
        CHECKS.due("u " + (n - 1) + ", v 0", x.addGenerator(0, n - 1, 0), n);
        CHECKS.due("u 0, v " + (n - 1), x.addGenerator(0, 0, n - 1), n * n);
        CHECKS.due("u and v " + (n - 1), x.addGenerator(0, n - 1, n - 1), n * n);
        CHECKS.due("generator(3)", x.generator(3), n * n - 1);
    }

    private static void replacingLinear(int kind, int n) {
        CHECKS.begin("5 linear: number of a linear part; " + Groups.name(kind, n));
        int last = Groups.parts(kind) - 1;
        WallpaperGroups x = Groups.withGenerators(2, kind, n);
        CHECKS.due("linear -1", x.setGenerator(1, -1, 0, 0), -1);
        CHECKS.due("linear " + (last + 1), x.setGenerator(1, last + 1, n - 1, n - 1), -1);
        CHECKS.due("linear LOW", x.setGenerator(1, LOW, 0, 0), -1);
        CHECKS.due("linear HIGH", x.setGenerator(1, HIGH, n - 1, n - 1), -1);
        CHECKS.due("linear " + last, x.setGenerator(1, last, n - 1, 0), n * n);
        CHECKS.due("linear 0", x.setGenerator(1, 0, n - 1, n - 1), last * n * n + (n - 1) * n);
        CHECKS.due("generator(1)", x.generator(1), n * n - 1);
        CHECKS.due("generator(0)", x.generator(0), 0);
    }

    private static void replacingTranslation(int kind, int n) {
        CHECKS.begin("5 u and v: 0 to N - 1; " + Groups.name(kind, n));
        WallpaperGroups x = Groups.withGenerators(1, kind, n);
        int[] wrong = {-1, n, LOW, HIGH, -n, n * n};
        int[] right = {0, n - 1};
        for (int bad : wrong) {
            for (int good : right) {
                CHECKS.due("u " + bad + ", v " + good, x.setGenerator(0, 0, bad, good), -1);
                CHECKS.due("u " + good + ", v " + bad, x.setGenerator(0, 0, good, bad), -1);
            }
            CHECKS.due("u and v " + bad, x.setGenerator(0, 1, bad, bad), -1);
        }
        CHECKS.due("u " + (n - 1) + ", v 0", x.setGenerator(0, 0, n - 1, 0), 0);
        CHECKS.due("u 0, v " + (n - 1), x.setGenerator(0, 0, 0, n - 1), (n - 1) * n);
        CHECKS.due("u and v " + (n - 1), x.setGenerator(0, 0, n - 1, n - 1), n - 1);
        CHECKS.due("u 0, v 0", x.setGenerator(0, 0, 0, 0), n * n - 1);
        CHECKS.due("generator(0)", x.generator(0), 0);
    }

    private static void everyGeneratorCode(int kind, int n) {
        CHECKS.begin("3, 5, 7 the code is linear * N * N + u * N + v; " + Groups.name(kind, n));
        for (int linear = 0; linear < Groups.parts(kind); linear++) {
            WallpaperGroups x = Groups.made(kind, n, 0, 0, 0);
            int previous = 0;
            for (int u = 0; u < n; u++) {
                for (int v = 0; v < n; v++) {
                    int code = linear * n * n + u * n + v;
                    CHECKS.due("the code before " + code, x.setGenerator(0, linear, u, v), previous);
                    CHECKS.due("generator(0)", x.generator(0), code);
                    CHECKS.due("generator(0) added", Groups.made(kind, n, linear, u, v).generator(0), code);
                    previous = code;
                }
            }
        }
    }

    private static void removedIndex(int size) {
        CHECKS.begin("4 index: 0-based index of a generator; of " + size);
        int[] wrong = {-1, size, size + 1, LOW, HIGH};
        for (int index : wrong) {
            WallpaperGroups x = Groups.withGenerators(size, 0, 5);
            CHECKS.due("removeGenerator(" + index + ")", x.removeGenerator(index), -1);
            CHECKS.due("the last is there", x.generator(size - 1), size == 0 ? -1 : (size - 1) * 25);
        }
        for (int index = 0; index < size; index++) {
            WallpaperGroups x = Groups.withGenerators(size, 0, 5);
            // Generator i is the turn r^i: what is left spans all turns if it holds r or r^3.
            boolean quarter = size > 1 && index != 1 || size > 3;
            int order = quarter ? 4 : size > 2 ? 2 : 1;
            CHECKS.due("removeGenerator(" + index + ")", x.removeGenerator(index), order);
            for (int i = 0; i < size - 1; i++) {
                CHECKS.due("generator(" + i + ")", x.generator(i), (i < index ? i : i + 1) * 25);
            }
            CHECKS.due("generator(" + (size - 1) + ")", x.generator(size - 1), -3);
        }
    }

    private static void replacedIndex(int size) {
        CHECKS.begin("5 index: 0-based index of a generator; of " + size);
        int[] wrong = {-1, size, size + 1, LOW, HIGH};
        for (int index : wrong) {
            WallpaperGroups x = Groups.withGenerators(size, 1, 3);
            CHECKS.due("setGenerator(" + index + ", 0, 0, 0)", x.setGenerator(index, 0, 0, 0), -1);
            CHECKS.due("no generator more", x.generator(size), -3);
        }
        for (int index = 0; index < size; index++) {
            WallpaperGroups x = Groups.withGenerators(size, 1, 3);
            CHECKS.due("setGenerator(" + index + ", 11, 2, 2)", x.setGenerator(index, 11, 2, 2), index * 9);
            for (int i = 0; i < size; i++) {
                CHECKS.due("generator(" + i + ")", x.generator(i), i == index ? 107 : i * 9);
            }
            CHECKS.due("generator(" + size + ")", x.generator(size), -3);
        }
    }

    // ---- questions

    private static void generatorIndex(int size) {
        CHECKS.begin("7 INVALID_ARGUMENT if index is negative; NOT_FOUND if there is no such generator; of " + size);
        WallpaperGroups x = Groups.withGenerators(size, 1, 4);
        CHECKS.due("generator(-1)", x.generator(-1), -1);
        CHECKS.due("generator(LOW)", x.generator(LOW), -1);
        for (int i = 0; i < size; i++) {
            CHECKS.due("generator(" + i + ")", x.generator(i), i * 16);
        }
        for (int i = size; i <= 6; i++) {
            CHECKS.due("generator(" + i + ")", x.generator(i), -3);
        }
        CHECKS.due("generator(HIGH)", x.generator(HIGH), -3);
    }

    private static void elementIndex(int kind, int n) {
        CHECKS.begin("9 INVALID_ARGUMENT if index is negative; NOT_FOUND if there is no such element; "
                + Groups.name(kind, n));
        int last = Groups.codes(kind, n) - 1;
        elementsUpTo(Groups.made(kind, n), 0, 0);
        elementsUpTo(Groups.made(kind, n, 0, 0, 1 % n), n - 1, n - 1);
        elementsUpTo(Groups.whole(kind, n), last, last);
    }

    private static void elementsUpTo(WallpaperGroups x, int lastIndex, int lastCode) {
        CHECKS.due("order()", x.order(), lastIndex + 1);
        CHECKS.due("element(-1)", x.element(-1), -1);
        CHECKS.due("element(LOW)", x.element(LOW), -1);
        CHECKS.due("element(0)", x.element(0), 0);
        CHECKS.due("element(" + lastIndex + ")", x.element(lastIndex), lastCode);
        CHECKS.due("element(" + (lastIndex + 1) + ")", x.element(lastIndex + 1), -3);
        CHECKS.due("element(300)", x.element(300), -3);
        CHECKS.due("element(HIGH)", x.element(HIGH), -3);
    }

    private static int[] wrongCodes(int kind, int n) {
        return new int[] {-1, Groups.codes(kind, n), Groups.codes(kind, n) + 1, LOW, HIGH};
    }

    private static void containedCode(int kind, int n) {
        CHECKS.begin("10 INVALID_ARGUMENT if code is the code of no movement; " + Groups.name(kind, n));
        int last = Groups.codes(kind, n) - 1;
        WallpaperGroups none = Groups.made(kind, n);
        WallpaperGroups all = Groups.whole(kind, n);
        for (int code : wrongCodes(kind, n)) {
            CHECKS.due("contains(" + code + ")", none.contains(code), -1);
            CHECKS.due("contains(" + code + ") of all", all.contains(code), -1);
        }
        CHECKS.due("contains(0)", none.contains(0), 1);
        CHECKS.due("contains(" + last + ")", none.contains(last), 0);
        CHECKS.due("contains(0) of all", all.contains(0), 1);
        CHECKS.due("contains(" + last + ") of all", all.contains(last), 1);
    }

    /** The last linear part with (N - 1, N - 1), times itself, by N = 1 to 5. */
    private static final int[] HEXAGONAL_SQUARES = {0, 2, 0, 4, 10};
    private static final int[] HEXAGONAL_ORDERS = {2, 4, 2, 8, 10};
    private static final int[] HEXAGONAL_KINDS = {2, 3, 2, 3, 3};

    private static void factorCodes(int kind, int n) {
        CHECKS.begin("11 INVALID_ARGUMENT if an argument is the code of no movement; " + Groups.name(kind, n));
        int last = Groups.codes(kind, n) - 1;
        WallpaperGroups x = Groups.made(kind, n);
        for (int wrong : wrongCodes(kind, n)) {
            CHECKS.due("product(" + wrong + ", 0)", x.product(wrong, 0), -1);
            CHECKS.due("product(0, " + wrong + ")", x.product(0, wrong), -1);
            CHECKS.due("product(" + wrong + ", " + last + ")", x.product(wrong, last), -1);
            CHECKS.due("product(" + last + ", " + wrong + ")", x.product(last, wrong), -1);
            CHECKS.due("product(" + wrong + ", " + wrong + ")", x.product(wrong, wrong), -1);
        }
        CHECKS.due("product(0, 0)", x.product(0, 0), 0);
        CHECKS.due("product(0, " + last + ")", x.product(0, last), last);
        CHECKS.due("product(" + last + ", 0)", x.product(last, 0), last);
        int square = kind == 0 ? 0 : HEXAGONAL_SQUARES[n - 1];
        CHECKS.due("product(" + last + ", " + last + ")", x.product(last, last), square);
    }

    private static void orderedCode(int kind, int n) {
        CHECKS.begin("12 INVALID_ARGUMENT if code is the code of no movement; " + Groups.name(kind, n));
        int last = Groups.codes(kind, n) - 1;
        WallpaperGroups x = Groups.made(kind, n);
        for (int code : wrongCodes(kind, n)) {
            CHECKS.due("orderOf(" + code + ")", x.orderOf(code), -1);
        }
        CHECKS.due("orderOf(0), one factor", x.orderOf(0), 1);
        CHECKS.due("orderOf(" + last + ")", x.orderOf(last), kind == 0 ? 2 : HEXAGONAL_ORDERS[n - 1]);
    }

    private static void kindCode(int kind, int n) {
        CHECKS.begin("13 INVALID_ARGUMENT if code is the code of no movement; " + Groups.name(kind, n));
        int last = Groups.codes(kind, n) - 1;
        WallpaperGroups x = Groups.made(kind, n);
        for (int code : wrongCodes(kind, n)) {
            CHECKS.due("kindOf(" + code + ")", x.kindOf(code), -1);
        }
        CHECKS.due("kindOf(0)", x.kindOf(0), 0);
        CHECKS.due("kindOf(" + last + ")", x.kindOf(last), kind == 0 ? 2 : HEXAGONAL_KINDS[n - 1]);
    }

    private static void countedKind(int kind, int n) {
        CHECKS.begin("14 INVALID_ARGUMENT if kind is out of range; " + Groups.name(kind, n));
        int[] wrong = {-1, 4, LOW, HIGH};
        WallpaperGroups none = Groups.made(kind, n);
        WallpaperGroups flip = Groups.made(kind, n, Groups.turns(kind), 0, 0);
        for (int counted : wrong) {
            CHECKS.due("count(" + counted + ")", none.count(counted), -1);
            CHECKS.due("count(" + counted + ") with a reflection", flip.count(counted), -1);
        }
        CHECKS.due("count(0)", none.count(0), 1);
        CHECKS.due("count(3)", none.count(3), 0);
        CHECKS.due("count(0) with a reflection", flip.count(0), 1);
        CHECKS.due("count(2) with a reflection", flip.count(2), 1);
        CHECKS.due("count(3) with a reflection", flip.count(3), 0);
    }

    private static void cells(int kind, int n) {
        CHECKS.begin("22, 23, 24 x and y: 0 to N - 1; " + Groups.name(kind, n));
        WallpaperGroups x = Groups.made(kind, n);
        int[] wrong = {-1, n, LOW, HIGH, -n, n * n};
        int[] right = {0, n - 1};
        for (int bad : wrong) {
            for (int good : right) {
                refusedCell(x, bad, good);
                refusedCell(x, good, bad);
            }
            refusedCell(x, bad, bad);
        }
        for (int i : right) {
            for (int j : right) {
                CHECKS.due("orbitSize(" + i + ", " + j + ")", x.orbitSize(i, j), 1);
                CHECKS.due("orbitFirst(" + i + ", " + j + ")", x.orbitFirst(i, j), n * i + j);
                CHECKS.due("stabilizerOrder(" + i + ", " + j + ")", x.stabilizerOrder(i, j), 1);
            }
        }
    }

    private static void refusedCell(WallpaperGroups x, int i, int j) {
        CHECKS.due("orbitSize(" + i + ", " + j + ")", x.orbitSize(i, j), -1);
        CHECKS.due("orbitFirst(" + i + ", " + j + ")", x.orbitFirst(i, j), -1);
        CHECKS.due("stabilizerOrder(" + i + ", " + j + ")", x.stabilizerOrder(i, j), -1);
    }

    private static final int[] WRONG_COLORS = {0, 5, -1, LOW, HIGH};

    /** Without generators each cell may have any color: k^(N * N) colorings, up to 2^50. */
    private static long allColorings(int colors, int n) {
        long colorings = 1;
        for (int cell = 0; cell < n * n; cell++) {
            colorings *= colors;
        }
        return colorings;
    }

    private static void invariantColors(int kind, int n) {
        CHECKS.begin("27 colors: 1 to 4; " + Groups.name(kind, n));
        WallpaperGroups none = Groups.made(kind, n);
        WallpaperGroups all = Groups.whole(kind, n);
        for (int colors : WRONG_COLORS) {
            CHECKS.due("invariantColorings(" + colors + ")", none.invariantColorings(colors), -1);
            CHECKS.due("invariantColorings(" + colors + ") of all", all.invariantColorings(colors), -1);
        }
        for (int colors = 1; colors <= 4; colors++) {
            CHECKS.due("invariantColorings(" + colors + ")", none.invariantColorings(colors), allColorings(colors, n));
            CHECKS.due("invariantColorings(" + colors + ") of all", all.invariantColorings(colors), colors);
        }
    }

    private static void classColors(int kind, int n) {
        CHECKS.begin("28 colors: 1 to 4; " + Groups.name(kind, n));
        WallpaperGroups none = Groups.made(kind, n);
        WallpaperGroups all = Groups.whole(kind, n);
        for (int colors : WRONG_COLORS) {
            CHECKS.due("coloringClasses(" + colors + ")", none.coloringClasses(colors), -1);
            CHECKS.due("coloringClasses(" + colors + ") of all", all.coloringClasses(colors), -1);
        }
        for (int colors = 1; colors <= 4; colors++) {
            CHECKS.due("coloringClasses(" + colors + ")", none.coloringClasses(colors), allColorings(colors, n));
        }
        CHECKS.due("coloringClasses(1) of all", all.coloringClasses(1), 1);
    }
}

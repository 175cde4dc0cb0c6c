/** The edges that the definitions draw: kinds of movements, type, centered, symmorphic, equivalent. */
final class DefinitionEdgesTest {
    private static final Checks CHECKS = new Checks();

    public static void main(String[] args) {
        Groups.eachLattice(DefinitionEdgesTest::translationsEndWhereRotationsBegin);
        Groups.eachLattice(DefinitionEdgesTest::reflectionsAreExact);
        reflectionsByNegativePAndQ();
        exactlyIsNotModuloN();
        Groups.eachLattice(DefinitionEdgesTest::oddAndEvenGlides);
        ordersOfMovements();
        abelianOrJustNot();
        classesUnderEveryElement();
        Groups.eachLattice(DefinitionEdgesTest::classesOfPowers);
        greatestRotationOrder();
        centeredOnlyByReflections();
        halvesThatAreNoIntegers();
        typesWithoutRotations();
        typesWithHalfTurns();
        Groups.eachLattice(DefinitionEdgesTest::typesWithThirdTurns);
        typesWithQuarterTurns();
        Groups.eachLattice(DefinitionEdgesTest::typesWithSixthTurns);
        symmorphicOrJustNot();
        invariantAndEquivalentColorings();
        CHECKS.end();
    }

    // ---- kinds

    private static void translationsEndWhereRotationsBegin(int kind, int n) {
        CHECKS.begin("13 the first and the last code of each kind; " + Groups.name(kind, n));
        WallpaperGroups x = Groups.made(kind, n);
        int cells = n * n;
        int turns = Groups.turns(kind);
        CHECKS.due("(0, 0) is a translation", x.kindOf(0), 0);
        CHECKS.due("the last translation", x.kindOf(cells - 1), 0);
        CHECKS.due("the first rotation", x.kindOf(cells), 1);
        CHECKS.due("the last rotation", x.kindOf(turns * cells - 1), 1);
        CHECKS.due("the first reflection", x.kindOf(turns * cells), 2);
        for (int part = turns; part < 2 * turns; part++) {
            CHECKS.due("linear part " + part + " with (0, 0)", x.kindOf(part * cells), 2);
        }
    }

    /** By hand, from w + M w: the number that N must divide if p and q are to be had. */
    private static int squareSum(int part, int u, int v) {
        switch (part) {
            case 4: return u;
            case 5: return u + v;
            case 6: return v;
            default: return u - v;
        }
    }

    private static int hexagonalSum(int part, int u, int v) {
        switch (part) {
            case 6: return u + v;
            case 7: return u + 2 * v;
            case 8: return v;
            case 9: return u - v;
            case 10: return u;
            default: return 2 * u + v;
        }
    }

    private static void reflectionsAreExact(int kind, int n) {
        CHECKS.begin("13 a reflection if w + M w = (0, 0) holds exactly; " + Groups.name(kind, n));
        WallpaperGroups x = Groups.made(kind, n);
        for (int part = Groups.turns(kind); part < Groups.parts(kind); part++) {
            for (int u = 0; u < n; u++) {
                for (int v = 0; v < n; v++) {
                    int sum = kind == 0 ? squareSum(part, u, v) : hexagonalSum(part, u, v);
                    CHECKS.due("linear part " + part + " with (" + u + ", " + v + ")",
                            x.kindOf(part * n * n + n * u + v), sum % n == 0 ? 2 : 3);
                }
            }
        }
    }

    private static void reflectionsByNegativePAndQ() {
        CHECKS.begin("13 p and q may be any integers");
        WallpaperGroups square = Groups.made(0, 5);
        CHECKS.due("(y, x) with (1, 4): p = 0, q = -1", square.kindOf(5 * 25 + 9), 2);
        CHECKS.due("(y, x) with (4, 4): u + v = 8", square.kindOf(5 * 25 + 24), 3);
        WallpaperGroups hexagonal = Groups.made(1, 5);
        CHECKS.due("(-x, x + y) with (2, 4): u + 2 v = 10", hexagonal.kindOf(7 * 25 + 14), 2);
        CHECKS.due("(-x, x + y) with (4, 3): u + 2 v = 10", hexagonal.kindOf(7 * 25 + 23), 2);
        CHECKS.due("(x + y, -y) with (3, 4): 2 u + v = 10", hexagonal.kindOf(11 * 25 + 19), 2);
        CHECKS.due("(x + y, -y) with (4, 4): 2 u + v = 12", hexagonal.kindOf(11 * 25 + 24), 3);
    }

    private static void exactlyIsNotModuloN() {
        CHECKS.begin("13 without taking anything modulo N");
        CHECKS.due("(x, -y) with (1, 0), N = 2: (2, 0) is not (0, 0)", Groups.made(0, 2).kindOf(16 + 2), 3);
        CHECKS.due("(x, -y) with (2, 0), N = 4: (4, 0) is not (0, 0)", Groups.made(0, 4).kindOf(64 + 8), 3);
        CHECKS.due("(-x, y) with (0, 2), N = 4", Groups.made(0, 4).kindOf(96 + 2), 3);
        CHECKS.due("(x, -x - y) with (1, 0), N = 2", Groups.made(1, 2).kindOf(40 + 2), 3);
        CHECKS.due("(-x - y, y) with (0, 1), N = 2", Groups.made(1, 2).kindOf(32 + 1), 3);
        CHECKS.due("count(2) of a glide, N = 2", Groups.made(0, 2, 4, 1, 0).count(2), 0);
        CHECKS.due("count(3) of a glide, N = 2", Groups.made(0, 2, 4, 1, 0).count(3), 1);
    }

    /** By 1 of N along the glide's line; if N is odd, N of them make a reflection. */
    private static void oddAndEvenGlides(int kind, int n) {
        CHECKS.begin("12, 14, 19 a glide by 1 of N; " + Groups.name(kind, n));
        // (x, -y) glides twice by (2, 0), which is (0, 0) for N = 2; (x, -x - y) twice by (2, -1).
        WallpaperGroups x = Groups.made(kind, n, kind == 0 ? 4 : 10, 1 % n, 0);
        boolean odd = n % 2 == 1;
        int translations = kind == 0 && !odd ? n / 2 : n;
        CHECKS.due("order()", x.order(), 2 * translations);
        CHECKS.due("orderOf of it", x.orderOf(x.generator(0)), 2 * translations);
        CHECKS.due("count(0)", x.count(0), translations);
        CHECKS.due("count(1)", x.count(1), 0);
        CHECKS.due("count(2)", x.count(2), odd ? 1 : 0);
        CHECKS.due("count(3)", x.count(3), translations - (odd ? 1 : 0));
        CHECKS.due("mirrorDirections()", x.mirrorDirections(), odd ? 1 : 0);
        CHECKS.due("type(): pg, or else pm and cm", x.type(), !odd ? 1 : kind == 0 ? 3 : 2);
    }

    private static void ordersOfMovements() {
        CHECKS.begin("12 the least number of factors, 1 or more");
        WallpaperGroups x = Groups.made(1, 5);
        CHECKS.due("the movement with the code 0", x.orderOf(0), 1);
        CHECKS.due("a translation, N = 5", x.orderOf(24), 5);
        CHECKS.due("a half turn with (4, 4)", x.orderOf(99), 2);
        CHECKS.due("a third turn with (4, 4)", x.orderOf(74), 3);
        CHECKS.due("a sixth turn with (4, 4)", x.orderOf(49), 6);
        CHECKS.due("a sixth turn backwards", x.orderOf(149), 6);
        CHECKS.due("the greatest order of all", x.orderOf(6 * 25 + 6), 10);
        CHECKS.due("a sixth turn, N = 1", Groups.made(1, 1).orderOf(5), 6);
        CHECKS.due("a quarter turn backwards, N = 1", Groups.made(0, 1).orderOf(3), 4);
    }

    private static void abelianOrJustNot() {
        CHECKS.begin("15 g h = h g for all elements");
        CHECKS.due("reflections that cross", Groups.made(0, 5, 4, 0, 0, 6, 0, 0).isAbelian(), 1);
        CHECKS.due("reflections beside one another, N = 2", Groups.made(0, 2, 4, 0, 0, 4, 0, 1).isAbelian(), 1);
        CHECKS.due("reflections beside one another, N = 3", Groups.made(0, 3, 4, 0, 0, 4, 0, 1).isAbelian(), 0);
        CHECKS.due("a half turn and a translation, N = 2", Groups.made(0, 2, 2, 0, 0, 0, 1, 0).isAbelian(), 1);
        CHECKS.due("a half turn and a translation, N = 3", Groups.made(0, 3, 2, 0, 0, 0, 1, 0).isAbelian(), 0);
        CHECKS.due("sixth turns", Groups.made(1, 5, 1, 3, 4).isAbelian(), 1);
        CHECKS.due("third turns and (1, 1), N = 3", Groups.made(1, 3, 2, 0, 0, 0, 1, 1).isAbelian(), 1);
        CHECKS.due("third turns and (1, 0), N = 3", Groups.made(1, 3, 2, 0, 0, 0, 1, 0).isAbelian(), 0);
        CHECKS.due("all movements, N = 1", Groups.whole(0, 1).isAbelian(), 0);
    }

    private static void classesUnderEveryElement() {
        CHECKS.begin("16 g and h are conjugate if k g = h k for some element k of the group");
        // Half turns swap (1, 0) and (4, 0), and (2, 0) and (3, 0); the 5 half turns are one class.
        CHECKS.due("half turns along x, N = 5", Groups.made(0, 5, 2, 0, 0, 0, 1, 0).conjugacyClasses(), 4);
        // N = 4: (0), (1 and 3), (2), and two classes of half turns, as steps of 2 tie them.
        CHECKS.due("half turns along x, N = 4", Groups.made(0, 4, 2, 0, 0, 0, 1, 0).conjugacyClasses(), 5);
        CHECKS.due("N = 2, where all commute", Groups.made(0, 2, 2, 0, 0, 0, 1, 0).conjugacyClasses(), 4);
        // Conjugate under all movements, but not within the group of two translations.
        CHECKS.due("translations by 1 and 3 alone", Groups.made(0, 4, 0, 1, 0).conjugacyClasses(), 4);
    }

    /** Powers of one movement commute, so each is a class of its own. */
    private static void classesOfPowers(int kind, int n) {
        CHECKS.begin("15, 16 one generator; " + Groups.name(kind, n));
        for (int code = 0; code < Groups.codes(kind, n); code++) {
            WallpaperGroups x = Groups.made(kind, n, code / (n * n), code / n % n, code % n);
            CHECKS.due("isAbelian(), powers of " + code, x.isAbelian(), 1);
            CHECKS.due("order(), powers of " + code, x.order(), x.orderOf(code));
            CHECKS.due("conjugacyClasses(), powers of " + code, x.conjugacyClasses(), x.orderOf(code));
        }
    }

    // ---- type

    private static void greatestRotationOrder() {
        CHECKS.begin("18 the greatest order of a linear part of determinant 1 that occurs");
        int[] square = {1, 4, 2, 4, 1, 1, 1, 1};
        int[] hexagonal = {1, 6, 3, 2, 3, 6, 1, 1, 1, 1, 1, 1};
        Groups.eachLattice((kind, n) -> {
            for (int part = 0; part < Groups.parts(kind); part++) {
                CHECKS.due("linear part " + part + ", " + Groups.name(kind, n),
                        Groups.made(kind, n, part, 0, 0).rotationOrder(), (kind == 0 ? square : hexagonal)[part]);
            }
        });
        CHECKS.due("half and third turns", Groups.made(1, 4, 3, 1, 2, 4, 0, 3).rotationOrder(), 6);
        CHECKS.due("a translation, a reflection", Groups.made(1, 4, 0, 1, 2, 9, 0, 0).rotationOrder(), 1);
        CHECKS.due("two reflections, 60 degrees apart", Groups.made(1, 4, 6, 0, 0, 8, 0, 0).rotationOrder(), 3);
        CHECKS.due("two reflections, 30 degrees apart", Groups.made(1, 4, 6, 0, 0, 7, 0, 0).rotationOrder(), 6);
        CHECKS.due("two reflections, 90 degrees apart", Groups.made(1, 4, 6, 0, 0, 9, 0, 0).rotationOrder(), 2);
    }

    private static void centeredOnlyByReflections() {
        CHECKS.begin("20 0 if it has no reflections");
        CHECKS.due("nothing", new WallpaperGroups().isCentered(), 0);
        CHECKS.due("translations (2, 2), N = 4", Groups.made(0, 4, 0, 2, 2).isCentered(), 0);
        CHECKS.due("turns and (2, 2), N = 4", Groups.made(0, 4, 1, 0, 0, 0, 2, 2).isCentered(), 0);
        CHECKS.due("a glide, N = 4", Groups.made(0, 4, 4, 2, 0).isCentered(), 0);
        CHECKS.due("a glide (y, x) by (1, 0), N = 4", Groups.made(0, 4, 5, 1, 0).isCentered(), 0);
        CHECKS.due("glides of pgg, N = 4", Groups.made(0, 4, 2, 0, 0, 4, 2, 2).isCentered(), 0);
        // Only (y, x) and (-y, -x) are reflections of p4g; their lattice is centered.
        CHECKS.due("p4g", Groups.made(0, 4, 1, 0, 0, 4, 2, 2).isCentered(), 1);
    }

    private static void halvesThatAreNoIntegers() {
        CHECKS.begin("20 a vector with a coordinate that is not an integer is none");
        CHECKS.due("(y, x), N = 1: half of (1, 1)", Groups.made(0, 1, 5, 0, 0).isCentered(), 1);
        CHECKS.due("(-y, -x), N = 1: half of (1, -1)", Groups.made(0, 1, 7, 0, 0).isCentered(), 1);
        CHECKS.due("(x, -y), N = 1: half of (2, 0)", Groups.made(0, 1, 4, 0, 0).isCentered(), 0);
        CHECKS.due("(-x, y), N = 1: half of (0, 2)", Groups.made(0, 1, 6, 0, 0).isCentered(), 0);
        CHECKS.due("(y, x), N = 3, all translations", Groups.made(0, 3, 5, 0, 0, 0, 1, 0).isCentered(), 1);
        CHECKS.due("(x, -y), N = 3, all translations", Groups.made(0, 3, 4, 0, 0, 0, 1, 0, 0, 0, 1).isCentered(), 0);
        CHECKS.due("(-x, x + y), N = 1: half of (0, 1)", Groups.made(1, 1, 7, 0, 0).isCentered(), 1);
        CHECKS.due("(-x, x + y) and (0, 1), N = 2: half of (0, 1)",
                Groups.made(1, 2, 7, 0, 0, 0, 0, 1).isCentered(), 0);
        CHECKS.due("(-x, x + y) and (1, 0), N = 2: half of (0, 1)",
                Groups.made(1, 2, 7, 0, 0, 0, 1, 0).isCentered(), 1);
    }

    private static void typesWithoutRotations() {
        CHECKS.begin("21 n = 1");
        CHECKS.due("p1: no determinant -1", Groups.made(1, 5, 0, 4, 4).type(), 0);
        CHECKS.due("pg: D = 0", Groups.made(0, 2, 4, 1, 0).type(), 1);
        CHECKS.due("pg of (y, x)", Groups.made(0, 4, 5, 1, 0).type(), 1);
        CHECKS.due("cm: D = 1, centered", Groups.made(0, 1, 5, 0, 0).type(), 2);
        CHECKS.due("cm by (2, 2) of 4", Groups.made(0, 4, 4, 0, 0, 0, 2, 2).type(), 2);
        CHECKS.due("pm: D = 1, not centered", Groups.made(0, 1, 4, 0, 0).type(), 3);
        CHECKS.due("pm by (2, 0) of 4", Groups.made(0, 4, 4, 0, 0, 0, 2, 0).type(), 3);
        CHECKS.due("cm: a glide that spans reflections, N = 3", Groups.made(0, 3, 5, 1, 0).type(), 2);
        CHECKS.due("pm, hexagonal", Groups.made(1, 2, 7, 0, 0, 0, 0, 1).type(), 3);
        CHECKS.due("pg, hexagonal", Groups.made(1, 4, 7, 1, 0).type(), 1);
    }

    private static void typesWithHalfTurns() {
        CHECKS.begin("21 n = 2");
        CHECKS.due("p2: no determinant -1", Groups.made(1, 5, 3, 4, 4).type(), 4);
        CHECKS.due("pgg: D = 0", Groups.made(0, 2, 2, 0, 0, 4, 1, 1).type(), 5);
        CHECKS.due("pmg: D = 1, reflections (-x, y)", Groups.made(0, 2, 2, 0, 0, 4, 1, 0).type(), 6);
        CHECKS.due("pmg: D = 1, reflections (x, -y)", Groups.made(0, 2, 2, 0, 0, 4, 0, 1).type(), 6);
        CHECKS.due("mirrorDirections() of pmg", Groups.made(0, 2, 2, 0, 0, 4, 0, 1).mirrorDirections(), 1);
        CHECKS.due("cmm: D = 2, centered", Groups.made(0, 1, 2, 0, 0, 5, 0, 0).type(), 7);
        CHECKS.due("cmm by (1, 1) of 2", Groups.made(0, 2, 2, 0, 0, 4, 0, 0, 0, 1, 1).type(), 7);
        CHECKS.due("pmm: D = 2, not centered", Groups.made(0, 1, 2, 0, 0, 4, 0, 0).type(), 8);
        CHECKS.due("pmm, all translations, N = 2", Groups.made(0, 2, 2, 0, 0, 4, 0, 0, 0, 1, 1, 0, 1, 0).type(), 8);
        CHECKS.due("cmm, hexagonal", Groups.made(1, 3, 3, 0, 0, 6, 0, 0).type(), 7);
        CHECKS.due("pmm, hexagonal", Groups.made(1, 2, 3, 0, 0, 6, 0, 0, 0, 1, 1).type(), 8);
    }

    /** Of (y, x), (-x - y, y), (x, -x - y) none keeps a shortest vector; the other three reversals do. */
    private static void typesWithThirdTurns(int kind, int n) {
        if (kind == 0) {
            return;
        }
        CHECKS.begin("21 n = 3; N = " + n);
        CHECKS.due("p3: no determinant -1", Groups.made(1, n, 4, n - 1, 0).type(), 9);
        for (int part = 6; part < 12; part++) {
            int type = part % 2 == 1 ? 10 : 11;
            CHECKS.due("third turns and " + part, Groups.made(1, n, 2, 0, 0, part, 0, 0).type(), type);
            CHECKS.due("the same with all translations",
                    Groups.made(1, n, 2, 0, 0, part, 0, 0, 0, 1 % n, 0).type(), type);
            if (n == 3) {
                // With (1, 1) the shortest vectors are (1, 1), (1, -2), (2, -1) and their negatives.
                CHECKS.due("the same with (1, 1)", Groups.made(1, n, 2, 0, 0, part, 0, 0, 0, 1, 1).type(), 21 - type);
            }
        }
    }

    private static void typesWithQuarterTurns() {
        CHECKS.begin("21 n = 4");
        CHECKS.due("p4: no determinant -1", Groups.made(0, 1, 3, 0, 0).type(), 12);
        CHECKS.due("p4g: D = 2", Groups.made(0, 2, 1, 0, 0, 4, 1, 1).type(), 13);
        CHECKS.due("mirrorDirections() of p4g", Groups.made(0, 2, 1, 0, 0, 4, 1, 1).mirrorDirections(), 2);
        CHECKS.due("p4m: D = 4", Groups.made(0, 2, 1, 0, 0, 4, 0, 0).type(), 14);
        CHECKS.due("p4m, N = 1", Groups.made(0, 1, 1, 0, 0, 4, 0, 0).type(), 14);
        CHECKS.due("mirrorDirections() of p4m", Groups.made(0, 1, 1, 0, 0, 4, 0, 0).mirrorDirections(), 4);
        CHECKS.due("p4m, N = 3, about another cell", Groups.made(0, 3, 1, 1, 1, 4, 2, 2).type(), 14);
    }

    private static void typesWithSixthTurns(int kind, int n) {
        if (kind == 0) {
            return;
        }
        CHECKS.begin("21 n = 6; N = " + n);
        CHECKS.due("p6: no determinant -1", Groups.made(1, n, 1, 0, n - 1).type(), 15);
        CHECKS.due("p6 of half and third turns", Groups.made(1, n, 3, 0, 0, 2, 0, 0).type(), 15);
        CHECKS.due("p6m", Groups.made(1, n, 1, 0, 0, 11, 0, 0).type(), 16);
        CHECKS.due("p6m of two reversals", Groups.made(1, n, 6, 0, 0, 7, 0, 0).type(), 16);
        CHECKS.due("mirrorDirections() of p6m", Groups.made(1, n, 1, 0, 0, 11, 0, 0).mirrorDirections(), 6);
    }

    // ---- cells

    private static void symmorphicOrJustNot() {
        CHECKS.begin("26 some cell has a stabilizer with as many elements as there are linear parts");
        CHECKS.due("half turns about (1/2, 0), N = 2", Groups.made(0, 2, 2, 1, 0).isSymmorphic(), 0);
        CHECKS.due("half turns about (1/2, 0) and (2, 0), N = 3", Groups.made(0, 3, 2, 1, 0).isSymmorphic(), 1);
        CHECKS.due("half turns about (1, 0), N = 4", Groups.made(0, 4, 2, 2, 0).isSymmorphic(), 1);
        CHECKS.due("quarter turns about the last cell, N = 5", Groups.made(0, 5, 1, 3, 0).isSymmorphic(), 1);
        CHECKS.due("translations alone", Groups.made(0, 5, 0, 1, 3).isSymmorphic(), 1);
        CHECKS.due("pg", Groups.made(0, 4, 4, 2, 0).isSymmorphic(), 0);
        CHECKS.due("a glide that spans reflections, N = 3", Groups.made(0, 3, 4, 1, 0).isSymmorphic(), 1);
        CHECKS.due("reflections between the cells, N = 4", Groups.made(0, 4, 4, 0, 1).isSymmorphic(), 0);
        CHECKS.due("p4g, though some cells keep 4 of 8", Groups.made(0, 4, 1, 0, 0, 4, 2, 2).isSymmorphic(), 0);
        CHECKS.due("stabilizerOrder(0, 0) of it", Groups.made(0, 4, 1, 0, 0, 4, 2, 2).stabilizerOrder(0, 0), 4);
    }

    private static void invariantAndEquivalentColorings() {
        CHECKS.begin("27, 28 one color, one orbit, one class");
        Groups.eachLattice((kind, n) -> {
            WallpaperGroups x = Groups.made(kind, n, 1, 0, 0);
            CHECKS.due("invariantColorings(1), " + Groups.name(kind, n), x.invariantColorings(1), 1);
            CHECKS.due("coloringClasses(1), " + Groups.name(kind, n), x.coloringClasses(1), 1);
        });
        // A translation by 1 of 2 swaps the cells in pairs: 4 colorings stay, and (16 + 4) / 2 classes.
        WallpaperGroups pairs = Groups.made(0, 2, 0, 1, 0);
        CHECKS.due("invariantColorings(2) of two pairs", pairs.invariantColorings(2), 4);
        CHECKS.due("coloringClasses(2) of two pairs", pairs.coloringClasses(2), 10);
        // Movements that leave every cell where it is make no colorings equivalent.
        CHECKS.due("coloringClasses(4), N = 1, 8 movements", Groups.whole(0, 1).coloringClasses(4), 4);
        CHECKS.due("coloringClasses(4), a half turn, N = 2", Groups.made(0, 2, 2, 0, 0).coloringClasses(4), 256);
        CHECKS.due("invariantColorings(4), a half turn, N = 2", Groups.made(0, 2, 2, 0, 0).invariantColorings(4), 256);
    }
}

/** Nothing there yet, and as much as there may be: generators, elements, cells, colorings, history. */
final class EmptyAndFullTest {
    private static final Checks CHECKS = new Checks();

    public static void main(String[] args) {
        newObject();
        constants();
        Groups.eachLattice(EmptyAndFullTest::noGenerators);
        Groups.eachLattice(EmptyAndFullTest::generatorsThatAreTheEmptyProduct);
        Groups.eachLattice(EmptyAndFullTest::wholeGroup);
        Groups.eachLattice(EmptyAndFullTest::wholeGroupByType);
        Groups.eachLattice(EmptyAndFullTest::wholeGroupOnCells);
        Groups.eachLattice(EmptyAndFullTest::allTranslations);
        Groups.eachLattice(EmptyAndFullTest::fourGenerators);
        Groups.eachLattice(EmptyAndFullTest::oneCell);
        orderOfGroups();
        moreMovementsThanWaysToSendCells();
        coloringsOfFewCells();
        coloringsBeyondAnInt();
        emptyHistory();
        fullHistory();
        CHECKS.end();
    }

    private static void newObject() {
        CHECKS.begin("1 the square lattice, N = 4, no generators and an empty history");
        CHECKS.due("undo()", new WallpaperGroups().undo(), -3);
        CHECKS.due("generator(0)", new WallpaperGroups().generator(0), -3);
        CHECKS.due("removeGenerator(0)", new WallpaperGroups().removeGenerator(0), -1);
        CHECKS.due("order()", new WallpaperGroups().order(), 1);
        CHECKS.due("setLattice(1, 1) tells N", new WallpaperGroups().setLattice(1, 1), 4);
        CHECKS.due("addGenerator(7, 3, 3)", new WallpaperGroups().addGenerator(7, 3, 3), 2);
        CHECKS.due("addGenerator(8, 0, 0)", new WallpaperGroups().addGenerator(8, 0, 0), -1);
        CHECKS.due("addGenerator(0, 4, 0)", new WallpaperGroups().addGenerator(0, 4, 0), -1);
        CHECKS.due("addGenerator(0, 0, 4)", new WallpaperGroups().addGenerator(0, 0, 4), -1);
        CHECKS.due("addGenerator(1, 0, 0), a quarter turn", new WallpaperGroups().addGenerator(1, 0, 0), 4);
        Twins twins = new Twins(CHECKS, new WallpaperGroups(), Groups.made(0, 4));
        twins.answerAlike("as after setLattice(0, 4): ");
        WallpaperGroups used = Groups.whole(1, 5);
        CHECKS.due("order() of another", used.order(), 300);
        twins.answerAlike("while another object is used: ");
    }

    private static void constants() {
        CHECKS.begin("the constants");
        CHECKS.due("INVALID_ARGUMENT", WallpaperGroups.INVALID_ARGUMENT, -1);
        CHECKS.due("LIMIT_REACHED", WallpaperGroups.LIMIT_REACHED, -2);
        CHECKS.due("NOT_FOUND", WallpaperGroups.NOT_FOUND, -3);
    }

    private static void noGenerators(int kind, int n) {
        CHECKS.begin("no generators: the empty product alone, code 0; " + Groups.name(kind, n));
        trivial(Groups.made(kind, n), n);
        WallpaperGroups x = Groups.whole(kind, n);
        x.removeGenerator(0);
        x.removeGenerator(0);
        CHECKS.due("the last generator removed", x.removeGenerator(0), 1);
        trivial(x, n);
    }

    private static void generatorsThatAreTheEmptyProduct(int kind, int n) {
        CHECKS.begin("four generators with the code 0; " + Groups.name(kind, n));
        trivial(Groups.made(kind, n, 0, 0, 0, 0, 0, 0, 0, 0, 0, 0, 0, 0), n);
    }

    private static void trivial(WallpaperGroups x, int n) {
        CHECKS.due("order()", x.order(), 1);
        CHECKS.due("element(0)", x.element(0), 0);
        CHECKS.due("element(1)", x.element(1), -3);
        CHECKS.due("contains(0)", x.contains(0), 1);
        CHECKS.due("contains(1)", x.contains(1), 0);
        CHECKS.due("count(0), the empty product", x.count(0), 1);
        CHECKS.due("count(1)", x.count(1), 0);
        CHECKS.due("count(2)", x.count(2), 0);
        CHECKS.due("count(3)", x.count(3), 0);
        CHECKS.due("isAbelian()", x.isAbelian(), 1);
        CHECKS.due("conjugacyClasses()", x.conjugacyClasses(), 1);
        CHECKS.due("linearParts()", x.linearParts(), 1);
        CHECKS.due("rotationOrder()", x.rotationOrder(), 1);
        CHECKS.due("mirrorDirections()", x.mirrorDirections(), 0);
        CHECKS.due("isCentered(), no reflections", x.isCentered(), 0);
        CHECKS.due("type()", x.type(), 0);
        CHECKS.due("orbitSize(0, 0)", x.orbitSize(0, 0), 1);
        CHECKS.due("orbitFirst of the last cell", x.orbitFirst(n - 1, n - 1), n * n - 1);
        CHECKS.due("stabilizerOrder(0, 0)", x.stabilizerOrder(0, 0), 1);
        CHECKS.due("orbitCount()", x.orbitCount(), n * n);
        CHECKS.due("isSymmorphic()", x.isSymmorphic(), 1);
        CHECKS.due("invariantColorings(4)", x.invariantColorings(4), 1L << 2 * n * n);
        CHECKS.due("coloringClasses(4)", x.coloringClasses(4), 1L << 2 * n * n);
    }

    private static void wholeGroup(int kind, int n) {
        CHECKS.begin("8, 9, 10, 14 all movements; " + Groups.name(kind, n));
        WallpaperGroups x = Groups.whole(kind, n);
        int codes = Groups.codes(kind, n);
        CHECKS.due("order()", x.order(), codes);
        for (int i = 0; i < codes; i++) {
            CHECKS.due("element(" + i + ")", x.element(i), i);
        }
        CHECKS.due("element(" + codes + ")", x.element(codes), -3);
        for (int code = 0; code < codes; code += n) {
            CHECKS.due("contains(" + code + ")", x.contains(code), 1);
        }
        CHECKS.due("contains(" + codes + ")", x.contains(codes), -1);
        int[] counts = kindsOfAll(kind, n);
        for (int counted = 0; counted <= 3; counted++) {
            CHECKS.due("count(" + counted + ")", x.count(counted), counts[counted]);
        }
    }

    /** By hand: of each linear part of determinant -1, N of the N * N movements are reflections. */
    private static int[] kindsOfAll(int kind, int n) {
        int turns = Groups.turns(kind);
        return new int[] {n * n, (turns - 1) * n * n, turns * n, turns * n * (n - 1)};
    }

    /** For N = 1 the movements are the linear parts: the square's group and the hexagon's. */
    private static final int[] CLASSES_OF_PARTS = {5, 6};

    private static void wholeGroupByType(int kind, int n) {
        CHECKS.begin("15 to 21 all movements; " + Groups.name(kind, n));
        WallpaperGroups x = Groups.whole(kind, n);
        CHECKS.due("isAbelian()", x.isAbelian(), 0);
        if (n == 1) {
            CHECKS.due("conjugacyClasses()", x.conjugacyClasses(), CLASSES_OF_PARTS[kind]);
        }
        CHECKS.due("linearParts()", x.linearParts(), Groups.parts(kind));
        CHECKS.due("rotationOrder()", x.rotationOrder(), Groups.turns(kind));
        CHECKS.due("mirrorDirections()", x.mirrorDirections(), Groups.turns(kind));
        CHECKS.due("isCentered()", x.isCentered(), 1);
        CHECKS.due("type()", x.type(), kind == 0 ? 14 : 16);
    }

    private static void wholeGroupOnCells(int kind, int n) {
        CHECKS.begin("22 to 28 all movements; " + Groups.name(kind, n));
        WallpaperGroups x = Groups.whole(kind, n);
        CHECKS.due("orbitSize of the last cell", x.orbitSize(n - 1, n - 1), n * n);
        CHECKS.due("orbitFirst of the last cell", x.orbitFirst(n - 1, n - 1), 0);
        CHECKS.due("stabilizerOrder of the last cell", x.stabilizerOrder(n - 1, n - 1), Groups.parts(kind));
        CHECKS.due("orbitCount()", x.orbitCount(), 1);
        CHECKS.due("isSymmorphic()", x.isSymmorphic(), 1);
        CHECKS.due("invariantColorings(4)", x.invariantColorings(4), 4);
        CHECKS.due("coloringClasses(1)", x.coloringClasses(1), 1);
    }

    private static void allTranslations(int kind, int n) {
        CHECKS.begin("all N * N translations; " + Groups.name(kind, n));
        WallpaperGroups x = Groups.made(kind, n, 0, 1 % n, 0, 0, 0, 1 % n);
        CHECKS.due("order()", x.order(), n * n);
        CHECKS.due("count(0)", x.count(0), n * n);
        CHECKS.due("count(1)", x.count(1), 0);
        CHECKS.due("isAbelian()", x.isAbelian(), 1);
        CHECKS.due("conjugacyClasses()", x.conjugacyClasses(), n * n);
        CHECKS.due("linearParts()", x.linearParts(), 1);
        CHECKS.due("type()", x.type(), 0);
        CHECKS.due("orbitCount()", x.orbitCount(), 1);
        CHECKS.due("isSymmorphic()", x.isSymmorphic(), 1);
    }

    private static void fourGenerators(int kind, int n) {
        CHECKS.begin("3 LIMIT_REACHED if there are 4 generators; " + Groups.name(kind, n));
        WallpaperGroups x = Groups.made(kind, n);
        int edge = n - 1;
        int turns = Groups.turns(kind);
        for (int i = 0; i < 4; i++) {
            CHECKS.due("generator(" + i + ") before", x.generator(i), -3);
            CHECKS.holds("a generator is taken", x.addGenerator(turns + i, edge, i % n) > 0);
            CHECKS.due("generator(" + i + ")", x.generator(i), (turns + i) * n * n + edge * n + i % n);
        }
        CHECKS.due("addGenerator(0, 0, 0), a fifth", x.addGenerator(0, 0, 0), -2);
        CHECKS.due("a fifth at the other ends", x.addGenerator(2 * turns - 1, edge, edge), -2);
        CHECKS.due("generator(4)", x.generator(4), -3);
        CHECKS.due("setGenerator(3, 0, 0, 0) is no fifth", x.setGenerator(3, 0, 0, 0),
                (turns + 3) * n * n + edge * n + 3 % n);
        CHECKS.due("addGenerator(0, 0, 0), a fifth still", x.addGenerator(0, 0, 0), -2);
        CHECKS.holds("removeGenerator(0) makes room", x.removeGenerator(0) > 0);
        CHECKS.holds("addGenerator(0, 0, 0), a fourth", x.addGenerator(0, 0, 0) > 0);
        CHECKS.due("addGenerator(0, 0, 0), a fifth again", x.addGenerator(0, 0, 0), -2);
        CHECKS.due("undo() makes room, too", x.undo(), 3);
        CHECKS.holds("addGenerator(0, 0, 0), a fourth", x.addGenerator(0, 0, 0) > 0);
        CHECKS.due("setLattice makes room for four", x.setLattice(kind, n), n);
        for (int i = 0; i < 4; i++) {
            CHECKS.due("addGenerator(0, 0, 0)", x.addGenerator(0, 0, 0), 1);
        }
        CHECKS.due("addGenerator(0, 0, 0), a fifth", x.addGenerator(0, 0, 0), -2);
        CHECKS.due("undo() of setLattice and four", x.undo() + x.undo() + x.undo() + x.undo(), 6);
        CHECKS.due("undo() beyond", x.undo(), -3);
        CHECKS.due("generator(0)", x.generator(0), -3);
    }

    private static void oneCell(int kind, int n) {
        if (n > 1) {
            return;
        }
        CHECKS.begin("N = 1: one cell, u = v = 0; " + Groups.name(kind, n));
        for (int part = 0; part < Groups.parts(kind); part++) {
            WallpaperGroups x = Groups.made(kind, 1, part, 0, 0);
            int expected = part == 0 ? 0 : part < Groups.turns(kind) ? 1 : 2;
            CHECKS.due("kindOf(" + part + ")", x.kindOf(part), expected);
            CHECKS.due("orbitSize(0, 0)", x.orbitSize(0, 0), 1);
            CHECKS.due("stabilizerOrder(0, 0)", x.stabilizerOrder(0, 0), x.order());
            CHECKS.due("isSymmorphic()", x.isSymmorphic(), 1);
            CHECKS.due("invariantColorings(4)", x.invariantColorings(4), 4);
            CHECKS.due("coloringClasses(4)", x.coloringClasses(4), 4);
        }
    }

    private static void orderOfGroups() {
        CHECKS.begin("8 from 1 element to 300");
        CHECKS.due("nothing", new WallpaperGroups().order(), 1);
        CHECKS.due("square, N = 5, all", Groups.whole(0, 5).order(), 200);
        CHECKS.due("hexagonal, N = 5, all", Groups.whole(1, 5).order(), 300);
        CHECKS.due("hexagonal, N = 5, all with a generator too many",
                Groups.made(1, 5, 1, 0, 0, 6, 0, 0, 0, 1, 0, 0, 0, 1).order(), 300);
        CHECKS.due("hexagonal, N = 5, by two glides", Groups.made(1, 5, 11, 4, 4, 6, 0, 1).order(), 300);
    }

    private static void moreMovementsThanWaysToSendCells() {
        CHECKS.begin("different movements that send all cells in the same way are different elements");
        WallpaperGroups one = Groups.made(0, 1, 1, 0, 0, 4, 0, 0);
        CHECKS.due("order(), N = 1", one.order(), 8);
        CHECKS.due("stabilizerOrder(0, 0), N = 1", one.stabilizerOrder(0, 0), 8);
        CHECKS.due("orderOf(1), a quarter turn, N = 1", one.orderOf(1), 4);
        WallpaperGroups two = Groups.made(0, 2, 2, 0, 0);
        CHECKS.due("order(), a half turn, N = 2", two.order(), 2);
        CHECKS.due("contains(8), N = 2", two.contains(8), 1);
        CHECKS.due("orderOf(8), N = 2", two.orderOf(8), 2);
        CHECKS.due("orbitCount(), N = 2", two.orbitCount(), 4);
        CHECKS.due("stabilizerOrder(1, 0), N = 2", two.stabilizerOrder(1, 0), 2);
        CHECKS.due("conjugacyClasses(), N = 2", two.conjugacyClasses(), 2);
        CHECKS.due("linearParts(), N = 2", two.linearParts(), 2);
    }

    /** Four cells: of a square (bracelets of four beads) or all alike (as many multisets). */
    private static void coloringsOfFewCells() {
        CHECKS.begin("28 all movements, N = 1 and 2");
        long[] square = {1, 6, 21, 55};
        long[] hexagonal = {1, 5, 15, 35};
        for (int colors = 1; colors <= 4; colors++) {
            CHECKS.due("one cell, square", Groups.whole(0, 1).coloringClasses(colors), colors);
            CHECKS.due("one cell, hexagonal", Groups.whole(1, 1).coloringClasses(colors), colors);
            CHECKS.due("four cells, square", Groups.whole(0, 2).coloringClasses(colors), square[colors - 1]);
            CHECKS.due("four cells, hexagonal", Groups.whole(1, 2).coloringClasses(colors), hexagonal[colors - 1]);
        }
    }

    private static void coloringsBeyondAnInt() {
        CHECKS.begin("27, 28 colorings beyond an int");
        CHECKS.due("invariantColorings(4), 16 orbits", Groups.made(0, 4).invariantColorings(4), 1L << 32);
        CHECKS.due("invariantColorings(3), 25 orbits", Groups.made(0, 5).invariantColorings(3), 847288609443L);
        CHECKS.due("invariantColorings(4), 25 orbits", Groups.made(1, 5).invariantColorings(4), 1L << 50);
        CHECKS.due("coloringClasses(4), 25 cells apart", Groups.made(1, 5).coloringClasses(4), 1L << 50);
        // 24 of the 25 translations have 5 rows of 5 cells each.
        CHECKS.due("coloringClasses(4), 25 translations",
                Groups.made(0, 5, 0, 1, 0, 0, 0, 1).coloringClasses(4), ((1L << 50) + 24 * 1024) / 25);
        // A half turn about (0, 0) leaves one cell of 25 and swaps 12 pairs.
        CHECKS.due("coloringClasses(4), a half turn", Groups.made(0, 5, 2, 0, 0).coloringClasses(4),
                ((1L << 50) + (1L << 26)) / 2);
    }

    private static void emptyHistory() {
        CHECKS.begin("6 NOT_FOUND if there is none");
        WallpaperGroups x = new WallpaperGroups();
        CHECKS.due("undo() of nothing", x.undo(), -3);
        CHECKS.due("undo() of nothing again", x.undo(), -3);
        CHECKS.due("addGenerator(1, 0, 0)", x.addGenerator(1, 0, 0), 4);
        CHECKS.due("undo()", x.undo(), 0);
        CHECKS.due("undo() of nothing left", x.undo(), -3);
    }

    private static void fullHistory() {
        CHECKS.begin("6 the last 4 edits can be undone");
        for (int edits = 1; edits <= 9; edits++) {
            WallpaperGroups x = Groups.made(0, 5, 0, 0, 0);
            for (int i = 1; i <= edits; i++) {
                CHECKS.due("setGenerator number " + i, x.setGenerator(0, 0, i / 5, i % 5), i - 1);
            }
            // setLattice and addGenerator are two edits more.
            int left = Math.min(edits + 2, 4);
            for (int undone = 1; undone <= left; undone++) {
                CHECKS.due("undo() number " + undone + " of " + edits, x.undo(), left - undone);
                int want = edits - undone;
                CHECKS.due("generator(0) after it", x.generator(0), want >= 0 ? want : -3);
            }
            CHECKS.due("undo() beyond, of " + edits, x.undo(), -3);
            int stays = edits - left;
            CHECKS.due("generator(0) stays", x.generator(0), stays >= 0 ? stays : -3);
        }
    }
}

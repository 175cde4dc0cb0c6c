/** The promises one by one, with answers worked out by hand: ordinary, at the edges, and wrong. */
final class PromisesTest {
    private static final Checks CHECKS = new Checks();
    private static final int LOW = Groups.LOW;
    private static final int HIGH = Groups.HIGH;

    public static void main(String[] args) {
        newObject();
        setLattice();
        addGenerator();
        removeGenerator();
        setGenerator();
        undo();
        undoAfterMoreThanFour();
        errorsAreNoEdits();
        generator();
        orderAndElement();
        contains();
        product();
        orderOf();
        kindOf();
        count();
        isAbelian();
        conjugacyClasses();
        partsAndTurns();
        mirrorsAndCentering();
        types();
        orbits();
        stabilizers();
        symmorphic();
        invariantColorings();
        coloringClasses();
        CHECKS.end();
    }

    private static void newObject() {
        CHECKS.begin("1 A new object");
        WallpaperGroups x = new WallpaperGroups();
        CHECKS.due("order()", x.order(), 1);
        CHECKS.due("generator(0)", x.generator(0), -3);
        CHECKS.due("undo()", x.undo(), -3);
        CHECKS.due("contains(127), the last code of 8 * 16", x.contains(127), 0);
        CHECKS.due("contains(128)", x.contains(128), -1);
        CHECKS.due("orbitCount()", x.orbitCount(), 16);
        CHECKS.due("orderOf(16), a quarter turn", x.orderOf(16), 4);
        CHECKS.due("setLattice(0, 1) tells N", x.setLattice(0, 1), 4);
        WallpaperGroups other = new WallpaperGroups();
        CHECKS.due("another object's order()", other.order(), 1);
        CHECKS.due("addGenerator(1, 0, 0)", other.addGenerator(1, 0, 0), 4);
        CHECKS.due("order() of the first", x.order(), 1);
    }

    private static void setLattice() {
        CHECKS.begin("2 setLattice");
        WallpaperGroups x = new WallpaperGroups();
        CHECKS.due("addGenerator(1, 0, 0)", x.addGenerator(1, 0, 0), 4);
        CHECKS.due("setLattice(1, 5)", x.setLattice(1, 5), 4);
        CHECKS.due("order()", x.order(), 1);
        CHECKS.due("generator(0)", x.generator(0), -3);
        CHECKS.due("contains(299)", x.contains(299), 0);
        CHECKS.due("contains(300)", x.contains(300), -1);
        CHECKS.due("setLattice(-1, 3)", x.setLattice(-1, 3), -1);
        CHECKS.due("setLattice(2, 3)", x.setLattice(2, 3), -1);
        CHECKS.due("setLattice(0, 0)", x.setLattice(0, 0), -1);
        CHECKS.due("setLattice(0, 6)", x.setLattice(0, 6), -1);
        CHECKS.due("setLattice(LOW, HIGH)", x.setLattice(LOW, HIGH), -1);
        CHECKS.due("setLattice(HIGH, LOW)", x.setLattice(HIGH, LOW), -1);
        CHECKS.due("contains(299)", x.contains(299), 0);
        CHECKS.due("setLattice(0, 1)", x.setLattice(0, 1), 5);
        CHECKS.due("contains(7)", x.contains(7), 0);
        CHECKS.due("contains(8)", x.contains(8), -1);
        CHECKS.due("setLattice(1, 1)", x.setLattice(1, 1), 1);
        CHECKS.due("contains(11)", x.contains(11), 0);
        CHECKS.due("contains(12)", x.contains(12), -1);
    }

    private static void addGenerator() {
        CHECKS.begin("3 addGenerator");
        WallpaperGroups x = new WallpaperGroups();
        CHECKS.due("addGenerator(-1, 0, 0)", x.addGenerator(-1, 0, 0), -1);
        CHECKS.due("addGenerator(8, 0, 0)", x.addGenerator(8, 0, 0), -1);
        CHECKS.due("addGenerator(0, -1, 0)", x.addGenerator(0, -1, 0), -1);
        CHECKS.due("addGenerator(0, 4, 0)", x.addGenerator(0, 4, 0), -1);
        CHECKS.due("addGenerator(0, 0, -1)", x.addGenerator(0, 0, -1), -1);
        CHECKS.due("addGenerator(0, 0, 4)", x.addGenerator(0, 0, 4), -1);
        CHECKS.due("addGenerator(HIGH, HIGH, HIGH)", x.addGenerator(HIGH, HIGH, HIGH), -1);
        CHECKS.due("addGenerator(LOW, LOW, LOW)", x.addGenerator(LOW, LOW, LOW), -1);
        CHECKS.due("addGenerator(7, 3, 3)", x.addGenerator(7, 3, 3), 2);
        CHECKS.due("addGenerator(7, 3, 3) once more", x.addGenerator(7, 3, 3), 2);
        CHECKS.due("addGenerator(0, 1, 0)", x.addGenerator(0, 1, 0), 32);
        CHECKS.due("addGenerator(1, 0, 0)", x.addGenerator(1, 0, 0), 128);
        CHECKS.due("addGenerator(0, 0, 0), a fifth", x.addGenerator(0, 0, 0), -2);
        CHECKS.due("addGenerator(8, 0, 0), wrong and a fifth", x.addGenerator(8, 0, 0), -1);
        CHECKS.due("addGenerator(0, 0, 4), wrong and a fifth", x.addGenerator(0, 0, 4), -1);
        CHECKS.due("generator(3)", x.generator(3), 16);
        CHECKS.due("generator(4)", x.generator(4), -3);
        WallpaperGroups hexagonal = Groups.made(1, 5);
        CHECKS.due("addGenerator(12, 0, 0)", hexagonal.addGenerator(12, 0, 0), -1);
        CHECKS.due("addGenerator(0, 5, 0)", hexagonal.addGenerator(0, 5, 0), -1);
        CHECKS.due("addGenerator(11, 0, 4)", hexagonal.addGenerator(11, 0, 4), 10);
    }

    private static void removeGenerator() {
        CHECKS.begin("4 removeGenerator");
        WallpaperGroups x = Groups.made(0, 4, 1, 0, 0, 4, 0, 0, 0, 2, 2);
        CHECKS.due("removeGenerator(-1)", x.removeGenerator(-1), -1);
        CHECKS.due("removeGenerator(3)", x.removeGenerator(3), -1);
        CHECKS.due("removeGenerator(HIGH)", x.removeGenerator(HIGH), -1);
        CHECKS.due("removeGenerator(LOW)", x.removeGenerator(LOW), -1);
        CHECKS.due("removeGenerator(1)", x.removeGenerator(1), 8);
        CHECKS.due("generator(0)", x.generator(0), 16);
        CHECKS.due("generator(1)", x.generator(1), 10);
        CHECKS.due("generator(2)", x.generator(2), -3);
        CHECKS.due("removeGenerator(0)", x.removeGenerator(0), 2);
        CHECKS.due("generator(0)", x.generator(0), 10);
        CHECKS.due("removeGenerator(0)", x.removeGenerator(0), 1);
        CHECKS.due("removeGenerator(0) of none", x.removeGenerator(0), -1);
    }

    private static void setGenerator() {
        CHECKS.begin("5 setGenerator");
        WallpaperGroups x = new WallpaperGroups();
        CHECKS.due("setGenerator(0, 0, 0, 0) of none", x.setGenerator(0, 0, 0, 0), -1);
        x = Groups.made(0, 4, 5, 1, 2, 2, 0, 0);
        CHECKS.due("setGenerator(2, 0, 0, 0)", x.setGenerator(2, 0, 0, 0), -1);
        CHECKS.due("setGenerator(-1, 0, 0, 0)", x.setGenerator(-1, 0, 0, 0), -1);
        CHECKS.due("setGenerator(0, 8, 0, 0)", x.setGenerator(0, 8, 0, 0), -1);
        CHECKS.due("setGenerator(0, -1, 0, 0)", x.setGenerator(0, -1, 0, 0), -1);
        CHECKS.due("setGenerator(0, 0, 4, 0)", x.setGenerator(0, 0, 4, 0), -1);
        CHECKS.due("setGenerator(0, 0, 0, -1)", x.setGenerator(0, 0, 0, -1), -1);
        CHECKS.due("setGenerator(HIGH, LOW, LOW, HIGH)", x.setGenerator(HIGH, LOW, LOW, HIGH), -1);
        CHECKS.due("setGenerator(0, 1, 0, 0)", x.setGenerator(0, 1, 0, 0), 86);
        CHECKS.due("order()", x.order(), 4);
        CHECKS.due("generator(0)", x.generator(0), 16);
        CHECKS.due("generator(1)", x.generator(1), 32);
        CHECKS.due("setGenerator(1, 4, 3, 3)", x.setGenerator(1, 4, 3, 3), 32);
        CHECKS.due("generator(1)", x.generator(1), 79);
    }

    private static void undo() {
        CHECKS.begin("6 undo");
        WallpaperGroups x = new WallpaperGroups();
        CHECKS.due("addGenerator(1, 0, 0)", x.addGenerator(1, 0, 0), 4);
        CHECKS.due("setGenerator(0, 4, 0, 2)", x.setGenerator(0, 4, 0, 2), 16);
        CHECKS.due("removeGenerator(0)", x.removeGenerator(0), 1);
        CHECKS.due("setLattice(1, 3)", x.setLattice(1, 3), 4);
        CHECKS.due("undo()", x.undo(), 3);
        CHECKS.due("contains(127), square again", x.contains(127), 0);
        CHECKS.due("contains(128), N = 4 again", x.contains(128), -1);
        CHECKS.due("undo()", x.undo(), 2);
        CHECKS.due("generator(0)", x.generator(0), 66);
        CHECKS.due("order()", x.order(), 2);
        CHECKS.due("undo()", x.undo(), 1);
        CHECKS.due("generator(0)", x.generator(0), 16);
        CHECKS.due("order()", x.order(), 4);
        CHECKS.due("type()", x.type(), 12);
        CHECKS.due("orbitCount()", x.orbitCount(), 6);
        CHECKS.due("undo()", x.undo(), 0);
        CHECKS.due("order()", x.order(), 1);
        CHECKS.due("undo()", x.undo(), -3);
        CHECKS.due("undo() again", x.undo(), -3);
        x = Groups.made(1, 2, 1, 0, 0, 6, 1, 1);
        CHECKS.due("setLattice(0, 5)", x.setLattice(0, 5), 2);
        CHECKS.due("undo() brings generators back", x.undo(), 3);
        CHECKS.due("generator(0)", x.generator(0), 4);
        CHECKS.due("generator(1)", x.generator(1), 27);
    }

    private static void undoAfterMoreThanFour() {
        CHECKS.begin("6 undo, more than four edits");
        WallpaperGroups x = new WallpaperGroups();
        x.addGenerator(0, 0, 1);
        x.setGenerator(0, 0, 0, 2);
        x.setGenerator(0, 0, 0, 2);
        x.setGenerator(0, 0, 0, 2);
        x.setGenerator(0, 0, 0, 3);
        x.setGenerator(0, 0, 1, 0);
        CHECKS.due("undo()", x.undo(), 3);
        CHECKS.due("generator(0)", x.generator(0), 3);
        CHECKS.due("undo()", x.undo(), 2);
        CHECKS.due("generator(0)", x.generator(0), 2);
        CHECKS.due("addGenerator(0, 0, 0), an edit between", x.addGenerator(0, 0, 0), 2);
        CHECKS.due("undo()", x.undo(), 2);
        CHECKS.due("generator(1)", x.generator(1), -3);
        CHECKS.due("undo() of an edit that changed nothing", x.undo(), 1);
        CHECKS.due("generator(0)", x.generator(0), 2);
        CHECKS.due("undo() of another", x.undo(), 0);
        CHECKS.due("generator(0)", x.generator(0), 2);
        CHECKS.due("undo()", x.undo(), -3);
        CHECKS.due("generator(0)", x.generator(0), 2);
        CHECKS.due("order()", x.order(), 2);
    }

    private static void errorsAreNoEdits() {
        CHECKS.begin("errors change nothing and are no edits");
        WallpaperGroups x = Groups.made(0, 3, 1, 0, 0);
        x.setLattice(2, 3);
        x.setLattice(0, 6);
        x.addGenerator(8, 0, 0);
        x.removeGenerator(1);
        x.setGenerator(1, 0, 0, 0);
        x.setGenerator(0, 0, 3, 0);
        CHECKS.due("order()", x.order(), 4);
        CHECKS.due("generator(0)", x.generator(0), 9);
        CHECKS.due("undo()", x.undo(), 1);
        CHECKS.due("undo()", x.undo(), 0);
        CHECKS.due("undo()", x.undo(), -3);
        x = Groups.made(0, 4, 0, 0, 0, 0, 0, 0, 0, 0, 0, 0, 0, 1);
        CHECKS.due("addGenerator(1, 0, 0), a fifth", x.addGenerator(1, 0, 0), -2);
        CHECKS.due("order()", x.order(), 4);
        CHECKS.due("undo()", x.undo(), 3);
        CHECKS.due("order()", x.order(), 1);
    }

    private static void generator() {
        CHECKS.begin("7 generator");
        WallpaperGroups x = Groups.made(1, 5, 11, 4, 4, 0, 1, 2);
        CHECKS.due("generator(0)", x.generator(0), 299);
        CHECKS.due("generator(1)", x.generator(1), 7);
        CHECKS.due("generator(2)", x.generator(2), -3);
        CHECKS.due("generator(4)", x.generator(4), -3);
        CHECKS.due("generator(HIGH)", x.generator(HIGH), -3);
        CHECKS.due("generator(-1)", x.generator(-1), -1);
        CHECKS.due("generator(LOW)", x.generator(LOW), -1);
    }

    private static void orderAndElement() {
        CHECKS.begin("8 order, 9 element");
        WallpaperGroups x = Groups.made(0, 2, 7, 1, 0);
        // (x, y) -> (-y + 1, -x), twice (x + 1, y - 1): 0, translation (1, 1), and two reversals.
        CHECKS.due("order()", x.order(), 4);
        CHECKS.due("element(0)", x.element(0), 0);
        CHECKS.due("element(1)", x.element(1), 3);
        CHECKS.due("element(2)", x.element(2), 29);
        CHECKS.due("element(3)", x.element(3), 30);
        CHECKS.due("element(4)", x.element(4), -3);
        CHECKS.due("element(HIGH)", x.element(HIGH), -3);
        CHECKS.due("element(-1)", x.element(-1), -1);
        CHECKS.due("element(LOW)", x.element(LOW), -1);
        x = Groups.made(1, 5, 1, 0, 0, 6, 0, 0, 0, 1, 0);
        CHECKS.due("order() of the greatest group", x.order(), 300);
        for (int i = 0; i < 300; i++) {
            CHECKS.due("element(" + i + ")", x.element(i), i);
        }
        CHECKS.due("element(300)", x.element(300), -3);
    }

    private static void contains() {
        CHECKS.begin("10 contains");
        WallpaperGroups x = Groups.made(0, 3, 0, 1, 2);
        int[] inside = {0, 5, 7};
        for (int code = 0; code < 72; code++) {
            boolean is = code == inside[0] || code == inside[1] || code == inside[2];
            CHECKS.due("contains(" + code + ")", x.contains(code), is ? 1 : 0);
        }
        CHECKS.due("contains(72)", x.contains(72), -1);
        CHECKS.due("contains(-1)", x.contains(-1), -1);
        CHECKS.due("contains(HIGH)", x.contains(HIGH), -1);
        CHECKS.due("contains(LOW)", x.contains(LOW), -1);
    }

    private static void product() {
        CHECKS.begin("11 product");
        WallpaperGroups x = new WallpaperGroups();
        // r with (0, 1) after the translation (1, 2): r (1, 2) = (-2, 1), and so (2, 2).
        CHECKS.due("product(17, 6)", x.product(17, 6), 26);
        CHECKS.due("product(6, 17)", x.product(6, 17), 23);
        CHECKS.due("product(16, 64): r f", x.product(16, 64), 80);
        CHECKS.due("product(64, 16): f r = r^3 f", x.product(64, 16), 112);
        CHECKS.due("product(0, 127)", x.product(0, 127), 127);
        CHECKS.due("product(127, 0)", x.product(127, 0), 127);
        CHECKS.due("product(128, 0)", x.product(128, 0), -1);
        CHECKS.due("product(0, 128)", x.product(0, 128), -1);
        CHECKS.due("product(-1, 0)", x.product(-1, 0), -1);
        CHECKS.due("product(0, -1)", x.product(0, -1), -1);
        CHECKS.due("product(HIGH, LOW)", x.product(HIGH, LOW), -1);
        CHECKS.due("order() as before", x.order(), 1);
        x = Groups.made(1, 3);
        // Hexagonal: r sends (1, 2) to (-2, 3), and so to (1, 0).
        CHECKS.due("product(9, 5)", x.product(9, 5), 12);
        CHECKS.due("product(54, 9): f r = r^5 f", x.product(54, 9), 99);
    }

    private static void orderOf() {
        CHECKS.begin("12 orderOf");
        WallpaperGroups x = new WallpaperGroups();
        CHECKS.due("orderOf(0)", x.orderOf(0), 1);
        CHECKS.due("orderOf(1)", x.orderOf(1), 4);
        CHECKS.due("orderOf(2)", x.orderOf(2), 2);
        CHECKS.due("orderOf(32), a half turn", x.orderOf(32), 2);
        CHECKS.due("orderOf(31), a quarter turn", x.orderOf(31), 4);
        CHECKS.due("orderOf(64), a reflection", x.orderOf(64), 2);
        CHECKS.due("orderOf(68), a glide by 1 of 4", x.orderOf(68), 4);
        CHECKS.due("orderOf(128)", x.orderOf(128), -1);
        CHECKS.due("orderOf(-1)", x.orderOf(-1), -1);
        CHECKS.due("orderOf(HIGH)", x.orderOf(HIGH), -1);
        CHECKS.due("orderOf(LOW)", x.orderOf(LOW), -1);
        x = Groups.made(1, 5);
        CHECKS.due("orderOf(25), a sixth turn", x.orderOf(25), 6);
        CHECKS.due("orderOf(24), a translation", x.orderOf(24), 5);
        CHECKS.due("orderOf(156), a glide by (1, 1)", x.orderOf(156), 10);
        x = Groups.made(0, 1);
        CHECKS.due("orderOf(1) where N = 1", x.orderOf(1), 4);
    }

    private static void kindOf() {
        CHECKS.begin("13 kindOf");
        WallpaperGroups x = new WallpaperGroups();
        CHECKS.due("kindOf(0)", x.kindOf(0), 0);
        CHECKS.due("kindOf(15)", x.kindOf(15), 0);
        CHECKS.due("kindOf(16)", x.kindOf(16), 1);
        CHECKS.due("kindOf(63)", x.kindOf(63), 1);
        CHECKS.due("kindOf(64)", x.kindOf(64), 2);
        CHECKS.due("kindOf(67), f with (0, 3)", x.kindOf(67), 2);
        CHECKS.due("kindOf(72), f with (2, 0)", x.kindOf(72), 3);
        CHECKS.due("kindOf(87), r f with (1, 3)", x.kindOf(87), 2);
        CHECKS.due("kindOf(86), r f with (1, 2)", x.kindOf(86), 3);
        CHECKS.due("kindOf(122), r^3 f with (2, 2)", x.kindOf(122), 2);
        CHECKS.due("kindOf(127), r^3 f with (3, 3)", x.kindOf(127), 2);
        CHECKS.due("kindOf(126), r^3 f with (3, 2)", x.kindOf(126), 3);
        CHECKS.due("kindOf(128)", x.kindOf(128), -1);
        CHECKS.due("kindOf(-1)", x.kindOf(-1), -1);
        CHECKS.due("kindOf(HIGH)", x.kindOf(HIGH), -1);
        CHECKS.due("kindOf(LOW)", x.kindOf(LOW), -1);
        x = Groups.made(1, 3);
        // r f = ((-1, 0), (1, 1)): w + M w = (0, x + 2 y), so 3 must divide u + 2 v.
        CHECKS.due("kindOf(67), r f with (1, 1)", x.kindOf(67), 2);
        CHECKS.due("kindOf(68), r f with (1, 2)", x.kindOf(68), 3);
        CHECKS.due("kindOf(64), r f with (0, 1)", x.kindOf(64), 3);
    }

    private static void count() {
        CHECKS.begin("14 count");
        WallpaperGroups x = Groups.made(0, 4, 1, 0, 0, 4, 2, 2);
        CHECKS.due("count(0)", x.count(0), 1);
        CHECKS.due("count(1)", x.count(1), 3);
        CHECKS.due("count(2)", x.count(2), 2);
        CHECKS.due("count(3)", x.count(3), 2);
        CHECKS.due("count(4)", x.count(4), -1);
        CHECKS.due("count(-1)", x.count(-1), -1);
        CHECKS.due("count(HIGH)", x.count(HIGH), -1);
        CHECKS.due("count(LOW)", x.count(LOW), -1);
        x = Groups.made(0, 2, 4, 1, 0);
        CHECKS.due("count(2) of a glide alone", x.count(2), 0);
        CHECKS.due("count(3) of a glide alone", x.count(3), 1);
    }

    private static void isAbelian() {
        CHECKS.begin("15 isAbelian");
        CHECKS.due("no generators", new WallpaperGroups().isAbelian(), 1);
        CHECKS.due("quarter turns", Groups.made(0, 4, 1, 0, 0).isAbelian(), 1);
        CHECKS.due("a translation and a half turn", Groups.made(0, 4, 0, 1, 0, 2, 0, 0).isAbelian(), 0);
        CHECKS.due("a translation by 2 of 4 and a half turn", Groups.made(0, 4, 0, 2, 0, 2, 0, 0).isAbelian(), 1);
        CHECKS.due("quarter turns and a reflection", Groups.made(0, 1, 1, 0, 0, 4, 0, 0).isAbelian(), 0);
        CHECKS.due("two reflections that cross", Groups.made(0, 1, 4, 0, 0, 6, 0, 0).isAbelian(), 1);
        CHECKS.due("the fourth does not commute", Groups.made(0, 4, 0, 0, 2, 0, 2, 0, 2, 0, 0, 0, 1, 0).isAbelian(), 0);
    }

    private static void conjugacyClasses() {
        CHECKS.begin("16 conjugacyClasses");
        CHECKS.due("no generators", new WallpaperGroups().conjugacyClasses(), 1);
        CHECKS.due("16 translations", Groups.made(0, 4, 0, 1, 0, 0, 0, 1).conjugacyClasses(), 16);
        CHECKS.due("the square's group", Groups.made(0, 1, 1, 0, 0, 4, 0, 0).conjugacyClasses(), 5);
        CHECKS.due("the triangle's group", Groups.made(1, 1, 2, 0, 0, 6, 0, 0).conjugacyClasses(), 3);
        CHECKS.due("the hexagon's group", Groups.made(1, 1, 1, 0, 0, 6, 0, 0).conjugacyClasses(), 6);
        // Of 5 translations the four others pair up; all 5 half turns are alike.
        CHECKS.due("the pentagon's group", Groups.made(0, 5, 0, 1, 0, 2, 0, 0).conjugacyClasses(), 4);
        CHECKS.due("all 300", Groups.made(1, 5, 1, 0, 0, 6, 0, 0, 0, 1, 0).conjugacyClasses(), 14);
    }

    private static void partsAndTurns() {
        CHECKS.begin("17 linearParts, 18 rotationOrder");
        int[][] rows = {
            {0, 0, 1, 1}, {0, 1, 4, 4}, {0, 2, 2, 2}, {0, 3, 4, 4}, {0, 4, 2, 1}, {0, 7, 2, 1},
            {1, 0, 1, 1}, {1, 1, 6, 6}, {1, 2, 3, 3}, {1, 3, 2, 2}, {1, 4, 3, 3}, {1, 5, 6, 6},
            {1, 6, 2, 1}, {1, 11, 2, 1}};
        for (int[] row : rows) {
            WallpaperGroups x = Groups.made(row[0], 4, row[1], 1, 0);
            CHECKS.due("linearParts() of " + row[0] + ": " + row[1], x.linearParts(), row[2]);
            CHECKS.due("rotationOrder() of " + row[0] + ": " + row[1], x.rotationOrder(), row[3]);
        }
        WallpaperGroups x = Groups.made(1, 2, 2, 0, 0, 3, 0, 0, 6, 0, 0, 0, 1, 0);
        CHECKS.due("linearParts() of all", x.linearParts(), 12);
        CHECKS.due("rotationOrder() of all", x.rotationOrder(), 6);
    }

    private static void mirrorsAndCentering() {
        CHECKS.begin("19 mirrorDirections, 20 isCentered");
        // Kind, N, a reversal, its translation; then the due answers.
        int[][] rows = {
            {0, 4, 4, 0, 0, 1, 0}, {0, 4, 4, 2, 0, 0, 0}, {0, 4, 5, 0, 0, 1, 1}, {0, 4, 5, 1, 0, 0, 0},
            {0, 4, 5, 1, 3, 1, 1}, {0, 1, 4, 0, 0, 1, 0}, {0, 1, 5, 0, 0, 1, 1}, {1, 2, 6, 0, 0, 1, 1},
            {1, 3, 7, 0, 0, 1, 1}, {1, 2, 7, 1, 0, 0, 0}, {1, 3, 7, 0, 1, 1, 1}, {1, 3, 10, 0, 2, 1, 1}};
        for (int[] row : rows) {
            WallpaperGroups x = Groups.made(row[0], row[1], row[2], row[3], row[4]);
            String name = row[0] + ", " + row[1] + ": " + row[2] + ", " + row[3] + ", " + row[4];
            CHECKS.due("mirrorDirections() of " + name, x.mirrorDirections(), row[5]);
            CHECKS.due("isCentered() of " + name, x.isCentered(), row[6]);
        }
        CHECKS.due("isCentered() of nothing", new WallpaperGroups().isCentered(), 0);
        CHECKS.due("isCentered() with a translation (2, 2)", Groups.made(0, 4, 4, 0, 0, 0, 2, 2).isCentered(), 1);
        CHECKS.due("isCentered() with all translations", Groups.made(0, 4, 4, 0, 0, 0, 1, 0, 0, 0, 1).isCentered(), 0);
        CHECKS.due("isCentered() with (1, 1) modulo 3", Groups.made(0, 3, 5, 0, 0, 0, 1, 1).isCentered(), 1);
        CHECKS.due("isCentered() of turns alone", Groups.made(0, 4, 1, 0, 0, 0, 2, 2).isCentered(), 0);
        CHECKS.due("mirrorDirections() of the square", Groups.made(0, 4, 1, 0, 0, 4, 0, 0).mirrorDirections(), 4);
        CHECKS.due("mirrorDirections() of p4g", Groups.made(0, 4, 1, 0, 0, 4, 2, 2).mirrorDirections(), 2);
        CHECKS.due("mirrorDirections() of the hexagon", Groups.made(1, 5, 1, 0, 0, 6, 0, 0).mirrorDirections(), 6);
    }

    private static void types() {
        CHECKS.begin("21 type");
        CHECKS.due("p1", Groups.made(0, 4, 0, 1, 2).type(), 0);
        CHECKS.due("pg", Groups.made(0, 4, 4, 2, 0).type(), 1);
        CHECKS.due("cm", Groups.made(0, 4, 5, 0, 0).type(), 2);
        CHECKS.due("cm by a translation", Groups.made(0, 4, 4, 0, 0, 0, 2, 2).type(), 2);
        CHECKS.due("pm", Groups.made(0, 4, 4, 0, 0).type(), 3);
        CHECKS.due("p2", Groups.made(0, 4, 2, 1, 3).type(), 4);
        CHECKS.due("pgg", Groups.made(0, 4, 2, 0, 0, 4, 2, 2).type(), 5);
        CHECKS.due("pmg", Groups.made(0, 4, 2, 0, 0, 4, 2, 0).type(), 6);
        CHECKS.due("cmm", Groups.made(0, 2, 2, 0, 0, 5, 0, 0).type(), 7);
        CHECKS.due("pmm", Groups.made(0, 2, 2, 0, 0, 4, 0, 0).type(), 8);
        CHECKS.due("p3", Groups.made(1, 3, 2, 0, 0).type(), 9);
        CHECKS.due("p31m", Groups.made(1, 3, 2, 0, 0, 7, 0, 0).type(), 10);
        CHECKS.due("p3m1", Groups.made(1, 3, 2, 0, 0, 6, 0, 0).type(), 11);
        CHECKS.due("p31m by a finer lattice", Groups.made(1, 3, 2, 0, 0, 6, 0, 0, 0, 1, 1).type(), 10);
        CHECKS.due("p3m1 by a finer lattice", Groups.made(1, 3, 2, 0, 0, 7, 0, 0, 0, 1, 1).type(), 11);
        CHECKS.due("p4", Groups.made(0, 5, 3, 1, 0).type(), 12);
        CHECKS.due("p4g", Groups.made(0, 4, 1, 0, 0, 4, 2, 2).type(), 13);
        CHECKS.due("p4m", Groups.made(0, 4, 1, 0, 0, 4, 0, 0).type(), 14);
        CHECKS.due("p6", Groups.made(1, 5, 5, 0, 0).type(), 15);
        CHECKS.due("p6m", Groups.made(1, 2, 1, 0, 0, 6, 0, 0).type(), 16);
        CHECKS.due("a new object", new WallpaperGroups().type(), 0);
    }

    private static void orbits() {
        CHECKS.begin("22 orbitSize, 23 orbitFirst, 25 orbitCount");
        WallpaperGroups x = Groups.made(0, 3, 1, 0, 0);
        // Quarter turns about (0, 0) modulo 3: the middle, four sides, four corners.
        int[] sizes = {1, 4, 4, 4, 4, 4, 4, 4, 4};
        int[] firsts = {0, 1, 1, 1, 4, 4, 1, 4, 4};
        for (int cell = 0; cell < 9; cell++) {
            String name = "(" + cell / 3 + ", " + cell % 3 + ")";
            CHECKS.due("orbitSize" + name, x.orbitSize(cell / 3, cell % 3), sizes[cell]);
            CHECKS.due("orbitFirst" + name, x.orbitFirst(cell / 3, cell % 3), firsts[cell]);
        }
        CHECKS.due("orbitCount()", x.orbitCount(), 3);
        int[][] wrong = {{-1, 0}, {3, 0}, {0, -1}, {0, 3}, {HIGH, 0}, {0, LOW}, {LOW, HIGH}};
        for (int[] cell : wrong) {
            String name = "(" + cell[0] + ", " + cell[1] + ")";
            CHECKS.due("orbitSize" + name, x.orbitSize(cell[0], cell[1]), -1);
            CHECKS.due("orbitFirst" + name, x.orbitFirst(cell[0], cell[1]), -1);
            CHECKS.due("stabilizerOrder" + name, x.stabilizerOrder(cell[0], cell[1]), -1);
        }
        CHECKS.due("orbitCount() of nothing, N = 5", Groups.made(0, 5).orbitCount(), 25);
        CHECKS.due("orbitCount() of all translations", Groups.made(0, 5, 0, 1, 0, 0, 0, 1).orbitCount(), 1);
        CHECKS.due("orbitCount() of rows", Groups.made(0, 5, 0, 0, 1).orbitCount(), 5);
        CHECKS.due("orbitFirst(3, 4) of rows", Groups.made(0, 5, 0, 0, 1).orbitFirst(3, 4), 15);
        CHECKS.due("orbitFirst(3, 4) of columns", Groups.made(0, 5, 0, 1, 0).orbitFirst(3, 4), 4);
    }

    private static void stabilizers() {
        CHECKS.begin("24 stabilizerOrder");
        WallpaperGroups x = Groups.made(0, 3, 1, 0, 0, 4, 0, 0);
        CHECKS.due("stabilizerOrder(0, 0)", x.stabilizerOrder(0, 0), 8);
        CHECKS.due("stabilizerOrder(0, 1)", x.stabilizerOrder(0, 1), 2);
        CHECKS.due("stabilizerOrder(2, 2)", x.stabilizerOrder(2, 2), 2);
        CHECKS.due("all movements alike, N = 1", Groups.made(0, 1, 1, 0, 0, 4, 0, 0).stabilizerOrder(0, 0), 8);
        CHECKS.due("a half turn that moves no cell, N = 2", Groups.made(0, 2, 2, 0, 0).stabilizerOrder(1, 0), 2);
        CHECKS.due("all 300", Groups.made(1, 5, 1, 0, 0, 6, 0, 0, 0, 1, 0).stabilizerOrder(4, 4), 12);
    }

    private static void symmorphic() {
        CHECKS.begin("26 isSymmorphic");
        CHECKS.due("nothing", new WallpaperGroups().isSymmorphic(), 1);
        CHECKS.due("pg", Groups.made(0, 2, 4, 1, 0).isSymmorphic(), 0);
        CHECKS.due("pgg", Groups.made(0, 4, 2, 0, 0, 4, 2, 2).isSymmorphic(), 0);
        CHECKS.due("p4g", Groups.made(0, 4, 1, 0, 0, 4, 2, 2).isSymmorphic(), 0);
        CHECKS.due("p4m", Groups.made(0, 4, 1, 0, 0, 4, 0, 0).isSymmorphic(), 1);
        CHECKS.due("a half turn between the cells", Groups.made(0, 4, 2, 1, 0).isSymmorphic(), 0);
        CHECKS.due("a half turn about (1, 0)", Groups.made(0, 4, 2, 2, 0).isSymmorphic(), 1);
    }

    private static void invariantColorings() {
        CHECKS.begin("27 invariantColorings");
        WallpaperGroups x = Groups.made(0, 3, 1, 0, 0);
        CHECKS.due("invariantColorings(1)", x.invariantColorings(1), 1);
        CHECKS.due("invariantColorings(2)", x.invariantColorings(2), 8);
        CHECKS.due("invariantColorings(4)", x.invariantColorings(4), 64);
        CHECKS.due("invariantColorings(0)", x.invariantColorings(0), -1);
        CHECKS.due("invariantColorings(5)", x.invariantColorings(5), -1);
        CHECKS.due("invariantColorings(HIGH)", x.invariantColorings(HIGH), -1);
        CHECKS.due("invariantColorings(LOW)", x.invariantColorings(LOW), -1);
        CHECKS.due("invariantColorings(4) of 25 orbits", Groups.made(1, 5).invariantColorings(4), 1L << 50);
    }

    private static void coloringClasses() {
        CHECKS.begin("28 coloringClasses");
        WallpaperGroups x = Groups.made(0, 3, 1, 0, 0);
        // (2^9 + 2^5 + 2 * 2^3) / 4
        CHECKS.due("coloringClasses(2)", x.coloringClasses(2), 140);
        CHECKS.due("coloringClasses(1)", x.coloringClasses(1), 1);
        CHECKS.due("coloringClasses(0)", x.coloringClasses(0), -1);
        CHECKS.due("coloringClasses(5)", x.coloringClasses(5), -1);
        CHECKS.due("coloringClasses(HIGH)", x.coloringClasses(HIGH), -1);
        CHECKS.due("coloringClasses(LOW)", x.coloringClasses(LOW), -1);
        CHECKS.due("coloringClasses(4) of 25 cells apart", Groups.made(0, 5).coloringClasses(4), 1L << 50);
        // A half turn that moves no cell modulo 2 makes no colorings equivalent.
        CHECKS.due("coloringClasses(2), N = 2", Groups.made(0, 2, 2, 0, 0).coloringClasses(2), 16);
        CHECKS.due("coloringClasses(3), N = 1", Groups.made(1, 1, 1, 0, 0, 6, 0, 0).coloringClasses(3), 3);
    }
}

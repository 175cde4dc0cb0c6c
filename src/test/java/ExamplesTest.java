/** The four examples of 'Edits and errors', call by call. */
final class ExamplesTest {
    private static final Checks CHECKS = new Checks();

    public static void main(String[] args) {
        rotationsThenReflection();
        glideAlone();
        hexagonalThirdTurns();
        fifthGeneratorRefused();
        CHECKS.end();
    }

    private static void rotationsThenReflection() {
        CHECKS.begin("example 1");
        WallpaperGroups x = new WallpaperGroups();
        CHECKS.due("addGenerator(1, 0, 0)", x.addGenerator(1, 0, 0), 4);
        CHECKS.due("order()", x.order(), 4);
        CHECKS.due("type()", x.type(), 12);
        CHECKS.due("orbitCount()", x.orbitCount(), 6);
        CHECKS.due("addGenerator(4, 0, 0)", x.addGenerator(4, 0, 0), 8);
        CHECKS.due("type()", x.type(), 14);
        CHECKS.due("coloringClasses(2)", x.coloringClasses(2), 9616);
    }

    private static void glideAlone() {
        CHECKS.begin("example 2");
        WallpaperGroups x = new WallpaperGroups();
        CHECKS.due("setLattice(0, 2)", x.setLattice(0, 2), 4);
        CHECKS.due("addGenerator(4, 1, 0)", x.addGenerator(4, 1, 0), 2);
        CHECKS.due("type()", x.type(), 1);
        CHECKS.due("count(2)", x.count(2), 0);
        CHECKS.due("count(3)", x.count(3), 1);
        CHECKS.due("isSymmorphic()", x.isSymmorphic(), 0);
    }

    private static void hexagonalThirdTurns() {
        CHECKS.begin("example 3");
        WallpaperGroups x = new WallpaperGroups();
        CHECKS.due("setLattice(1, 3)", x.setLattice(1, 3), 4);
        CHECKS.due("addGenerator(2, 0, 0)", x.addGenerator(2, 0, 0), 3);
        CHECKS.due("addGenerator(6, 0, 0)", x.addGenerator(6, 0, 0), 6);
        CHECKS.due("type()", x.type(), 11);
        CHECKS.due("mirrorDirections()", x.mirrorDirections(), 3);
        CHECKS.due("element(0)", x.element(0), 0);
        CHECKS.due("element(6)", x.element(6), -3);
    }

    private static void fifthGeneratorRefused() {
        CHECKS.begin("example 4");
        WallpaperGroups x = new WallpaperGroups();
        CHECKS.due("addGenerator(8, 0, 0)", x.addGenerator(8, 0, 0), -1);
        CHECKS.due("addGenerator(0, 2, 0)", x.addGenerator(0, 2, 0), 2);
        CHECKS.due("addGenerator(0, 0, 2)", x.addGenerator(0, 0, 2), 4);
        CHECKS.due("addGenerator(2, 0, 0)", x.addGenerator(2, 0, 0), 8);
        CHECKS.due("addGenerator(4, 0, 0)", x.addGenerator(4, 0, 0), 16);
        CHECKS.due("addGenerator(5, 0, 0)", x.addGenerator(5, 0, 0), -2);
        CHECKS.due("type()", x.type(), 8);
    }
}

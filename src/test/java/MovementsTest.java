/** Every movement and every product of every lattice, and every group of one generator. */
final class MovementsTest {
    private static final Checks CHECKS = new Checks();

    public static void main(String[] args) {
        for (int kind = 0; kind < 2; kind++) {
            for (int n = 1; n <= 5; n++) {
                CHECKS.begin("kind " + kind + ", N " + n);
                movements(kind, n);
                groupsOfOneGenerator(kind, n);
            }
        }
        CHECKS.end();
    }

    /** An object of the class for each first factor, since nothing is promised after 512 calls. */
    private static void movements(int kind, int n) {
        PlainModel plain = new PlainModel();
        plain.setLattice(kind, n);
        int codes = plain.codeCount();
        for (int g = -1; g <= codes; g++) {
            WallpaperGroups real = Groups.made(kind, n);
            CHECKS.due("kindOf(" + g + ")", real.kindOf(g), plain.kindOf(g));
            CHECKS.due("orderOf(" + g + ")", real.orderOf(g), plain.orderOf(g));
            for (int h = -1; h <= codes; h++) {
                CHECKS.due("product(" + g + ", " + h + ")", real.product(g, h), plain.product(g, h));
            }
        }
    }

    private static void groupsOfOneGenerator(int kind, int n) {
        PlainModel plain = new PlainModel();
        plain.setLattice(kind, n);
        plain.addGenerator(0, 0, 0);
        for (int linear = 0; linear < plain.partCount(); linear++) {
            for (int u = 0; u < n; u++) {
                for (int v = 0; v < n; v++) {
                    CHECKS.begin("kind " + kind + ", N " + n + ", generator " + linear + ", " + u + ", " + v);
                    plain.setGenerator(0, linear, u, v);
                    askAll(Groups.made(kind, n, linear, u, v), plain);
                }
            }
        }
    }

    private static void askAll(WallpaperGroups real, PlainModel plain) {
        CHECKS.due("order()", real.order(), plain.order());
        CHECKS.due("linearParts()", real.linearParts(), plain.linearParts());
        CHECKS.due("rotationOrder()", real.rotationOrder(), plain.rotationOrder());
        CHECKS.due("mirrorDirections()", real.mirrorDirections(), plain.mirrorDirections());
        CHECKS.due("isCentered()", real.isCentered(), plain.isCentered());
        CHECKS.due("type()", real.type(), plain.type());
        CHECKS.due("isAbelian()", real.isAbelian(), plain.isAbelian());
        CHECKS.due("conjugacyClasses()", real.conjugacyClasses(), plain.conjugacyClasses());
        CHECKS.due("orbitCount()", real.orbitCount(), plain.orbitCount());
        CHECKS.due("isSymmorphic()", real.isSymmorphic(), plain.isSymmorphic());
        for (int code = 0; code < plain.codeCount(); code++) {
            CHECKS.due("contains(" + code + ")", real.contains(code), plain.contains(code));
        }
        for (int kind = 0; kind < 4; kind++) {
            CHECKS.due("count(" + kind + ")", real.count(kind), plain.count(kind));
        }
        for (int colors = 1; colors <= 4; colors++) {
            CHECKS.due("invariantColorings(" + colors + ")", real.invariantColorings(colors),
                    plain.invariantColorings(colors));
            CHECKS.due("coloringClasses(" + colors + ")", real.coloringClasses(colors),
                    plain.coloringClasses(colors));
        }
        for (int x = 0; x < plain.latticeN(); x++) {
            for (int y = 0; y < plain.latticeN(); y++) {
                CHECKS.due("orbitSize(" + x + ", " + y + ")", real.orbitSize(x, y), plain.orbitSize(x, y));
                CHECKS.due("orbitFirst(" + x + ", " + y + ")", real.orbitFirst(x, y), plain.orbitFirst(x, y));
                CHECKS.due("stabilizerOrder(" + x + ", " + y + ")", real.stabilizerOrder(x, y),
                        plain.stabilizerOrder(x, y));
            }
        }
    }
}

/** Every movement and every product of every lattice, and every group of one generator. */
final class MovementsTest {
    private static final Checks CHECKS = new Checks();

    public static void main(String[] args) {
        for (int kind = 0; kind < 2; kind++) {
            for (int n = 1; n <= 5; n++) {
                CHECKS.begin("kind " + kind + ", N " + n);
                movements(kind, n);
                groupsOfOneGenerator(kind, n);
            }
        }
        CHECKS.end();
    }

    /** An object of the class for each first factor, since nothing is promised after 512 calls. */
    private static void movements(int kind, int n) {
        PlainModel plain = new PlainModel();
        plain.setLattice(kind, n);
        int codes = plain.codeCount();
        for (int g = -1; g <= codes; g++) {
            WallpaperGroups real = Groups.made(kind, n);
            CHECKS.due("kindOf(" + g + ")", real.kindOf(g), plain.kindOf(g));
            CHECKS.due("orderOf(" + g + ")", real.orderOf(g), plain.orderOf(g));
            for (int h = -1; h <= codes; h++) {
                CHECKS.due("product(" + g + ", " + h + ")", real.product(g, h), plain.product(g, h));
            }
        }
    }

    private static void groupsOfOneGenerator(int kind, int n) {
        PlainModel plain = new PlainModel();
        plain.setLattice(kind, n);
        plain.addGenerator(0, 0, 0);
        for (int linear = 0; linear < plain.partCount(); linear++) {
            for (int u = 0; u < n; u++) {
                for (int v = 0; v < n; v++) {
                    CHECKS.begin("kind " + kind + ", N " + n + ", generator " + linear + ", " + u + ", " + v);
                    plain.setGenerator(0, linear, u, v);
                    Answers.alike(CHECKS, Groups.made(kind, n, linear, u, v), plain);
                }
            }
        }
    }
}

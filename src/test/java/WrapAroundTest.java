/**
 * Coordinates that wrap around modulo N, upwards and downwards, in every lattice. The images of the
 * linear parts are written out by hand; no number is taken from the class or from PlainModel.
 */
final class WrapAroundTest {
    private static final Checks CHECKS = new Checks();

    public static void main(String[] args) {
        Groups.eachLattice(WrapAroundTest::translatedTranslations);
        Groups.eachLattice(WrapAroundTest::translationsUnderLinearParts);
        Groups.eachLattice(WrapAroundTest::translationOfTheFirstFactor);
        Groups.eachLattice(WrapAroundTest::powersOfTheTurn);
        Groups.eachLattice(WrapAroundTest::translationOrders);
        Groups.eachLattice(WrapAroundTest::powersOfATranslation);
        Groups.eachLattice(WrapAroundTest::cellsAlongX);
        Groups.eachLattice(WrapAroundTest::cellsAlongY);
        Groups.eachLattice(WrapAroundTest::cellsAlongTheDiagonal);
        Groups.eachLattice(WrapAroundTest::cellsUnderAReversal);
        Groups.eachLattice(WrapAroundTest::cellsUnderTurns);
        Groups.eachLattice(WrapAroundTest::cellsUnderOneMovement);
        Groups.eachLattice(WrapAroundTest::coloringsUnderOneMovement);
        Groups.eachLattice(WrapAroundTest::wholePeriodsAreLatticeVectors);
        CHECKS.end();
    }

    private static int[] pair(int x, int y) {
        return new int[] {x, y};
    }

    private static int[] image(int kind, int part, int x, int y) {
        return kind == 0 ? squareImage(part, x, y) : hexagonalImage(part, x, y);
    }

    private static int[] squareImage(int part, int x, int y) {
        switch (part) {
            case 0: return pair(x, y);
            case 1: return pair(-y, x);
            case 2: return pair(-x, -y);
            case 3: return pair(y, -x);
            case 4: return pair(x, -y);
            case 5: return pair(y, x);
            case 6: return pair(-x, y);
            default: return pair(-y, -x);
        }
    }

    private static int[] hexagonalImage(int part, int x, int y) {
        switch (part) {
            case 0: return pair(x, y);
            case 1: return pair(-y, x + y);
            case 2: return pair(-x - y, x);
            case 3: return pair(-x, -y);
            case 4: return pair(y, -x - y);
            case 5: return pair(x + y, -x);
            case 6: return pair(y, x);
            case 7: return pair(-x, x + y);
            case 8: return pair(-x - y, y);
            case 9: return pair(-y, -x);
            case 10: return pair(x, -x - y);
            default: return pair(x + y, -y);
        }
    }

    private static int cell(int n, int x, int y) {
        return n * Groups.mod(x, n) + Groups.mod(y, n);
    }

    // ---- movements

    private static void translatedTranslations(int kind, int n) {
        CHECKS.begin("11 the translation is t(h) + t(g) modulo N; " + Groups.name(kind, n));
        WallpaperGroups x = Groups.made(kind, n);
        int edge = n - 1;
        int[][] steps = {{0, 0}, {1 % n, 0}, {0, 1 % n}, {edge, 0}, {0, edge}, {edge, edge}, {edge, 1 % n}};
        for (int[] g : steps) {
            for (int[] h : steps) {
                int got = x.product(n * g[0] + g[1], n * h[0] + h[1]);
                CHECKS.due("(" + g[0] + ", " + g[1] + ") and (" + h[0] + ", " + h[1] + ")", got,
                        cell(n, g[0] + h[0], g[1] + h[1]));
            }
        }
    }

    private static void translationsUnderLinearParts(int kind, int n) {
        CHECKS.begin("11 the translation is M(g) t(h) modulo N, never negative; " + Groups.name(kind, n));
        for (int part = 0; part < Groups.parts(kind); part++) {
            WallpaperGroups x = Groups.made(kind, n);
            for (int u = 0; u < n; u++) {
                for (int v = 0; v < n; v++) {
                    int[] sent = image(kind, part, u, v);
                    CHECKS.due("linear part " + part + " with (" + u + ", " + v + ")",
                            x.product(part * n * n, n * u + v), part * n * n + cell(n, sent[0], sent[1]));
                }
            }
        }
    }

    private static void translationOfTheFirstFactor(int kind, int n) {
        CHECKS.begin("11 the translation is M(g) t(h) + t(g) modulo N; " + Groups.name(kind, n));
        WallpaperGroups x = Groups.made(kind, n);
        int edge = n - 1;
        for (int part = 0; part < Groups.parts(kind); part++) {
            int[] sent = image(kind, part, edge, edge);
            int code = part * n * n;
            CHECKS.due("linear part " + part + " and (N - 1, N - 1) on both sides",
                    x.product(code + n * n - 1, n * n - 1), code + cell(n, sent[0] + edge, sent[1] + edge));
            CHECKS.due("linear part " + part + " and (N - 1, 0) behind it",
                    x.product(n * edge, code + n * edge), code + cell(n, 2 * edge, 0));
        }
    }

    /** Behind the last power of r comes r^0 again, and f r is the last power of r before f. */
    private static void powersOfTheTurn(int kind, int n) {
        CHECKS.begin("11 the linear part M(g) M(h) has a number of the lattice's; " + Groups.name(kind, n));
        WallpaperGroups x = Groups.made(kind, n);
        int cells = n * n;
        for (int a = 0; a < Groups.parts(kind); a++) {
            for (int b = 0; b < Groups.parts(kind); b++) {
                int product = x.product(a * cells, b * cells) / cells;
                int[] first = image(kind, b, 2, 7);
                int[] both = image(kind, a, first[0], first[1]);
                int[] sent = image(kind, product, 2, 7);
                CHECKS.due(a + " " + b + " sends x", sent[0], both[0]);
                CHECKS.due(a + " " + b + " sends y", sent[1], both[1]);
            }
        }
    }

    private static int commonFactor(int a, int b) {
        return b == 0 ? a : commonFactor(b, a % b);
    }

    private static void translationOrders(int kind, int n) {
        CHECKS.begin("12 a translation comes back to code 0 modulo N; " + Groups.name(kind, n));
        WallpaperGroups x = Groups.made(kind, n);
        for (int u = 0; u < n; u++) {
            for (int v = 0; v < n; v++) {
                CHECKS.due("orderOf(" + (n * u + v) + ")", x.orderOf(n * u + v),
                        n / commonFactor(commonFactor(u, v), n));
            }
        }
    }

    private static void powersOfATranslation(int kind, int n) {
        CHECKS.begin("8, 9, 10 a translation spans its multiples modulo N; " + Groups.name(kind, n));
        WallpaperGroups x = Groups.made(kind, n, 0, n - 1, n - 1);
        CHECKS.due("order()", x.order(), n);
        for (int i = 0; i < n; i++) {
            CHECKS.due("element(" + i + ")", x.element(i), n * i + i);
            CHECKS.due("contains(" + (n * i + i) + ")", x.contains(n * i + i), 1);
            for (int j = 0; j < i; j++) {
                CHECKS.due("contains(" + (n * i + j) + ")", x.contains(n * i + j), 0);
            }
        }
    }

    // ---- cells

    private static void cellsAlongX(int kind, int n) {
        CHECKS.begin("22, 23 x is taken modulo N; " + Groups.name(kind, n));
        WallpaperGroups one = Groups.made(kind, n, 0, 1 % n, 0);
        WallpaperGroups back = Groups.made(kind, n, 0, n - 1, 0);
        for (int i = 0; i < n; i++) {
            for (int j = 0; j < n; j++) {
                CHECKS.due("orbitSize(" + i + ", " + j + ")", one.orbitSize(i, j), n);
                CHECKS.due("orbitFirst(" + i + ", " + j + ")", one.orbitFirst(i, j), j);
                CHECKS.due("orbitSize(" + i + ", " + j + ") backwards", back.orbitSize(i, j), n);
                CHECKS.due("orbitFirst(" + i + ", " + j + ") backwards", back.orbitFirst(i, j), j);
            }
        }
    }

    private static void cellsAlongY(int kind, int n) {
        CHECKS.begin("22, 23 y is taken modulo N; " + Groups.name(kind, n));
        WallpaperGroups one = Groups.made(kind, n, 0, 0, 1 % n);
        WallpaperGroups back = Groups.made(kind, n, 0, 0, n - 1);
        for (int i = 0; i < n; i++) {
            for (int j = 0; j < n; j++) {
                CHECKS.due("orbitSize(" + i + ", " + j + ")", one.orbitSize(i, j), n);
                CHECKS.due("orbitFirst(" + i + ", " + j + ")", one.orbitFirst(i, j), n * i);
                CHECKS.due("orbitSize(" + i + ", " + j + ") backwards", back.orbitSize(i, j), n);
                CHECKS.due("orbitFirst(" + i + ", " + j + ") backwards", back.orbitFirst(i, j), n * i);
            }
        }
    }

    /** Of the cells (i + k, j + k) the one with x = 0 is the first. */
    private static void cellsAlongTheDiagonal(int kind, int n) {
        CHECKS.begin("22, 23 both coordinates are taken modulo N; " + Groups.name(kind, n));
        WallpaperGroups x = Groups.made(kind, n, 0, n - 1, n - 1);
        for (int i = 0; i < n; i++) {
            for (int j = 0; j < n; j++) {
                CHECKS.due("orbitSize(" + i + ", " + j + ")", x.orbitSize(i, j), n);
                CHECKS.due("orbitFirst(" + i + ", " + j + ")", x.orbitFirst(i, j), Groups.mod(j - i, n));
            }
        }
    }

    /** (x, -y) in the square lattice, (x, -x - y) in the hexagonal one, and then v along y. */
    private static void cellsUnderAReversal(int kind, int n) {
        CHECKS.begin("22, 23, 24 negative coordinates are taken modulo N; " + Groups.name(kind, n));
        for (int v = 0; v < n; v++) {
            WallpaperGroups x = Groups.made(kind, n, kind == 0 ? 4 : 10, 0, v);
            for (int i = 0; i < n; i++) {
                for (int j = 0; j < n; j++) {
                    int other = Groups.mod(kind == 0 ? v - j : v - i - j, n);
                    String name = "(" + i + ", " + j + "), v = " + v;
                    CHECKS.due("orbitSize" + name, x.orbitSize(i, j), other == j ? 1 : 2);
                    CHECKS.due("orbitFirst" + name, x.orbitFirst(i, j), n * i + Math.min(j, other));
                    CHECKS.due("stabilizerOrder" + name, x.stabilizerOrder(i, j), other == j ? 2 : 1);
                }
            }
        }
    }

    private static void cellsUnderTurns(int kind, int n) {
        CHECKS.begin("22, 23, 24 the cells around (0, 0) modulo N; " + Groups.name(kind, n));
        WallpaperGroups x = Groups.made(kind, n, 1, 0, 0);
        for (int i = 0; i < n; i++) {
            for (int j = 0; j < n; j++) {
                boolean[] met = new boolean[n * n];
                int first = n * n;
                int size = 0;
                for (int part = 0; part < Groups.turns(kind); part++) {
                    int[] sent = image(kind, part, i, j);
                    int to = cell(n, sent[0], sent[1]);
                    first = Math.min(first, to);
                    size += met[to] ? 0 : 1;
                    met[to] = true;
                }
                CHECKS.due("orbitSize(" + i + ", " + j + ")", x.orbitSize(i, j), size);
                CHECKS.due("orbitFirst(" + i + ", " + j + ")", x.orbitFirst(i, j), first);
                CHECKS.due("stabilizerOrder(" + i + ", " + j + ")", x.stabilizerOrder(i, j),
                        Groups.turns(kind) / size);
            }
        }
    }

    /** A cell is alone in its orbit just when the one generator leaves it where it is. */
    private static void cellsUnderOneMovement(int kind, int n) {
        CHECKS.begin("22 a movement sends a cell to M (x, y) + (u, v) modulo N; " + Groups.name(kind, n));
        for (int part = 0; part < Groups.parts(kind); part++) {
            for (int u = 0; u < n; u++) {
                WallpaperGroups x = Groups.made(kind, n, part, u, n - 1);
                for (int i = 0; i < n; i++) {
                    for (int j = 0; j < n; j++) {
                        int[] sent = image(kind, part, i, j);
                        boolean stays = cell(n, sent[0] + u, sent[1] + n - 1) == cell(n, i, j);
                        CHECKS.due("(" + i + ", " + j + ") stays, linear part " + part + ", u = " + u,
                                x.orbitSize(i, j) == 1 ? 1 : 0, stays ? 1 : 0);
                    }
                }
            }
        }
    }

    /** A movement of order 2 ties each coloring to one other, but for the invariant ones. */
    private static void coloringsUnderOneMovement(int kind, int n) {
        CHECKS.begin("27, 28 a movement sends a cell to M (x, y) + (u, v) modulo N; " + Groups.name(kind, n));
        for (int part = 1; part < Groups.parts(kind); part++) {
            for (int t = 0; t < n * n; t++) {
                WallpaperGroups x = Groups.made(kind, n, part, t / n, t % n);
                if (x.order() == 2) {
                    long all = power(3, n * n);
                    long stay = power(3, (n * n + cellsThatStay(kind, n, part, t)) / 2);
                    String name = "(3), linear part " + part + ", (" + t / n + ", " + t % n + ")";
                    CHECKS.due("invariantColorings" + name, x.invariantColorings(3), stay);
                    CHECKS.due("coloringClasses" + name, x.coloringClasses(3), (all + stay) / 2);
                }
            }
        }
    }

    private static int cellsThatStay(int kind, int n, int part, int t) {
        int stay = 0;
        for (int c = 0; c < n * n; c++) {
            int[] sent = image(kind, part, c / n, c % n);
            stay += cell(n, sent[0] + t / n, sent[1] + t % n) == c ? 1 : 0;
        }
        return stay;
    }

    private static long power(int base, int exponent) {
        return exponent == 0 ? 1 : base * power(base, exponent - 1);
    }

    // ---- the translation lattice

    /** Without translations but (0, 0) the translation lattice still holds (N, 0) and its like. */
    private static void wholePeriodsAreLatticeVectors(int kind, int n) {
        CHECKS.begin("20, 21 the vectors (u + p N, v + q N); " + Groups.name(kind, n));
        if (kind == 0) {
            // Half of (N, 0) + (0, N) is no lattice vector; half of (N, 0) + (N, 0) is one.
            CHECKS.due("isCentered() of (y, x)", Groups.made(0, n, 5, 0, 0).isCentered(), 1);
            CHECKS.due("isCentered() of (x, -y)", Groups.made(0, n, 4, 0, 0).isCentered(), 0);
            CHECKS.due("type() of (y, x)", Groups.made(0, n, 5, 0, 0).type(), 2);
            CHECKS.due("type() of (x, -y)", Groups.made(0, n, 4, 0, 0).type(), 3);
            return;
        }
        // (0, N) is as short as a vector can be and stays under (-x, x + y); (y, x) keeps only (N, N).
        CHECKS.due("type() of third turns and (-x, x + y)", Groups.made(1, n, 2, 0, 0, 7, 0, 0).type(), 10);
        CHECKS.due("type() of third turns and (y, x)", Groups.made(1, n, 2, 0, 0, 6, 0, 0).type(), 11);
        for (int part = 6; part < 12; part++) {
            CHECKS.due("isCentered() of " + part, Groups.made(1, n, part, 0, 0).isCentered(), 1);
        }
    }
}

/** Long walks of calls on the class and on PlainModel, whose answers must be the same. */
final class ModelTest {
    private static final Checks CHECKS = new Checks();
    private static final int WALKS = 260;
    private static final int CALLS = 512;
    private static final int[] EXTREMES = {Integer.MIN_VALUE, Integer.MIN_VALUE + 1, -1, Integer.MAX_VALUE};

    private static long state = 20261118L;
    private static final boolean[] TYPES = new boolean[17];
    private static int limits;
    private static int fullHistories;

    private final WallpaperGroups real = new WallpaperGroups();
    private final PlainModel plain = new PlainModel();

    public static void main(String[] args) {
        for (int walk = 0; walk < WALKS && !CHECKS.hasManyWrong(); walk++) {
            CHECKS.begin("walk " + walk);
            new ModelTest().walk();
        }
        CHECKS.begin("the walks");
        for (int type = 0; type < TYPES.length; type++) {
            CHECKS.holds("they met type " + type, TYPES[type]);
        }
        CHECKS.holds("they met a full list of generators", limits > 20);
        CHECKS.holds("they met a full history", fullHistories > 20);
        CHECKS.end();
    }

    /** A fixed sequence: every run of the test makes the same calls. */
    private static int below(int bound) {
        state = state * 6364136223846793005L + 1442695040888963407L;
        return (int) ((state >>> 33) % bound);
    }

    /** Mostly 0 to bound - 1, now and then just outside or far outside. */
    private static int argument(int bound) {
        int way = below(24);
        if (way == 0) {
            return bound;
        }
        if (way == 1) {
            return EXTREMES[below(EXTREMES.length)];
        }
        return below(Math.max(bound, 1));
    }

    /** Whole and half translations now and then, so that not every group grows large. */
    private int translation() {
        int way = below(4);
        if (way == 0) {
            return argument(plain.latticeN());
        }
        return way == 1 ? plain.latticeN() / 2 : 0;
    }

    private void walk() {
        for (int call = 0; call < CALLS && !CHECKS.hasManyWrong(); call++) {
            int way = below(30);
            if (way < 5) {
                edit(below(8));
            } else if (way < 6) {
                int left = plain.undo();
                fullHistories += left == 3 ? 1 : 0;
                CHECKS.due("undo()", real.undo(), left);
            } else if (way < 12) {
                askMovements(below(5));
            } else if (way < 18) {
                askCells(below(6));
            } else if (way < 24) {
                askType(below(6));
            } else {
                askGroup(below(7));
            }
        }
    }

    private void edit(int way) {
        if (way == 0) {
            int kind = argument(2);
            int n = below(12) == 0 ? argument(7) : 1 + below(5);
            CHECKS.due("setLattice(" + kind + ", " + n + ")", real.setLattice(kind, n), plain.setLattice(kind, n));
            return;
        }
        int linear = argument(plain.partCount());
        int u = translation();
        int v = translation();
        if (way < 4) {
            int want = plain.addGenerator(linear, u, v);
            limits += want == -2 ? 1 : 0;
            CHECKS.due("addGenerator(" + linear + ", " + u + ", " + v + ")", real.addGenerator(linear, u, v), want);
        } else if (way < 6) {
            int index = argument(plain.generatorCount());
            CHECKS.due("removeGenerator(" + index + ")", real.removeGenerator(index), plain.removeGenerator(index));
        } else {
            int index = argument(plain.generatorCount());
            CHECKS.due("setGenerator(" + index + ", " + linear + ", " + u + ", " + v + ")",
                    real.setGenerator(index, linear, u, v), plain.setGenerator(index, linear, u, v));
        }
    }

    private void askMovements(int way) {
        int code = argument(plain.codeCount());
        switch (way) {
            case 0:
                CHECKS.due("contains(" + code + ")", real.contains(code), plain.contains(code));
                break;
            case 1:
                int h = argument(plain.codeCount());
                CHECKS.due("product(" + code + ", " + h + ")", real.product(code, h), plain.product(code, h));
                break;
            case 2:
                CHECKS.due("orderOf(" + code + ")", real.orderOf(code), plain.orderOf(code));
                break;
            case 3:
                CHECKS.due("kindOf(" + code + ")", real.kindOf(code), plain.kindOf(code));
                break;
            default:
                int index = argument(plain.order());
                CHECKS.due("element(" + index + ")", real.element(index), plain.element(index));
                break;
        }
    }

    private void askCells(int way) {
        int x = argument(plain.latticeN());
        int y = argument(plain.latticeN());
        int colors = argument(5);
        switch (way) {
            case 0:
                CHECKS.due("orbitSize(" + x + ", " + y + ")", real.orbitSize(x, y), plain.orbitSize(x, y));
                break;
            case 1:
                CHECKS.due("orbitFirst(" + x + ", " + y + ")", real.orbitFirst(x, y), plain.orbitFirst(x, y));
                break;
            case 2:
                CHECKS.due("stabilizerOrder(" + x + ", " + y + ")", real.stabilizerOrder(x, y),
                        plain.stabilizerOrder(x, y));
                break;
            case 3:
                CHECKS.due("orbitCount()", real.orbitCount(), plain.orbitCount());
                break;
            case 4:
                CHECKS.due("invariantColorings(" + colors + ")", real.invariantColorings(colors),
                        plain.invariantColorings(colors));
                break;
            default:
                CHECKS.due("coloringClasses(" + colors + ")", real.coloringClasses(colors),
                        plain.coloringClasses(colors));
                break;
        }
    }

    private void askType(int way) {
        switch (way) {
            case 0:
                CHECKS.due("linearParts()", real.linearParts(), plain.linearParts());
                break;
            case 1:
                CHECKS.due("rotationOrder()", real.rotationOrder(), plain.rotationOrder());
                break;
            case 2:
                CHECKS.due("mirrorDirections()", real.mirrorDirections(), plain.mirrorDirections());
                break;
            case 3:
                CHECKS.due("isCentered()", real.isCentered(), plain.isCentered());
                break;
            case 4:
                CHECKS.due("isSymmorphic()", real.isSymmorphic(), plain.isSymmorphic());
                break;
            default:
                int type = plain.type();
                TYPES[type] = true;
                CHECKS.due("type()", real.type(), type);
                break;
        }
    }

    private void askGroup(int way) {
        int kind = argument(4);
        int index = argument(plain.generatorCount());
        switch (way) {
            case 0:
                CHECKS.due("order()", real.order(), plain.order());
                break;
            case 1:
            case 2:
                CHECKS.due("count(" + kind + ")", real.count(kind), plain.count(kind));
                break;
            case 3:
                CHECKS.due("isAbelian()", real.isAbelian(), plain.isAbelian());
                break;
            case 4:
                CHECKS.due("conjugacyClasses()", real.conjugacyClasses(), plain.conjugacyClasses());
                break;
            default:
                CHECKS.due("generator(" + index + ")", real.generator(index), plain.generator(index));
                break;
        }
    }
}

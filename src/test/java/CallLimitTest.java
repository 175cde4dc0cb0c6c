/** An object is used for at most 512 calls: the 512th is answered like the first. */
final class CallLimitTest {
    private static final Checks CHECKS = new Checks();
    private static final int CALLS = 512;

    private interface Call {
        long on(WallpaperGroups x);
    }

    private record Question(String name, long due, Call call) { }

    /** Of quarter turns and a reflection, N = 3: p4m, whose cells are the middle, sides and corners. */
    private static final Question[] QUESTIONS = {
        new Question("generator(1)", 36, x -> x.generator(1)),
        new Question("generator(2)", -3, x -> x.generator(2)),
        new Question("order()", 8, WallpaperGroups::order),
        new Question("element(7)", 63, x -> x.element(7)),
        new Question("element(8)", -3, x -> x.element(8)),
        new Question("contains(63)", 1, x -> x.contains(63)),
        new Question("contains(72)", -1, x -> x.contains(72)),
        new Question("product(9, 36)", 45, x -> x.product(9, 36)),
        new Question("orderOf(9)", 4, x -> x.orderOf(9)),
        new Question("kindOf(39)", 3, x -> x.kindOf(39)),
        new Question("count(2)", 4, x -> x.count(2)),
        new Question("isAbelian()", 0, WallpaperGroups::isAbelian),
        new Question("conjugacyClasses()", 5, WallpaperGroups::conjugacyClasses),
        new Question("linearParts()", 8, WallpaperGroups::linearParts),
        new Question("rotationOrder()", 4, WallpaperGroups::rotationOrder),
        new Question("mirrorDirections()", 4, WallpaperGroups::mirrorDirections),
        new Question("isCentered()", 1, WallpaperGroups::isCentered),
        new Question("type()", 14, WallpaperGroups::type),
        new Question("orbitSize(2, 2)", 4, x -> x.orbitSize(2, 2)),
        new Question("orbitFirst(2, 2)", 4, x -> x.orbitFirst(2, 2)),
        new Question("stabilizerOrder(2, 2)", 2, x -> x.stabilizerOrder(2, 2)),
        new Question("orbitCount()", 3, WallpaperGroups::orbitCount),
        new Question("isSymmorphic()", 1, WallpaperGroups::isSymmorphic),
        new Question("invariantColorings(2)", 8, x -> x.invariantColorings(2)),
        // (2^9 + 2^5 + 2 * 2^3 + 4 * 2^6) / 8
        new Question("coloringClasses(2)", 102, x -> x.coloringClasses(2)),
    };

    public static void main(String[] args) {
        for (Question question : QUESTIONS) {
            theSameQuestion(question);
            behindManyEdits(question);
        }
        manyLattices();
        manyReplacements();
        manyAddedAndRemoved();
        manyUndos();
        fourUndosAtTheEnd();
        anEditBehindManyRefusedCalls();
        CHECKS.end();
    }

    private static void theSameQuestion(Question question) {
        CHECKS.begin("512 calls, all but three of one question");
        WallpaperGroups x = Groups.made(0, 3, 1, 0, 0, 4, 0, 0);
        for (int call = 4; call <= CALLS; call++) {
            CHECKS.due(question.name() + " as call " + call, question.call().on(x), question.due());
        }
    }

    private static void behindManyEdits(Question question) {
        CHECKS.begin("512 calls, the last one behind 511 edits");
        WallpaperGroups x = new WallpaperGroups();
        for (int call = 1; call <= CALLS - 4; call++) {
            CHECKS.due("setLattice as call " + call, x.setLattice(call % 2, 1 + call % 5), before(call));
        }
        CHECKS.due("setLattice(0, 3)", x.setLattice(0, 3), 1 + (CALLS - 4) % 5);
        CHECKS.due("addGenerator(1, 0, 0)", x.addGenerator(1, 0, 0), 4);
        CHECKS.due("addGenerator(4, 0, 0)", x.addGenerator(4, 0, 0), 8);
        CHECKS.due(question.name() + " as call 512", question.call().on(x), question.due());
    }

    private static int before(int call) {
        return call == 1 ? 4 : 1 + (call - 1) % 5;
    }

    private static void manyLattices() {
        CHECKS.begin("512 calls of setLattice");
        WallpaperGroups x = new WallpaperGroups();
        for (int call = 1; call <= CALLS; call++) {
            CHECKS.due("setLattice as call " + call, x.setLattice(call % 2, 1 + call % 5), before(call));
        }
    }

    private static void manyReplacements() {
        CHECKS.begin("511 calls of setGenerator");
        WallpaperGroups x = new WallpaperGroups();
        CHECKS.due("addGenerator(0, 0, 0)", x.addGenerator(0, 0, 0), 1);
        for (int i = 1; i < CALLS; i++) {
            int code = i % 128;
            CHECKS.due("setGenerator as call " + (i + 1), x.setGenerator(0, code / 16, code % 16 / 4, code % 4),
                    (i - 1) % 128);
        }
    }

    private static void manyAddedAndRemoved() {
        CHECKS.begin("512 calls of addGenerator and removeGenerator");
        WallpaperGroups x = new WallpaperGroups();
        for (int round = 0; round < CALLS / 8; round++) {
            CHECKS.due("addGenerator(0, 2, 0)", x.addGenerator(0, 2, 0), 2);
            CHECKS.due("addGenerator(0, 0, 2)", x.addGenerator(0, 0, 2), 4);
            CHECKS.due("addGenerator(2, 0, 0)", x.addGenerator(2, 0, 0), 8);
            CHECKS.due("addGenerator(4, 0, 0)", x.addGenerator(4, 0, 0), 16);
            CHECKS.due("removeGenerator(0)", x.removeGenerator(0), 8);
            CHECKS.due("removeGenerator(2)", x.removeGenerator(2), 4);
            CHECKS.due("removeGenerator(1)", x.removeGenerator(1), 2);
            CHECKS.due("removeGenerator(0)", x.removeGenerator(0), 1);
        }
    }

    private static void manyUndos() {
        CHECKS.begin("512 calls, edits and undos in turns, and undo beyond");
        WallpaperGroups x = new WallpaperGroups();
        for (int round = 0; round < CALLS / 4; round++) {
            CHECKS.due("addGenerator(1, 1, 0)", x.addGenerator(1, 1, 0), 4);
            CHECKS.due("undo()", x.undo(), 0);
            CHECKS.due("undo() of nothing", x.undo(), -3);
            CHECKS.due("order()", x.order(), 1);
        }
    }

    private static void fourUndosAtTheEnd() {
        CHECKS.begin("508 edits and 4 undos");
        WallpaperGroups x = new WallpaperGroups();
        for (int call = 1; call <= CALLS - 4; call++) {
            CHECKS.due("setLattice as call " + call, x.setLattice(call % 2, 1 + call % 5), before(call));
        }
        for (int left = 3; left >= 0; left--) {
            CHECKS.due("undo() with " + left + " left", x.undo(), left);
        }
        CHECKS.begin("511 edits and an undo");
        x = new WallpaperGroups();
        for (int call = 1; call <= CALLS - 1; call++) {
            CHECKS.due("setLattice as call " + call, x.setLattice(call % 2, 1 + call % 5), before(call));
        }
        CHECKS.due("undo() as call 512", x.undo(), 3);
    }

    private static void anEditBehindManyRefusedCalls() {
        CHECKS.begin("508 refused calls, then an edit");
        WallpaperGroups x = new WallpaperGroups();
        for (int round = 0; round < (CALLS - 4) / 4; round++) {
            CHECKS.due("setLattice(0, 6)", x.setLattice(0, 6), -1);
            CHECKS.due("addGenerator(8, 0, 0)", x.addGenerator(8, 0, 0), -1);
            CHECKS.due("removeGenerator(0)", x.removeGenerator(0), -1);
            CHECKS.due("undo()", x.undo(), -3);
        }
        CHECKS.due("addGenerator(7, 3, 3)", x.addGenerator(7, 3, 3), 2);
        CHECKS.due("generator(0)", x.generator(0), 127);
        CHECKS.due("undo()", x.undo(), 0);
        CHECKS.due("generator(0)", x.generator(0), -3);
    }
}

/** Two objects that should be in the same state: asked the same, they must answer the same. */
final class Twins {
    private final Checks checks;
    private final WallpaperGroups one;
    private final WallpaperGroups other;

    Twins(Checks checks, WallpaperGroups one, WallpaperGroups other) {
        this.checks = checks;
        this.one = one;
        this.other = other;
    }

    /** Some 60 calls to each, none of them an edit. */
    void answerAlike(String when) {
        for (int i = 0; i <= 4; i++) {
            checks.due(when + "generator(" + i + ")", one.generator(i), other.generator(i));
        }
        elementsAlike(when);
        typesAlike(when);
        cellsAlike(when);
    }

    private void elementsAlike(String when) {
        int order = other.order();
        checks.due(when + "order()", one.order(), order);
        checks.due(when + "the last element", one.element(order - 1), other.element(order - 1));
        checks.due(when + "no element", one.element(order), other.element(order));
        checks.due(when + "isAbelian()", one.isAbelian(), other.isAbelian());
        checks.due(when + "conjugacyClasses()", one.conjugacyClasses(), other.conjugacyClasses());
        for (int kind = 0; kind <= 3; kind++) {
            checks.due(when + "count(" + kind + ")", one.count(kind), other.count(kind));
        }
        for (int n = 1; n <= 5; n++) {
            // The number of codes tells the lattice.
            for (int parts = 8; parts <= 12; parts += 4) {
                int code = parts * n * n;
                checks.due(when + "contains(" + code + ")", one.contains(code), other.contains(code));
                checks.due(when + "contains(" + (code - 1) + ")", one.contains(code - 1), other.contains(code - 1));
            }
        }
    }

    private void typesAlike(String when) {
        checks.due(when + "linearParts()", one.linearParts(), other.linearParts());
        checks.due(when + "rotationOrder()", one.rotationOrder(), other.rotationOrder());
        checks.due(when + "mirrorDirections()", one.mirrorDirections(), other.mirrorDirections());
        checks.due(when + "isCentered()", one.isCentered(), other.isCentered());
        checks.due(when + "type()", one.type(), other.type());
    }

    private void cellsAlike(String when) {
        for (int i = 0; i <= 5; i++) {
            checks.due(when + "orbitSize on the diagonal", one.orbitSize(i, i), other.orbitSize(i, i));
            checks.due(when + "orbitFirst in a row", one.orbitFirst(0, i), other.orbitFirst(0, i));
            checks.due(when + "stabilizerOrder in a column", one.stabilizerOrder(i, 0), other.stabilizerOrder(i, 0));
        }
        checks.due(when + "orbitCount()", one.orbitCount(), other.orbitCount());
        checks.due(when + "isSymmorphic()", one.isSymmorphic(), other.isSymmorphic());
        checks.due(when + "invariantColorings(2)", one.invariantColorings(2), other.invariantColorings(2));
        checks.due(when + "coloringClasses(2)", one.coloringClasses(2), other.coloringClasses(2));
    }

    /** Undoes all that can be undone; what each undo brings back must be alike, too. */
    void haveTheSamePast(String when) {
        for (int undone = 1; undone <= 5; undone++) {
            int left = other.undo();
            checks.due(when + "undo() number " + undone, one.undo(), left);
            if (left < 0) {
                return;
            }
            answerAlike(when + "after undo() number " + undone + ", ");
        }
        checks.holds(when + "the past ends after 4 edits", false);
    }
}

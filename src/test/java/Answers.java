/** Compares all answers about one group with those of PlainModel. */
final class Answers {
    private Answers() { }

    /** Some 410 calls at most, so an object that is fresh but for a few edits stays within its 512. */
    static void alike(Checks checks, WallpaperGroups real, PlainModel plain) {
        typesAlike(checks, real, plain);
        elementsAlike(checks, real, plain);
        coloringsAlike(checks, real, plain);
        cellsAlike(checks, real, plain);
    }

    private static void typesAlike(Checks checks, WallpaperGroups real, PlainModel plain) {
        checks.due("linearParts()", real.linearParts(), plain.linearParts());
        checks.due("rotationOrder()", real.rotationOrder(), plain.rotationOrder());
        checks.due("mirrorDirections()", real.mirrorDirections(), plain.mirrorDirections());
        checks.due("isCentered()", real.isCentered(), plain.isCentered());
        checks.due("type()", real.type(), plain.type());
    }

    private static void elementsAlike(Checks checks, WallpaperGroups real, PlainModel plain) {
        int order = plain.order();
        checks.due("order()", real.order(), order);
        checks.due("isAbelian()", real.isAbelian(), plain.isAbelian());
        checks.due("conjugacyClasses()", real.conjugacyClasses(), plain.conjugacyClasses());
        for (int code = 0; code < plain.codeCount(); code++) {
            checks.due("contains(" + code + ")", real.contains(code), plain.contains(code));
        }
        for (int index = Math.max(0, order - 4); index <= order; index++) {
            checks.due("element(" + index + ")", real.element(index), plain.element(index));
        }
        for (int kind = 0; kind < 4; kind++) {
            checks.due("count(" + kind + ")", real.count(kind), plain.count(kind));
        }
    }

    private static void coloringsAlike(Checks checks, WallpaperGroups real, PlainModel plain) {
        for (int colors = 1; colors <= 4; colors++) {
            checks.due("invariantColorings(" + colors + ")", real.invariantColorings(colors),
                    plain.invariantColorings(colors));
            checks.due("coloringClasses(" + colors + ")", real.coloringClasses(colors),
                    plain.coloringClasses(colors));
        }
    }

    private static void cellsAlike(Checks checks, WallpaperGroups real, PlainModel plain) {
        checks.due("orbitCount()", real.orbitCount(), plain.orbitCount());
        checks.due("isSymmorphic()", real.isSymmorphic(), plain.isSymmorphic());
        for (int x = 0; x < plain.latticeN(); x++) {
            for (int y = 0; y < plain.latticeN(); y++) {
                checks.due("orbitSize(" + x + ", " + y + ")", real.orbitSize(x, y), plain.orbitSize(x, y));
                checks.due("orbitFirst(" + x + ", " + y + ")", real.orbitFirst(x, y), plain.orbitFirst(x, y));
                checks.due("stabilizerOrder(" + x + ", " + y + ")", real.stabilizerOrder(x, y),
                        plain.stabilizerOrder(x, y));
            }
        }
    }
}

/** Edits and undo at their edges: which calls are edits, how many can be undone, what comes back. */
final class HistoryTest {
    private static final Checks CHECKS = new Checks();

    public static void main(String[] args) {
        eachEditIsOne();
        editsThatChangeNothing();
        Groups.eachLattice(HistoryTest::setLatticeToTheSame);
        Groups.eachLattice(HistoryTest::setLatticeRemovesAllGenerators);
        Groups.eachLattice(HistoryTest::undoBringsBackTheLattice);
        addedBehindTheOthers();
        removedFirstMiddleAndLast();
        replacedInItsPlace();
        removedLeavesNoTrace();
        undoneToTheFirstState();
        fifthEditPushesTheFirstOut();
        undoIsNoEdit();
        editsAfterUndo();
        editsAfterAllIsUndone();
        undoOfEachEditAgain();
        questionsSeeEachEdit();
        questionsSeeWhatIsUndone();
        CHECKS.end();
    }

    private static void eachEditIsOne() {
        CHECKS.begin("setLattice, addGenerator, removeGenerator and setGenerator are edits");
        WallpaperGroups x = new WallpaperGroups();
        CHECKS.due("setLattice(1, 2)", x.setLattice(1, 2), 4);
        CHECKS.due("undo() of setLattice", x.undo(), 0);
        CHECKS.due("code 48 of a hexagonal lattice, N = 2", x.contains(48), 0);
        CHECKS.due("code 128 of a square lattice, N = 4", x.contains(128), -1);
        CHECKS.due("addGenerator(3, 2, 1)", x.addGenerator(3, 2, 1), 4);
        CHECKS.due("undo() of addGenerator", x.undo(), 0);
        CHECKS.due("generator(0)", x.generator(0), -3);
        CHECKS.due("addGenerator(3, 2, 1)", x.addGenerator(3, 2, 1), 4);
        CHECKS.due("setGenerator(0, 4, 0, 0)", x.setGenerator(0, 4, 0, 0), 57);
        CHECKS.due("undo() of setGenerator", x.undo(), 1);
        CHECKS.due("generator(0)", x.generator(0), 57);
        CHECKS.due("order()", x.order(), 4);
        CHECKS.due("removeGenerator(0)", x.removeGenerator(0), 1);
        CHECKS.due("undo() of removeGenerator", x.undo(), 1);
        CHECKS.due("generator(0)", x.generator(0), 57);
        CHECKS.due("order()", x.order(), 4);
    }

    private static void editsThatChangeNothing() {
        CHECKS.begin("an edit that changes nothing is an edit, too");
        WallpaperGroups x = new WallpaperGroups();
        CHECKS.due("setLattice(0, 4) on a new object", x.setLattice(0, 4), 4);
        CHECKS.due("addGenerator(1, 2, 3)", x.addGenerator(1, 2, 3), 4);
        CHECKS.due("setGenerator(0, 1, 2, 3), what it is", x.setGenerator(0, 1, 2, 3), 27);
        CHECKS.due("addGenerator(1, 2, 3) once more", x.addGenerator(1, 2, 3), 4);
        CHECKS.due("undo() of a generator that adds nothing", x.undo(), 3);
        CHECKS.due("generator(1)", x.generator(1), -3);
        CHECKS.due("undo() of setGenerator to the same", x.undo(), 2);
        CHECKS.due("generator(0)", x.generator(0), 27);
        CHECKS.due("undo() of addGenerator", x.undo(), 1);
        CHECKS.due("generator(0)", x.generator(0), -3);
        CHECKS.due("undo() of setLattice to the same", x.undo(), 0);
        CHECKS.due("undo()", x.undo(), -3);
        x = Groups.made(0, 4, 1, 0, 0);
        for (int i = 0; i < 4; i++) {
            CHECKS.due("setGenerator(0, 1, 0, 0), what it is", x.setGenerator(0, 1, 0, 0), 16);
        }
        for (int i = 3; i >= 0; i--) {
            CHECKS.due("undo() of it", x.undo(), i);
        }
        CHECKS.due("undo() of the edits that they pushed out", x.undo(), -3);
        CHECKS.due("generator(0)", x.generator(0), 16);
    }

    private static void setLatticeToTheSame(int kind, int n) {
        CHECKS.begin("2 to the lattice that is set already; " + Groups.name(kind, n));
        WallpaperGroups x = Groups.made(kind, n, 1, 0, 0);
        CHECKS.due("setLattice", x.setLattice(kind, n), n);
        CHECKS.due("order(), without generators", x.order(), 1);
        CHECKS.due("undo()", x.undo(), 2);
        CHECKS.due("generator(0)", x.generator(0), n * n);
        CHECKS.due("order()", x.order(), Groups.turns(kind));
    }

    private static void setLatticeRemovesAllGenerators(int kind, int n) {
        CHECKS.begin("2 removes all generators; " + Groups.name(kind, n));
        for (int size = 0; size <= 4; size++) {
            WallpaperGroups x = Groups.withGenerators(size, 1, 5);
            CHECKS.due("setLattice", x.setLattice(kind, n), 5);
            CHECKS.due("order()", x.order(), 1);
            for (int i = 0; i <= 4; i++) {
                CHECKS.due("generator(" + i + ")", x.generator(i), -3);
            }
            CHECKS.due("orbitCount()", x.orbitCount(), n * n);
            CHECKS.due("undo()", x.undo(), Math.min(size + 1, 3));
            for (int i = 0; i <= 4; i++) {
                CHECKS.due("generator(" + i + ") again", x.generator(i), i < size ? i * 25 : -3);
            }
        }
    }

    private static void undoBringsBackTheLattice(int kind, int n) {
        CHECKS.begin("6 undo of setLattice brings back the kind, N and the generators; " + Groups.name(kind, n));
        int last = Groups.parts(kind) - 1;
        int edge = n - 1;
        for (int other = 1; other <= 5; other++) {
            WallpaperGroups x = Groups.made(kind, n, last, edge, edge, 0, edge, 0);
            Twins twins = new Twins(CHECKS, x, Groups.made(kind, n, last, edge, edge, 0, edge, 0));
            CHECKS.due("setLattice(" + (1 - kind) + ", " + other + ")", x.setLattice(1 - kind, other), n);
            CHECKS.due("addGenerator(1, 0, 0)", x.addGenerator(1, 0, 0), Groups.turns(1 - kind));
            CHECKS.due("undo()", x.undo(), 3);
            CHECKS.due("undo()", x.undo(), 2);
            twins.answerAlike("");
        }
    }

    private static void addedBehindTheOthers() {
        CHECKS.begin("3 adds a generator behind the others");
        WallpaperGroups x = new WallpaperGroups();
        int[] codes = {66, 27, 5, 5};
        for (int i = 0; i < 4; i++) {
            CHECKS.holds("a generator is taken",
                    x.addGenerator(codes[i] / 16, codes[i] % 16 / 4, codes[i] % 4) > 0);
            for (int j = 0; j < 4; j++) {
                CHECKS.due("generator(" + j + ") of " + (i + 1), x.generator(j), j <= i ? codes[j] : -3);
            }
        }
        CHECKS.due("generator(4)", x.generator(4), -3);
    }

    private static void removedFirstMiddleAndLast() {
        CHECKS.begin("4 those behind it move down by one");
        for (int index = 0; index < 4; index++) {
            WallpaperGroups x = Groups.withGenerators(4, 1, 2);
            CHECKS.holds("removeGenerator(" + index + ")", x.removeGenerator(index) > 0);
            for (int i = 0; i < 3; i++) {
                CHECKS.due("generator(" + i + ")", x.generator(i), (i < index ? i : i + 1) * 4);
            }
            CHECKS.due("generator(3)", x.generator(3), -3);
            CHECKS.due("undo()", x.undo(), 3);
            for (int i = 0; i < 4; i++) {
                CHECKS.due("generator(" + i + ") again", x.generator(i), i * 4);
            }
        }
    }

    private static void replacedInItsPlace() {
        CHECKS.begin("5 replaces a generator, in its place");
        for (int index = 0; index < 4; index++) {
            WallpaperGroups x = Groups.withGenerators(4, 1, 2);
            CHECKS.due("setGenerator(" + index + ", 11, 1, 1)", x.setGenerator(index, 11, 1, 1), index * 4);
            for (int i = 0; i < 4; i++) {
                CHECKS.due("generator(" + i + ")", x.generator(i), i == index ? 47 : i * 4);
            }
            CHECKS.due("undo()", x.undo(), 3);
            for (int i = 0; i < 4; i++) {
                CHECKS.due("generator(" + i + ") again", x.generator(i), i * 4);
            }
        }
    }

    private static int[] without(int[] generators, int index) {
        int[] rest = new int[generators.length - 3];
        System.arraycopy(generators, 0, rest, 0, 3 * index);
        System.arraycopy(generators, 3 * index + 3, rest, 3 * index, rest.length - 3 * index);
        return rest;
    }

    /** A generator that does not commute with the others would still show in isAbelian and the classes. */
    private static void removedLeavesNoTrace() {
        int[][] lists = {
            {1, 0, 0}, {1, 0, 0, 4, 0, 0}, {1, 0, 0, 4, 0, 0, 0, 1, 2}, {1, 0, 0, 4, 0, 0, 0, 1, 2, 2, 3, 2}};
        for (int[] list : lists) {
            CHECKS.begin("2, 4, 6 a generator that is gone leaves no trace, of " + list.length / 3);
            for (int index = 0; index < list.length / 3; index++) {
                WallpaperGroups x = Groups.made(0, 5, list);
                CHECKS.holds("removeGenerator(" + index + ")", x.removeGenerator(index) > 0);
                new Twins(CHECKS, x, Groups.made(0, 5, without(list, index))).answerAlike(index + " removed: ");
            }
            WallpaperGroups x = Groups.made(0, 5, list);
            CHECKS.holds("undo()", x.undo() >= 0);
            new Twins(CHECKS, x, Groups.made(0, 5, without(list, list.length / 3 - 1))).answerAlike("undone: ");
            CHECKS.due("setLattice(0, 5)", x.setLattice(0, 5), 5);
            CHECKS.due("addGenerator(1, 0, 0)", x.addGenerator(1, 0, 0), 4);
            new Twins(CHECKS, x, Groups.made(0, 5, 1, 0, 0)).answerAlike("all removed, one added: ");
        }
    }

    private static void undoneToTheFirstState() {
        CHECKS.begin("6 undone to a new object's state");
        for (int edits = 1; edits <= 4; edits++) {
            WallpaperGroups x = new WallpaperGroups();
            for (int i = 0; i < edits; i++) {
                CHECKS.holds("an edit", x.addGenerator(i, i, 0) > 0);
            }
            for (int left = edits - 1; left >= 0; left--) {
                CHECKS.due("undo() with " + left + " left", x.undo(), left);
            }
            CHECKS.due("undo()", x.undo(), -3);
            new Twins(CHECKS, x, new WallpaperGroups()).answerAlike("");
        }
    }

    private static void fifthEditPushesTheFirstOut() {
        CHECKS.begin("6 the last 4 edits can be undone, the fifth last cannot");
        WallpaperGroups x = new WallpaperGroups();
        CHECKS.due("setLattice(1, 3), the first edit", x.setLattice(1, 3), 4);
        CHECKS.due("addGenerator(2, 0, 0)", x.addGenerator(2, 0, 0), 3);
        CHECKS.due("addGenerator(6, 0, 0)", x.addGenerator(6, 0, 0), 6);
        CHECKS.due("removeGenerator(0)", x.removeGenerator(0), 2);
        CHECKS.due("setGenerator(0, 1, 0, 0), the fifth edit", x.setGenerator(0, 1, 0, 0), 54);
        CHECKS.due("undo()", x.undo(), 3);
        CHECKS.due("generator(0)", x.generator(0), 54);
        CHECKS.due("undo()", x.undo(), 2);
        CHECKS.due("generator(1)", x.generator(1), 54);
        CHECKS.due("undo()", x.undo(), 1);
        CHECKS.due("undo()", x.undo(), 0);
        CHECKS.due("generator(0)", x.generator(0), -3);
        CHECKS.due("undo() of the first edit", x.undo(), -3);
        CHECKS.due("undo() of the first edit again", x.undo(), -3);
        new Twins(CHECKS, x, Groups.made(1, 3)).answerAlike("the first edit stands: ");
    }

    private static void undoIsNoEdit() {
        CHECKS.begin("6 undoes the latest edit that has not been undone, never an undo");
        WallpaperGroups x = Groups.made(0, 4, 0, 0, 1, 0, 0, 2, 0, 0, 3);
        CHECKS.due("undo()", x.undo(), 3);
        CHECKS.due("generator(2)", x.generator(2), -3);
        CHECKS.due("undo() goes on", x.undo(), 2);
        CHECKS.due("generator(2) stays away", x.generator(2), -3);
        CHECKS.due("generator(1)", x.generator(1), -3);
        CHECKS.due("undo() goes on", x.undo(), 1);
        CHECKS.due("generator(0)", x.generator(0), -3);
        CHECKS.due("undo() goes on", x.undo(), 0);
        CHECKS.due("undo()", x.undo(), -3);
    }

    private static void editsAfterUndo() {
        CHECKS.begin("6 an edit after an undo");
        WallpaperGroups x = Groups.made(0, 4, 0, 0, 1, 0, 0, 2);
        CHECKS.due("undo() of the second generator", x.undo(), 2);
        CHECKS.due("addGenerator(0, 1, 0)", x.addGenerator(0, 1, 0), 16);
        CHECKS.due("generator(1)", x.generator(1), 4);
        CHECKS.due("undo() of it, not of what was undone before", x.undo(), 2);
        CHECKS.due("generator(0)", x.generator(0), 1);
        CHECKS.due("generator(1)", x.generator(1), -3);
        CHECKS.due("undo() of the first generator", x.undo(), 1);
        CHECKS.due("generator(0)", x.generator(0), -3);
        CHECKS.due("undo() of setLattice", x.undo(), 0);
        CHECKS.due("undo()", x.undo(), -3);
    }

    private static void editsAfterAllIsUndone() {
        CHECKS.begin("6 a full history, all undone, and full once more");
        WallpaperGroups x = new WallpaperGroups();
        for (int round = 0; round < 3; round++) {
            for (int i = 0; i < 4; i++) {
                CHECKS.due("addGenerator, round " + round, x.addGenerator(0, 0, round), new int[] {1, 4, 2}[round]);
            }
            for (int left = 3; left >= 0; left--) {
                CHECKS.due("undo(), round " + round, x.undo(), left);
                CHECKS.due("generator(" + left + "), round " + round, x.generator(left), -3);
            }
            CHECKS.due("undo(), round " + round, x.undo(), -3);
        }
    }

    private static void undoOfEachEditAgain() {
        CHECKS.begin("6 the same edit, undone and made again");
        WallpaperGroups x = Groups.made(0, 5, 1, 0, 0);
        for (int i = 0; i < 20; i++) {
            CHECKS.due("addGenerator(4, 0, 0)", x.addGenerator(4, 0, 0), 8);
            CHECKS.due("undo()", x.undo(), 2);
            CHECKS.due("removeGenerator(0)", x.removeGenerator(0), 1);
            CHECKS.due("undo()", x.undo(), 2);
            CHECKS.due("setLattice(1, 1)", x.setLattice(1, 1), 5);
            CHECKS.due("undo()", x.undo(), 2);
            CHECKS.due("order()", x.order(), 4);
        }
    }

    private static void questionsSeeEachEdit() {
        CHECKS.begin("2 to 5 every question is answered from what stands after an edit");
        WallpaperGroups x = Groups.made(0, 4, 1, 0, 0);
        CHECKS.due("addGenerator(4, 2, 2)", x.addGenerator(4, 2, 2), 8);
        new Twins(CHECKS, x, Groups.made(0, 4, 1, 0, 0, 4, 2, 2)).answerAlike("one added: ");
        CHECKS.due("setGenerator(0, 2, 3, 0)", x.setGenerator(0, 2, 3, 0), 16);
        CHECKS.due("order()", x.order(), 4);
        CHECKS.due("type(): pgg", x.type(), 5);
        new Twins(CHECKS, x, Groups.made(0, 4, 2, 3, 0, 4, 2, 2)).answerAlike("one replaced: ");
        CHECKS.due("removeGenerator(0)", x.removeGenerator(0), 2);
        new Twins(CHECKS, x, Groups.made(0, 4, 4, 2, 2)).answerAlike("one removed: ");
        CHECKS.due("setLattice(1, 2)", x.setLattice(1, 2), 4);
        new Twins(CHECKS, x, Groups.made(1, 2)).answerAlike("all removed: ");
    }

    private static void questionsSeeWhatIsUndone() {
        CHECKS.begin("6 every question is answered from what stands after an undo");
        WallpaperGroups x = Groups.made(0, 4, 1, 0, 0);
        x.addGenerator(4, 2, 2);
        x.addGenerator(0, 1, 0);
        CHECKS.due("undo()", x.undo(), 3);
        new Twins(CHECKS, x, Groups.made(0, 4, 1, 0, 0, 4, 2, 2)).answerAlike("one undone: ");
        CHECKS.due("undo()", x.undo(), 2);
        new Twins(CHECKS, x, Groups.made(0, 4, 1, 0, 0)).answerAlike("two undone: ");
        CHECKS.due("undo()", x.undo(), 1);
        new Twins(CHECKS, x, Groups.made(0, 4)).answerAlike("three undone: ");
        CHECKS.due("undo()", x.undo(), 0);
        new Twins(CHECKS, x, new WallpaperGroups()).answerAlike("four undone: ");
    }
}

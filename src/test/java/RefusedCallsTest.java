import java.util.ArrayList;
import java.util.List;

/**
 * A call that returns an error changes nothing and is no edit: in several states, each refused call
 * is made on one of two like objects, which must stay alike, and whose past must be alike, too.
 */
final class RefusedCallsTest {
    private static final Checks CHECKS = new Checks();
    private static final int LOW = Groups.LOW;
    private static final int HIGH = Groups.HIGH;

    private interface Make {
        WallpaperGroups object();
    }

    private interface Call {
        long on(WallpaperGroups x);
    }

    private record Refused(String name, long due, Call call) { }

    /** A state by how it is made, with what the refused calls depend on. */
    private record State(String name, int kind, int n, int size, boolean canUndo, Make make) {
        int parts() {
            return Groups.parts(kind);
        }

        int codes() {
            return Groups.codes(kind, n);
        }
    }

    private static final List<State> STATES = List.of(
            new State("a new object", 0, 4, 0, false, WallpaperGroups::new),
            new State("one generator", 0, 4, 1, true, RefusedCallsTest::oneGenerator),
            new State("four generators, a full history", 1, 3, 4, true, RefusedCallsTest::fourGenerators),
            new State("four generators, N = 1", 0, 1, 4, true, () -> Groups.withGenerators(4, 0, 1)),
            new State("all movements, N = 5", 1, 5, 3, true, () -> Groups.whole(1, 5)),
            new State("a full history and no generators", 1, 2, 0, true, RefusedCallsTest::fullOfLattices),
            new State("two edits undone", 0, 5, 2, true, RefusedCallsTest::twoUndone),
            new State("all undone that can be", 0, 5, 2, false, RefusedCallsTest::usedUpHistory));

    public static void main(String[] args) {
        for (State state : STATES) {
            List<Refused> calls = new ArrayList<>();
            refusedLattices(calls);
            refusedAdding(state, calls);
            refusedRemoving(state, calls);
            refusedReplacing(state, calls);
            refusedUndo(state, calls);
            refusedQuestions(state, calls);
            refusedAboutCells(state, calls);
            for (Refused refused : calls) {
                changesNothing(state, refused);
            }
            manyRefusedCalls(state, calls);
            questionsAreNoEdits(state);
        }
        invalidRatherThanLimit();
        invalidRatherThanNotFound();
        refusedBetweenEdits();
        CHECKS.end();
    }

    // ---- states

    private static WallpaperGroups oneGenerator() {
        WallpaperGroups x = new WallpaperGroups();
        x.addGenerator(5, 1, 2);
        return x;
    }

    private static WallpaperGroups fourGenerators() {
        return Groups.made(1, 3, 0, 1, 1, 2, 0, 0, 6, 0, 0, 11, 2, 1);
    }

    private static WallpaperGroups fullOfLattices() {
        WallpaperGroups x = Groups.made(0, 3, 1, 0, 0);
        x.setLattice(1, 4);
        x.setLattice(0, 5);
        x.setLattice(1, 2);
        return x;
    }

    private static WallpaperGroups twoUndone() {
        WallpaperGroups x = Groups.made(0, 5, 1, 0, 0, 0, 1, 0, 4, 2, 3);
        x.removeGenerator(0);
        x.undo();
        x.undo();
        return x;
    }

    private static WallpaperGroups usedUpHistory() {
        WallpaperGroups x = Groups.made(0, 5, 3, 1, 0, 4, 2, 3);
        for (int i = 0; i < 4; i++) {
            x.setGenerator(0, 1, i, i);
        }
        for (int i = 0; i < 4; i++) {
            x.undo();
        }
        return x;
    }

    // ---- refused calls

    private static void refusedLattices(List<Refused> calls) {
        int[][] wrong = {{-1, 3}, {2, 3}, {0, 0}, {1, 0}, {0, 6}, {1, 6}, {-1, 0}, {2, 6}, {LOW, HIGH}, {HIGH, LOW}};
        for (int[] w : wrong) {
            calls.add(new Refused("setLattice(" + w[0] + ", " + w[1] + ")", -1, x -> x.setLattice(w[0], w[1])));
        }
    }

    /** Linear part, u and v, of which one or all are wrong. */
    private static int[][] wrongMovements(State state) {
        int n = state.n();
        return new int[][] {{-1, 0, 0}, {state.parts(), 0, 0}, {0, -1, 0}, {0, n, 0}, {0, 0, -1}, {0, 0, n},
            {state.parts() - 1, n, n}, {LOW, LOW, LOW}, {HIGH, HIGH, HIGH}};
    }

    private static void refusedAdding(State state, List<Refused> calls) {
        for (int[] w : wrongMovements(state)) {
            calls.add(new Refused("addGenerator(" + w[0] + ", " + w[1] + ", " + w[2] + ")", -1,
                    x -> x.addGenerator(w[0], w[1], w[2])));
        }
        if (state.size() == 4) {
            int last = state.parts() - 1;
            int edge = state.n() - 1;
            calls.add(new Refused("addGenerator(0, 0, 0), a fifth", -2, x -> x.addGenerator(0, 0, 0)));
            calls.add(new Refused("addGenerator at the other ends, a fifth", -2,
                    x -> x.addGenerator(last, edge, edge)));
        }
    }

    private static int[] wrongIndices(State state) {
        return new int[] {-1, state.size(), state.size() + 1, LOW, HIGH};
    }

    private static void refusedRemoving(State state, List<Refused> calls) {
        for (int index : wrongIndices(state)) {
            calls.add(new Refused("removeGenerator(" + index + ")", -1, x -> x.removeGenerator(index)));
        }
    }

    private static void refusedReplacing(State state, List<Refused> calls) {
        for (int index : wrongIndices(state)) {
            calls.add(new Refused("setGenerator(" + index + ", 0, 0, 0)", -1, x -> x.setGenerator(index, 0, 0, 0)));
        }
        for (int index : new int[] {0, state.size() - 1, state.size()}) {
            for (int[] w : wrongMovements(state)) {
                calls.add(new Refused("setGenerator(" + index + ", " + w[0] + ", " + w[1] + ", " + w[2] + ")", -1,
                        x -> x.setGenerator(index, w[0], w[1], w[2])));
            }
        }
    }

    private static void refusedUndo(State state, List<Refused> calls) {
        if (!state.canUndo()) {
            calls.add(new Refused("undo()", -3, WallpaperGroups::undo));
        }
    }

    private static void refusedQuestions(State state, List<Refused> calls) {
        int codes = state.codes();
        calls.add(new Refused("generator(-1)", -1, x -> x.generator(-1)));
        calls.add(new Refused("generator(size)", -3, x -> x.generator(state.size())));
        calls.add(new Refused("element(-1)", -1, x -> x.element(-1)));
        calls.add(new Refused("element(300)", -3, x -> x.element(300)));
        for (int code : new int[] {-1, codes}) {
            calls.add(new Refused("contains(" + code + ")", -1, x -> x.contains(code)));
            calls.add(new Refused("product(" + code + ", 0)", -1, x -> x.product(code, 0)));
            calls.add(new Refused("product(0, " + code + ")", -1, x -> x.product(0, code)));
            calls.add(new Refused("orderOf(" + code + ")", -1, x -> x.orderOf(code)));
            calls.add(new Refused("kindOf(" + code + ")", -1, x -> x.kindOf(code)));
        }
        calls.add(new Refused("count(-1)", -1, x -> x.count(-1)));
        calls.add(new Refused("count(4)", -1, x -> x.count(4)));
    }

    private static void refusedAboutCells(State state, List<Refused> calls) {
        for (int wrong : new int[] {-1, state.n()}) {
            calls.add(new Refused("orbitSize(" + wrong + ", 0)", -1, x -> x.orbitSize(wrong, 0)));
            calls.add(new Refused("orbitFirst(0, " + wrong + ")", -1, x -> x.orbitFirst(0, wrong)));
            calls.add(new Refused("stabilizerOrder(" + wrong + ", 0)", -1, x -> x.stabilizerOrder(wrong, 0)));
        }
        for (int colors : new int[] {0, 5}) {
            calls.add(new Refused("invariantColorings(" + colors + ")", -1, x -> x.invariantColorings(colors)));
            calls.add(new Refused("coloringClasses(" + colors + ")", -1, x -> x.coloringClasses(colors)));
        }
    }

    // ---- what they may not do

    private static void changesNothing(State state, Refused refused) {
        CHECKS.begin("a refused call changes nothing and is no edit; " + state.name() + ", " + refused.name());
        WallpaperGroups asked = state.make().object();
        Twins twins = new Twins(CHECKS, asked, state.make().object());
        CHECKS.due("the call", refused.call().on(asked), refused.due());
        twins.answerAlike("");
        twins.haveTheSamePast("");
    }

    /** If only one in a hundred did something, it would show here, too. */
    private static void manyRefusedCalls(State state, List<Refused> calls) {
        CHECKS.begin("all refused calls, one behind the other; " + state.name());
        WallpaperGroups asked = state.make().object();
        Twins twins = new Twins(CHECKS, asked, state.make().object());
        for (Refused refused : calls) {
            CHECKS.due(refused.name(), refused.call().on(asked), refused.due());
        }
        twins.answerAlike("");
        twins.haveTheSamePast("");
    }

    private static void questionsAreNoEdits(State state) {
        CHECKS.begin("the four edits are setLattice, addGenerator, removeGenerator, setGenerator; " + state.name());
        WallpaperGroups asked = state.make().object();
        WallpaperGroups left = state.make().object();
        askAll(asked, state.codes() - 1, state.n() - 1);
        Twins twins = new Twins(CHECKS, asked, left);
        twins.answerAlike("");
        twins.haveTheSamePast("");
    }

    private static void askAll(WallpaperGroups x, int code, int edge) {
        x.generator(0);
        x.order();
        x.element(0);
        x.contains(code);
        x.product(code, code);
        x.orderOf(code);
        x.kindOf(code);
        x.count(3);
        x.isAbelian();
        x.conjugacyClasses();
        x.linearParts();
        x.rotationOrder();
        x.mirrorDirections();
        x.isCentered();
        x.type();
        x.orbitSize(edge, edge);
        x.orbitFirst(edge, edge);
        x.stabilizerOrder(edge, edge);
        x.orbitCount();
        x.isSymmorphic();
        x.invariantColorings(4);
        x.coloringClasses(4);
    }

    // ---- which error, if there are several

    private static void invalidRatherThanLimit() {
        CHECKS.begin("INVALID_ARGUMENT rather than LIMIT_REACHED");
        Groups.eachLattice((kind, n) -> {
            WallpaperGroups x = Groups.withGenerators(4, kind, n);
            int parts = Groups.parts(kind);
            String name = Groups.name(kind, n) + ": addGenerator";
            CHECKS.due(name + "(-1, 0, 0)", x.addGenerator(-1, 0, 0), -1);
            CHECKS.due(name + "(" + parts + ", 0, 0)", x.addGenerator(parts, 0, 0), -1);
            CHECKS.due(name + "(0, -1, 0)", x.addGenerator(0, -1, 0), -1);
            CHECKS.due(name + "(0, " + n + ", 0)", x.addGenerator(0, n, 0), -1);
            CHECKS.due(name + "(0, 0, -1)", x.addGenerator(0, 0, -1), -1);
            CHECKS.due(name + "(0, 0, " + n + ")", x.addGenerator(0, 0, n), -1);
            CHECKS.due(name + "(0, 0, 0)", x.addGenerator(0, 0, 0), -2);
        });
    }

    /** LIMIT_REACHED and NOT_FOUND are answers of different methods and cannot meet in one call. */
    private static void invalidRatherThanNotFound() {
        CHECKS.begin("INVALID_ARGUMENT rather than NOT_FOUND");
        WallpaperGroups none = new WallpaperGroups();
        CHECKS.due("generator(-1) of none", none.generator(-1), -1);
        CHECKS.due("generator(LOW) of none", none.generator(LOW), -1);
        CHECKS.due("element(-1), order 1", none.element(-1), -1);
        CHECKS.due("element(LOW), order 1", none.element(LOW), -1);
        CHECKS.due("removeGenerator(0) of none", none.removeGenerator(0), -1);
        CHECKS.due("setGenerator(0, 0, 0, 0) of none", none.setGenerator(0, 0, 0, 0), -1);
        WallpaperGroups full = Groups.withGenerators(4, 1, 5);
        CHECKS.due("removeGenerator(4) of four", full.removeGenerator(4), -1);
        CHECKS.due("setGenerator(4, 0, 0, 0) of four, no limit", full.setGenerator(4, 0, 0, 0), -1);
        CHECKS.due("setGenerator(4, 12, 5, 5) of four, all wrong", full.setGenerator(4, 12, 5, 5), -1);
    }

    private static void refusedBetweenEdits() {
        CHECKS.begin("refused calls between edits and undos");
        WallpaperGroups x = new WallpaperGroups();
        CHECKS.due("addGenerator(1, 0, 0)", x.addGenerator(1, 0, 0), 4);
        CHECKS.due("addGenerator(8, 0, 0)", x.addGenerator(8, 0, 0), -1);
        CHECKS.due("setGenerator(0, 2, 0, 0)", x.setGenerator(0, 2, 0, 0), 16);
        CHECKS.due("setGenerator(1, 2, 0, 0)", x.setGenerator(1, 2, 0, 0), -1);
        CHECKS.due("undo()", x.undo(), 1);
        CHECKS.due("generator(0)", x.generator(0), 16);
        CHECKS.due("removeGenerator(1)", x.removeGenerator(1), -1);
        CHECKS.due("setLattice(0, 6)", x.setLattice(0, 6), -1);
        CHECKS.due("undo()", x.undo(), 0);
        CHECKS.due("generator(0)", x.generator(0), -3);
        CHECKS.due("undo()", x.undo(), -3);
        CHECKS.due("addGenerator(2, 0, 0)", x.addGenerator(2, 0, 0), 2);
        CHECKS.due("undo()", x.undo(), 0);
        CHECKS.due("undo()", x.undo(), -3);
    }
}

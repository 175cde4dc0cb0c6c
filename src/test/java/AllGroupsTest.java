import java.util.ArrayList;
import java.util.BitSet;
import java.util.LinkedHashMap;
import java.util.List;
import java.util.Map;

/** Every group that four generators or fewer can make, in every lattice, against PlainModel. */
final class AllGroupsTest {
    private static final Checks CHECKS = new Checks();
    private static final int MOST_GENERATORS = 4;
    private static final boolean[] TYPES = new boolean[17];

    private final int kind;
    private final int n;
    private final int[][] products;
    /** The elements of each group, and codes that generate it. */
    private final Map<BitSet, List<Integer>> groups = new LinkedHashMap<>();

    private AllGroupsTest(int kind, int n) {
        this.kind = kind;
        this.n = n;
        PlainModel plain = new PlainModel();
        plain.setLattice(kind, n);
        products = new int[plain.codeCount()][plain.codeCount()];
        for (int g = 0; g < products.length; g++) {
            for (int h = 0; h < products.length; h++) {
                products[g][h] = plain.product(g, h);
            }
        }
    }

    public static void main(String[] args) {
        Groups.eachLattice((kind, n) -> new AllGroupsTest(kind, n).compareAll());
        CHECKS.begin("all groups");
        for (int type = 0; type < TYPES.length; type++) {
            CHECKS.holds("type " + type + " is among them", TYPES[type]);
        }
        CHECKS.end();
    }

    private void compareAll() {
        findAll();
        for (Map.Entry<BitSet, List<Integer>> entry : groups.entrySet()) {
            if (!CHECKS.hasManyWrong()) {
                compare(entry.getKey(), entry.getValue());
            }
        }
    }

    private void compare(BitSet elements, List<Integer> generators) {
        CHECKS.begin(Groups.name(kind, n) + ", generators " + generators);
        PlainModel plain = new PlainModel();
        plain.setLattice(kind, n);
        WallpaperGroups real = Groups.made(kind, n);
        for (int code : generators) {
            int linear = code / (n * n);
            int u = code / n % n;
            int v = code % n;
            CHECKS.due("addGenerator", real.addGenerator(linear, u, v), plain.addGenerator(linear, u, v));
        }
        CHECKS.due("the elements found here", elements.cardinality(), plain.order());
        TYPES[plain.type()] = true;
        Answers.alike(CHECKS, real, plain);
    }

    private void findAll() {
        List<BitSet> latest = new ArrayList<>();
        latest.add(note(List.of()));
        for (int size = 1; size <= MOST_GENERATORS; size++) {
            List<BitSet> next = new ArrayList<>();
            for (BitSet group : latest) {
                for (int code = group.nextClearBit(0); code < products.length; code = group.nextClearBit(code + 1)) {
                    List<Integer> more = new ArrayList<>(groups.get(group));
                    more.add(code);
                    BitSet larger = note(more);
                    if (larger != null) {
                        next.add(larger);
                    }
                }
            }
            latest = next;
        }
    }

    /** The group, if it is a new one. */
    private BitSet note(List<Integer> generators) {
        BitSet group = generated(generators);
        return groups.putIfAbsent(group, generators) == null ? group : null;
    }

    private BitSet generated(List<Integer> generators) {
        BitSet found = new BitSet(products.length);
        int[] open = new int[products.length];
        int count = 1;
        found.set(0);
        for (int i = 0; i < count; i++) {
            for (int code : generators) {
                int product = products[open[i]][code];
                if (!found.get(product)) {
                    found.set(product);
                    open[count++] = product;
                }
            }
        }
        return found;
    }
}

import java.lang.management.ManagementFactory;

/** All calls of a run share one room, so calls make no objects and an object stays small. */
final class RoomTest {
    private static final Checks CHECKS = new Checks();
    private static final com.sun.management.ThreadMXBean THREADS =
            (com.sun.management.ThreadMXBean) ManagementFactory.getThreadMXBean();

    public static void main(String[] args) {
        CHECKS.begin("room");
        WallpaperGroups x = new WallpaperGroups();
        callAll(x);
        long before = bytes();
        for (int i = 0; i < 15; i++) {
            callAll(x);
        }
        CHECKS.holds("calls make nothing", bytes() - before < 2000);
        before = bytes();
        WallpaperGroups[] made = new WallpaperGroups[100];
        for (int i = 0; i < made.length; i++) {
            made[i] = new WallpaperGroups();
        }
        CHECKS.holds("an object stays small", bytes() - before < made.length * 8000L);
        CHECKS.end();
    }

    private static long bytes() {
        return THREADS.getThreadAllocatedBytes(Thread.currentThread().getId());
    }

    private static void callAll(WallpaperGroups x) {
        x.setLattice(1, 5);
        x.addGenerator(1, 0, 0);
        x.addGenerator(6, 0, 0);
        x.addGenerator(0, 1, 0);
        x.setGenerator(0, 1, 1, 1);
        x.removeGenerator(0);
        x.undo();
        x.generator(0);
        x.order();
        x.element(7);
        x.contains(7);
        x.product(33, 44);
        x.orderOf(55);
        x.kindOf(222);
        x.count(3);
        x.isAbelian();
        x.conjugacyClasses();
        x.linearParts();
        x.rotationOrder();
        x.mirrorDirections();
        x.isCentered();
        x.type();
        x.orbitSize(1, 2);
        x.orbitFirst(1, 2);
        x.stabilizerOrder(1, 2);
        x.orbitCount();
        x.isSymmorphic();
        x.invariantColorings(4);
        x.coloringClasses(4);
    }
}

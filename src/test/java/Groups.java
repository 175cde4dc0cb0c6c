/** Objects in the states that the tests want. They are made anew, as one object serves 512 calls. */
final class Groups {
    static final int LOW = Integer.MIN_VALUE;
    static final int HIGH = Integer.MAX_VALUE;

    /** What a test does for each of the ten lattices. */
    interface ForLattice {
        void of(int kind, int n);
    }

    private Groups() { }

    static void eachLattice(ForLattice test) {
        for (int kind = 0; kind <= 1; kind++) {
            for (int n = 1; n <= 5; n++) {
                test.of(kind, n);
            }
        }
    }

    static String name(int kind, int n) {
        return (kind == 0 ? "square" : "hexagonal") + ", N = " + n;
    }

    static int parts(int kind) {
        return kind == 0 ? 8 : 12;
    }

    /** How many linear parts have determinant 1; those with determinant -1 follow. */
    static int turns(int kind) {
        return parts(kind) / 2;
    }

    static int codes(int kind, int n) {
        return parts(kind) * n * n;
    }

    static int mod(int value, int n) {
        return (value % n + n) % n;
    }

    /** Generators are given as linear, u, v, one behind the other. */
    static WallpaperGroups made(int kind, int n, int... generators) {
        WallpaperGroups x = new WallpaperGroups();
        if (x.setLattice(kind, n) != 4) {
            throw new IllegalStateException("the lattice was not taken: " + name(kind, n));
        }
        for (int i = 0; i < generators.length; i += 3) {
            if (x.addGenerator(generators[i], generators[i + 1], generators[i + 2]) < 1) {
                throw new IllegalStateException("generator " + i / 3 + " was not taken: " + name(kind, n));
            }
        }
        return x;
    }

    /** The group of all movements: r, f and a translation along x, which r turns into all others. */
    static WallpaperGroups whole(int kind, int n) {
        return made(kind, n, 1, 0, 0, turns(kind), 0, 0, 0, 1 % n, 0);
    }

    /** As many generators as asked for, 0 to 4; number i has the code i * N * N. */
    static WallpaperGroups withGenerators(int size, int kind, int n) {
        WallpaperGroups x = made(kind, n);
        for (int i = 0; i < size; i++) {
            x.addGenerator(i, 0, 0);
        }
        return x;
    }
}

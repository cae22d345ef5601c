import java.lang.reflect.Field;

/**
 * sound() tells "whether": by calls alone it is always true, so here one thing inside an object is made wrong
 * by way of its private fields, which are named here as KeptParts.java names them.
 */
public final class SoundCheck {
    private static int rows = 0;
    private static int wrong = 0;

    private SoundCheck() {
    }

    public static void main(String[] args) {
        treeArcsJoinTooLittle();
        treeArcsWithARing();
        levels();
        levelsOfAnUnevenHouse();
        levelsAboveEachOther();
        orderedArcs();
        places();
        neighbours();
        theSet();
        System.out.println("sound: " + rows + " rows, " + wrong + " wrong");
        if (wrong != 0) {
            System.exit(1);
        }
    }

    private static void treeArcsJoinTooLittle() {
        for (int arc = 0; arc < 4; arc++) {
            KeptParts x = house(5);
            booleans(x, "trees", "tree")[arc] = false;
            due(false, x, "the TREE arcs join just what all arcs join: without TREE arc " + arc);
        }
    }

    private static void treeArcsWithARing() {
        KeptParts x = house(5);
        int across = x.put(0, 2);
        int back = x.put(4, 3);
        int loop = x.put(1, 1);
        for (int arc : new int[] {across, back, loop}) {
            due(true, x, "as it is");
            booleans(x, "trees", "tree")[arc] = true;
            due(false, x, "without a ring: arc " + arc + " as a TREE arc too");
            booleans(x, "trees", "tree")[arc] = false;
        }
        due(true, x, "as it was");
    }

    private static void levels() {
        KeptParts x = house(8);
        int[] level = numbers(x, "trees", "level");
        level[0] = 1;
        level[1] = 1;
        level[2] = 1;
        due(true, x, "LEVEL 1 has a TREE of 4 of 8 nodes");
        level[3] = 1;
        due(false, x, "LEVEL 1 has a TREE of 5 of 8 nodes");
        level[2] = 0;
        due(true, x, "LEVEL 1 has TREES of 3 and 2 of 8 nodes");
        level[0] = 2;
        due(true, x, "LEVEL 2 has a TREE of 2 of 8 nodes");
        level[0] = 3;
        due(false, x, "LEVEL 3 has a TREE of 2 of 8 nodes");
        level[0] = 0;
        level[6] = 3;
        due(false, x, "LEVEL 3 has another TREE of 2 of 8 nodes");
    }

    private static void levelsOfAnUnevenHouse() {
        KeptParts x = house(7);
        int[] level = numbers(x, "trees", "level");
        level[4] = 1;
        level[5] = 1;
        due(true, x, "LEVEL 1 has a TREE of 3 of 7 nodes");
        level[3] = 1;
        due(false, x, "LEVEL 1 has a TREE of 4 of 7 nodes");
    }

    /** A LEVEL's TREES go by arcs of more LEVELS, too; arcs that are no TREE arcs do not count. */
    private static void levelsAboveEachOther() {
        KeptParts x = house(8);
        int[] level = numbers(x, "trees", "level");
        level[2] = 2;
        level[3] = 1;
        level[4] = 2;
        due(true, x, "LEVELS 2 1 2 in a row");
        level[5] = 1;
        due(false, x, "LEVELS 2 1 2 1 in a row");
        level[5] = 0;
        level[x.put(2, 7)] = 1;
        due(true, x, "LEVELS 2 1 2 in a row, and an arc of LEVEL 1 that is no TREE arc");
    }

    private static void orderedArcs() {
        KeptParts x = house(4);
        int loose = x.put(3, 0);
        due(true, x, "with a LOOSE arc");
        booleans(x, "row", "loose")[loose] = false;
        due(false, x, "an ORDERED arc's first node stands behind its second");
        booleans(x, "row", "loose")[loose] = true;
        int loop = x.put(2, 2);
        due(true, x, "with a LOOP");
        booleans(x, "row", "loose")[loop] = false;
        due(false, x, "an ORDERED arc's first node is its second");
    }

    private static void places() {
        for (int first = 0; first < 3; first++) {
            KeptParts x = house(4);
            swap(numbers(x, "row", "nodes"), first);
            swap(numbers(x, "row", "places"), first);
            due(false, x, "each ORDERED arc's first node stands ahead of its second: arc " + first + " does not");
        }
        KeptParts alone = new KeptParts(0);
        for (int node = 0; node < 3; node++) {
            alone.node(0);
        }
        swap(numbers(alone, "row", "nodes"), 0);
        due(false, alone, "a node stands elsewhere than its place says");
        swap(numbers(alone, "row", "places"), 0);
        due(true, alone, "no arc: any order holds");
    }

    private static void neighbours() {
        for (int node = 0; node < 4; node++) {
            KeptParts x = house(4);
            // Asked once, so that it is not made anew by sound() itself.
            x.triangles();
            numbers(x, "sides", "core")[node]++;
            due(false, x, "another CORE of node " + node);
            numbers(x, "sides", "core")[node]--;
            due(true, x, "the CORE as it was");
            numbers(x, "sides", "start")[node + 1]++;
            due(false, x, "another count of NEIGHBOURS of node " + node);
        }
        KeptParts x = house(4);
        x.triangles();
        set(x, "sides", "threes", 1L);
        due(false, x, "a TRIANGLE that is not there");
    }

    private static void theSet() {
        for (int node = 0; node < 4; node++) {
            KeptParts x = house(4);
            boolean[] in = booleans(x, "chosen", "in");
            in[node] = !in[node];
            due(false, x, "node " + node + " is in THE SET and should not be, or the other way");
        }
        KeptParts alone = house(1);
        booleans(alone, "chosen", "in")[0] = false;
        due(false, alone, "a node alone is not in THE SET");
        KeptParts x = house(2);
        numbers(x, "chosen", "weight")[1] = 5;
        due(false, x, "THE SET as by another WEIGHT");
    }

    private static KeptParts house(int nodes) {
        KeptParts x = new KeptParts(0);
        x.chain(nodes);
        due(true, x, "a new chain");
        return x;
    }

    private static void swap(int[] row, int at) {
        int kept = row[at];
        row[at] = row[at + 1];
        row[at + 1] = kept;
    }

    private static void due(boolean answer, KeptParts x, String what) {
        rows++;
        if (x.sound() != answer) {
            wrong++;
            System.out.println(what + ": sound() answered " + !answer + ", due is " + answer);
        }
    }

    private static int[] numbers(KeptParts x, String part, String name) {
        return (int[]) get(get(x, part), name);
    }

    private static boolean[] booleans(KeptParts x, String part, String name) {
        return (boolean[]) get(get(x, part), name);
    }

    private static Object get(Object of, String name) {
        try {
            return field(of, name).get(of);
        } catch (IllegalAccessException e) {
            throw new IllegalStateException(e);
        }
    }

    private static void set(KeptParts x, String part, String name, long value) {
        Object of = get(x, part);
        try {
            field(of, name).setLong(of, value);
        } catch (IllegalAccessException e) {
            throw new IllegalStateException(e);
        }
    }

    private static Field field(Object of, String name) {
        try {
            Field field = of.getClass().getDeclaredField(name);
            field.setAccessible(true);
            return field;
        } catch (NoSuchFieldException e) {
            throw new IllegalStateException("KeptParts.java has no field of this name any more: " + name, e);
        }
    }
}

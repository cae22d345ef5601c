/**
 * The limits of 900 arcs there at once and of 5000 numbers of arcs. In the 512 calls for which an
 * object is promised there can be 810 arcs at most, so these runs go beyond: this class answers as before.
 */
public final class LimitRuns {
    private static final String INDEX = Run.INDEX;
    private static final String ARGUMENT = Run.ARGUMENT;
    private static final String ROOM = Run.ROOM;
    private static final int LEAST = Integer.MIN_VALUE;
    private static final int MOST = Integer.MAX_VALUE;

    private LimitRuns() {
    }

    public static void main(String[] args) {
        arcsThere();
        arcsThereInAStrictHouse();
        mostNeighbours();
        numbersOfArcs();
        Run.end("limits");
    }

    private static void arcsThere() {
        Run run = Run.beyondItsCalls("at most 900 are there at once", 0);
        run.due(0, "chain", 20);
        run.due(20, "node", 3);
        for (int arc = 19; arc < 898; arc++) {
            run.due(arc, "put", arc % 20, (arc * 3 + 1) % 20);
        }
        // There is room for two: three are too many for a chain.
        run.due(ROOM, "chain", 4);
        run.due(21, "told", 0);
        run.due(21, "chain", 3);
        run.due(900, "told", 1);
        run.due(true, "sound");
        fullOfArcs(run, 900);
        run.due(24, "chain", 1);
        run.due(ROOM, "chain", 2);
        run.due(25, "node", 0);
        int parts = Integer.parseInt(run.ask("told", 2));
        run.due(parts, "take", 0);
        run.due(899, "told", 1);
        run.due(900, "put", 1, 0);
        fullOfArcs(run, 900);
        run.due(true, "sound");
        for (int arc = 1; arc <= 900; arc++) {
            run.ask("take", arc);
        }
        run.due(26, "told", 2);
        run.due(0, "told", 1);
        run.due(901, "put", 0, 1);
        run.due(true, "sound");
    }

    private static void fullOfArcs(Run run, int arcs) {
        run.due(0, "planPut", 0, 1);
        String ring = run.ask("ring", 0);
        run.due(ROOM, "put", 0, 1);
        run.due(ROOM, "put", 20, 20);
        run.due(INDEX, "put", 0, -1);
        run.due(INDEX, "put", MOST, LEAST);
        run.dueAll(ARGUMENT, "chain", 0, 301, LEAST, MOST);
        run.due(ring, "ring", 0);
        run.due(1, "told", 11);
        run.due(arcs, "told", 1);
        run.due(1, "drop");
    }

    private static void arcsThereInAStrictHouse() {
        Run run = Run.beyondItsCalls("UnsupportedOperationException, also if it would not be put", 1);
        run.due(0, "chain", 3);
        for (int arc = 2; arc < 900; arc++) {
            run.due(arc, "put", arc % 2, 2);
        }
        // What would not be put tells no RING here.
        run.due(ROOM, "put", 1, 0);
        run.due(ROOM, "put", 0, 0);
        run.due(ROOM, "put", 0, 1);
        run.dueRing();
        run.due(1, "take", 899);
        run.due(-1, "put", 1, 0);
        run.dueRing(0);
        run.due(-1, "put", 0, 0);
        run.dueRing();
        run.due(900, "put", 0, 1);
        run.due(ROOM, "put", 0, 0);
    }

    /** No two of the arcs are alike, so there are as many pairs of NEIGHBOURS as there can be. */
    private static void mostNeighbours() {
        Run run = Run.beyondItsCalls("at most 900 are there at once: each between two other NEIGHBOURS", 0);
        for (int node = 0; node < 43; node++) {
            run.due(node, "node", 0);
        }
        int arc = 0;
        for (int a = 0; a < 40; a++) {
            for (int b = a + 1; b < 43; b++) {
                run.due(arc, "put", a, b);
                arc++;
            }
        }
        // All pairs of 43 nodes but those of 40, 41 and 42.
        run.dueTold(43, 900, 1, 0, 0, 43, 0, 1, 40, 0, 42, 0, 0);
        run.due(12220L, "triangles");
        run.dueWhats("of", 39, 0, 0, 39, 39, 40, 0, 42, 1, 0);
        run.dueWhats("of", 42, 0, 0, 42, 42, 40, 0, 40, 1, 0);
        run.due(true, "sound");
        run.due(ROOM, "put", 40, 41);
        run.due(1, "take", 899);
        run.due(12181L, "triangles");
        run.due(39, "of", 42, 4);
    }

    private static void numbersOfArcs() {
        Run run = Run.beyondItsCalls("they have numbers by puts, from 0 on, none twice, 5000 in all", 0);
        run.due(0, "chain", 2);
        for (int arc = 1; arc < 4997; arc++) {
            run.due(arc, "put", 0, 1);
            run.due(1, "take", arc);
        }
        // There is room for three: four are too many for a chain.
        run.due(ROOM, "chain", 5);
        run.due(2, "told", 0);
        run.due(2, "chain", 4);
        run.dueWhats("arc", 4999, 4, 5, 0, 1, 0, 1, 0);
        run.due(INDEX, "arc", 5000, 0);
        run.due(ROOM, "put", 0, 1);
        run.due(ROOM, "put", 1, 1);
        run.due(INDEX, "put", 6, 0);
        run.due(INDEX, "take", 5000);
        run.due(INDEX, "planTake", 5000);
        run.due(0, "planTake", 4999);
        run.due(1, "planPut", 1, 5);
        run.due(2, "later", 2, 0);
        run.due(6, "chain", 1);
        run.due(ROOM, "chain", 2);
        run.due(4, "take", 4999);
        run.due(3, "told", 1);
        run.due(ROOM, "put", 4, 5);
        run.due(true, "sound");
        run.due("", "clear");
        run.due(0, "chain", 2);
        run.due(1, "put", 0, 1);
    }
}

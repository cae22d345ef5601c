/**
 * Edges of 3 NEIGHBOURS: for each sentence of the document that names one a run of its own,
 * with the sentence as its title. The least and the greatest that is taken, the next below and above,
 * what is empty and what is full. That nothing has changed behind a refused call: see RefusalRuns.
 */
public final class SetEdges {
    private static final String INDEX = Run.INDEX;
    private static final int LEAST = Integer.MIN_VALUE;
    private static final int MOST = Integer.MAX_VALUE;

    private SetEdges() {
    }

    public static void main(String[] args) {
        neighbours();
        mostNeighbours();
        cores();
        coresOfNodesAlone();
        triangles();
        behindTwoChanges();
        mostTriangles();
        theSet();
        byWeight();
        sameWeight();
        weighed();
        Run.end("edges of neighbours");
    }

    private static void neighbours() {
        Run run = new Run("two nodes that are not the same, with an arc between them at least (either way)", 0);
        run.due(0, "chain", 3);
        run.dueRow("of", 6, 1, 2, 1);
        run.due(2, "put", 0, 1);
        run.due(3, "put", 1, 0);
        run.due(4, "put", 1, 1);
        run.dueRow("of", 6, 1, 2, 1);
        run.due(1, "take", 0);
        run.due(1, "take", 2);
        run.dueRow("of", 6, 1, 2, 1);
        run.due(2, "take", 3);
        run.dueRow("of", 6, 0, 1, 1);
    }

    private static void mostNeighbours() {
        Run run = new Run("as many NEIGHBOURS as there can be", 0);
        run.due(0, "chain", 300);
        for (int i = 2; i < 300; i++) {
            run.due(297 + i, "put", 0, i);
        }
        run.due(299, "of", 0, 6);
        run.due(2, "of", 299, 6);
        run.due(3, "of", 298, 6);
        run.due(298L, "triangles");
        run.dueTold(300, 597, 1, 0, 0, 300, 0, 1, 2, 0, 299, 0, 1);
        // Of 1 to 299, a way of 299 nodes, the uneven ones come, and 0 goes.
        run.due(151, "weigh", 0, -1);
        run.due(150, "told", 7);
        run.due(true, "sound");
    }

    private static void cores() {
        Run run = new Run("each has k NEIGHBOURS at least among them", 0);
        run.due(0, "told", 8);
        run.due(0, "node", 0);
        run.due(0, "put", 0, 0);
        run.due(0, "of", 0, 4);
        run.due(0, "told", 8);
        run.due(1, "chain", 2);
        run.due(1, "of", 1, 4);
        run.due(1, "told", 8);
        // Six NEIGHBOURS, of which none has another one than 0.
        for (int i = 3; i < 9; i++) {
            run.due(i, "node", 0);
            run.due(i - 1, "put", i, 0);
        }
        run.due(6, "of", 0, 6);
        run.due(1, "of", 0, 4);
        run.due(1, "told", 8);
        run.due(8, "put", 3, 4);
        run.dueRow("of", 4, 2, 1, 1, 2, 2, 1);
        run.due(9, "put", 4, 5);
        run.due(10, "put", 3, 5);
        run.dueRow("of", 4, 3, 1, 1, 3, 3, 3, 1);
        run.due(3, "told", 8);
        run.due(2, "take", 10);
        run.dueRow("of", 4, 2, 1, 1, 2, 2, 2, 1);
        run.due(2, "told", 8);
    }

    private static void coresOfNodesAlone() {
        Run run = new Run("the greatest k: 0 of a node alone, also beside others", 0);
        for (int i = 0; i < 3; i++) {
            run.due(i, "node", 0);
        }
        run.due(3, "chain", 2);
        run.dueRow("of", 4, 0, 0, 0, 1, 1);
        run.due(1, "told", 8);
    }

    private static void triangles() {
        Run run = new Run("A TRIANGLE is three nodes of which each two are NEIGHBOURS", 0);
        run.due(0L, "triangles");
        run.due(0, "chain", 2);
        run.due(1, "put", 1, 0);
        run.due(2, "put", 0, 0);
        run.due(0L, "triangles");
        run.due(2, "node", 0);
        run.due(3, "put", 2, 1);
        run.due(0L, "triangles");
        run.due(4, "put", 2, 0);
        run.due(1L, "triangles");
        run.due(5, "put", 0, 2);
        run.due(6, "put", 1, 2);
        run.due(1L, "triangles");
        run.due(1, "take", 0);
        run.due(1L, "triangles");
        run.due(1, "take", 1);
        run.due(0L, "triangles");
    }

    private static void behindTwoChanges() {
        Run run = new Run("what is told behind two changes", 0);
        run.due(0, "chain", 3);
        run.due(2, "put", 2, 0);
        run.due(1L, "triangles");
        run.due(1, "told", 5);
        run.due(0, "told", 4);
        run.due(3, "put", 1, 1);
        run.due(1, "take", 0);
        run.due(0L, "triangles");
        run.due(3, "told", 5);
        run.due(2, "told", 4);
        run.due(1, "told", 8);
    }

    private static void mostTriangles() {
        Run run = new Run("32 nodes of which each two are NEIGHBOURS", 0);
        run.due(0, "chain", 32);
        int arc = 31;
        for (int a = 0; a < 32; a++) {
            for (int b = a + 2; b < 32; b++) {
                run.due(arc, "put", a, b);
                arc++;
            }
        }
        run.due(4960L, "triangles");
        run.dueTold(32, 496, 1, 0, 0, 32, 0, 1, 31, 0, 31, 0, 0);
        run.dueWhats("of", 31, 0, 0, 31, 31, 31, 0, 31, 31, 0);
        run.due(true, "two", 31, 0);
        run.due(1, "take", 495);
        run.due(4930L, "triangles");
        run.due(30, "told", 8);
    }

    private static void theSet() {
        Run run = new Run("a node is in it if none of its NEIGHBOURS that come ahead of it is", 0);
        run.due(0, "told", 7);
        run.due(0, "node", 0);
        run.due(1, "of", 0, 5);
        run.due(0, "put", 0, 0);
        run.due(1, "of", 0, 5);
        run.due(1, "chain", 4);
        run.dueRow("of", 5, 1, 1, 0, 1, 0);
        run.due(4, "put", 4, 0);
        run.dueRow("of", 5, 1, 1, 0, 1, 0);
        run.due(0, "told", 12);
        run.due(5, "put", 1, 0);
        // 1 goes, so 2 comes, so 3 goes; 0 keeps 4 out.
        run.dueRow("of", 5, 1, 0, 1, 0, 0);
        run.due(3, "told", 12);
        run.due(2, "told", 7);
    }

    private static void byWeight() {
        int[][] pairs = {{LEAST, MOST}, {LEAST, 1}, {LEAST, 0}, {LEAST, LEAST + 1}, {-1, MOST}, {-2, MOST}, {-1, 0},
            {MOST - 1, MOST}, {0, 1}, {1, 2}};
        for (int[] pair : pairs) {
            Run run = new Run("by WEIGHT, the greatest first", 0);
            run.due(0, "node", pair[0]);
            run.due(1, "node", pair[1]);
            run.due(0, "put", 0, 1);
            run.dueRow("of", 0, pair);
            run.dueRow("of", 5, 0, 1);
            run.due(2, "weigh", 0, pair[1]);
            run.dueRow("of", 5, 1, 0);
            run.due(0, "weigh", 1, pair[0]);
            run.due(0, "weigh", 0, pair[0]);
            run.due(2, "weigh", 1, pair[1]);
            run.dueRow("of", 5, 0, 1);
        }
    }

    private static void sameWeight() {
        Run run = new Run("of the same the lesser number first", 0);
        run.due(0, "node", 4);
        run.due(1, "node", 4);
        run.due(0, "put", 1, 0);
        run.dueRow("of", 5, 1, 0);
        run.due(0, "weigh", 1, 4);
        run.due(2, "weigh", 1, 5);
        run.due(2, "weigh", 1, 4);
        run.due(2, "weigh", 0, 3);
        run.due(2, "weigh", 0, 4);
    }

    private static void weighed() {
        Run run = new Run("how many nodes come to THE SET or go from it by that", 0);
        run.due(INDEX, "weigh", 0, 0);
        run.due(0, "node", 0);
        run.due(0, "weigh", 0, LEAST);
        run.due(0, "weigh", 0, MOST);
        run.due(MOST, "of", 0, 0);
        run.due("", "clear");
        run.due(0, "chain", 300);
        run.due(2, "weigh", 299, 1);
        run.due(150, "told", 7);
        run.due(298, "weigh", 1, 1);
        run.due(0, "weigh", 299, 0);
        run.due(300, "weigh", 0, 1);
        run.due(1, "told", 12);
    }
}

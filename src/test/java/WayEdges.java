/**
 * Edges of 2 WAYS: for each sentence of the document that names one a run of its own,
 * with the sentence as its title. The least and the greatest that is taken, the next below and above,
 * what is empty and what is full. That nothing has changed behind a refused call: see RefusalRuns.
 */
public final class WayEdges {
    private static final String INDEX = Run.INDEX;
    private static final int LEAST = Integer.MIN_VALUE;
    private static final int MOST = Integer.MAX_VALUE;

    private WayEdges() {
    }

    public static void main(String[] args) {
        strongParts();
        newNodeLast();
        noSuchPlace();
        looseArcs();
        strictHouse();
        firstBehindSecond();
        aheadAndBehindCut();
        asTheyStood();
        noRing();
        ringOfALoop();
        ringOfNoPut();
        ringAsItWas();
        fewestArcs();
        leastFirstArc();
        leastSecondArc();
        orderedWay();
        ringOfAll();
        loopsStayLoose();
        stillReached();
        looseTaken();
        looseByNumber();
        Run.end("edges of ways");
    }

    private static void strongParts() {
        Run run = new Run("nodes that reach each other by ways of all arcs (each reaches itself)", 0);
        run.due(0, "node", 0);
        run.due(0, "of", 0, 2);
        run.due(1, "told", 5);
        run.due(1, "chain", 3);
        run.dueRow("of", 2, 0, 1, 2, 3);
        run.due(4, "told", 5);
        run.due(2, "put", 3, 2);
        run.dueRow("of", 2, 0, 1, 2, 2);
        run.due(3, "told", 5);
        // LOOSE arcs are ways too; a LOOP joins nothing.
        run.due(3, "put", 2, 1);
        run.due(4, "put", 0, 0);
        run.due(5, "put", 0, 3);
        run.dueRow("of", 2, 0, 1, 1, 1);
        run.due(2, "told", 5);
        run.due(6, "put", 1, 0);
        run.dueRow("of", 2, 0, 0, 0, 0);
        run.due(1, "told", 5);
    }

    private static void newNodeLast() {
        Run run = new Run("a node that is new stands last", 0);
        run.due(INDEX, "order", 0);
        run.due(0, "chain", 2);
        run.due(2, "node", 0);
        run.due(1, "put", 2, 0);
        run.dueOrder(2, 0, 1);
        run.due(3, "node", 0);
        run.dueOrder(2, 0, 1, 3);
        run.due(4, "chain", 2);
        run.dueOrder(2, 0, 1, 3, 4, 5);
    }

    private static void noSuchPlace() {
        Run run = new Run("there is no such place", 0);
        run.dueAll(INDEX, "order", 0, -1, LEAST, MOST);
        run.due(0, "node", 0);
        run.due(0, "order", 0);
        run.dueAll(INDEX, "order", 1, -1, LEAST, MOST);
        run.due(1, "chain", 299);
        run.due(299, "order", 299);
        run.dueAll(INDEX, "order", 300, -1, LEAST, MOST);
    }

    private static void looseArcs() {
        Run run = new Run("a LOOP is LOOSE, and so is one whose second node reaches its first", 0);
        run.due(0, "chain", 3);
        run.due(2, "put", 1, 1);
        run.due(3, "put", 1, 0);
        run.due(4, "put", 2, 0);
        run.due(5, "put", 0, 2);
        // 1 reaches 0 by the LOOSE arc 3 alone, so this one is ORDERED.
        run.due(6, "put", 0, 1);
        run.dueRow("arc", 6, 0, 0, 1, 1, 1, 0, 0);
        run.due(3, "told", 6);
        run.dueOrder(0, 1, 2);
    }

    private static void strictHouse() {
        Run run = new Run("in a STRICT house such an arc is not put at all", 1);
        run.due(0, "chain", 3);
        run.due(-1, "put", 1, 1);
        run.due(-1, "put", 1, 0);
        run.due(-1, "put", 2, 0);
        run.due(2, "told", 1);
        run.due(0, "told", 6);
        run.dueOrder(0, 1, 2);
        run.due(2, "put", 0, 2);
    }

    private static void firstBehindSecond() {
        Run run = new Run("if its first node stands behind its second, the ORDER changes", 0);
        run.due(0, "chain", 1);
        run.due(1, "node", 0);
        run.due(2, "node", 0);
        run.due(0, "put", 0, 2);
        run.dueOrder(0, 1, 2);
        run.due(1, "put", 1, 0);
        run.dueOrder(1, 0, 2);
        run.due(2, "put", 1, 0);
        run.due(3, "put", 1, 2);
        run.dueOrder(1, 0, 2);
    }

    private static void aheadAndBehindCut() {
        Run run = new Run("that do not stand behind the first, that do not stand ahead of the second", 0);
        for (int i = 0; i < 6; i++) {
            run.due(i, "node", 0);
        }
        run.due(0, "put", 1, 5);
        run.due(1, "put", 0, 4);
        // 5 is reached by 1, and 0 reaches 4; but these two stand right already.
        run.due(2, "put", 4, 1);
        run.dueOrder(0, 4, 2, 3, 1, 5);
    }

    private static void asTheyStood() {
        Run run = new Run("first BEHIND, then AHEAD, each as they stood", 0);
        for (int i = 0; i < 6; i++) {
            run.due(i, "node", 0);
        }
        run.due(0, "put", 1, 3);
        run.due(1, "put", 2, 4);
        run.due(2, "put", 4, 1);
        run.dueOrder(0, 2, 4, 1, 3, 5);
    }

    private static void noRing() {
        Run run = new Run("NONE: it has not so many, or none was told", 0);
        run.dueRing();
        run.due(0, "chain", 3);
        run.due(2, "put", 0, 2);
        run.dueRing();
        run.dueAll(INDEX, "ring", -1, LEAST);
        run.due(3, "put", 2, 0);
        run.dueRing(2);
        run.dueAll(INDEX, "ring", -1, LEAST);
    }

    private static void ringOfALoop() {
        Run run = new Run("of a LOOP without arcs", 0);
        run.due(0, "chain", 2);
        run.due(1, "put", 1, 0);
        run.dueRing(0);
        run.due(2, "put", 0, 0);
        run.dueRing();
    }

    private static void ringOfNoPut() {
        Run run = new Run("also one that did not put", 1);
        run.due(0, "chain", 3);
        run.due(-1, "put", 2, 0);
        run.dueRing(0, 1);
        run.due(-1, "put", 2, 2);
        run.dueRing();
        run.due(-1, "put", 2, 1);
        run.dueRing(1);
    }

    private static void ringAsItWas() {
        Run run = new Run("the latest RING that a put() has told, as it was then", 0);
        run.due(0, "chain", 3);
        run.due(2, "put", 2, 0);
        run.due(1, "take", 0);
        run.due(2, "take", 1);
        run.due(3, "take", 2);
        run.due(3, "chain", 2);
        run.due(4, "put", 0, 1);
        run.due(INDEX, "put", 0, 5);
        run.dueRing(0, 1);
    }

    private static void fewestArcs() {
        Run run = new Run("with the fewest arcs", 0);
        run.due(0, "chain", 4);
        run.due(3, "put", 0, 2);
        run.due(4, "put", 3, 0);
        run.dueRing(3, 2);
        run.due(5, "put", 0, 3);
        run.due(6, "put", 3, 0);
        run.dueRing(5);
    }

    private static void leastFirstArc() {
        Run run = new Run("of several the one with the least number for its first arc", 0);
        run.due(0, "chain", 1);
        run.due(1, "node", 0);
        run.due(2, "node", 0);
        run.due(3, "node", 0);
        run.due(0, "put", 1, 3);
        run.due(1, "put", 0, 2);
        run.due(2, "put", 0, 1);
        run.due(3, "put", 2, 3);
        run.due(4, "put", 0, 1);
        run.due(5, "put", 3, 0);
        run.dueRing(1, 3);
    }

    private static void leastSecondArc() {
        Run run = new Run("of these for its second one, and so on", 0);
        run.due(0, "chain", 2);
        run.due(2, "node", 0);
        run.due(3, "node", 0);
        run.due(4, "node", 0);
        run.due(1, "put", 1, 2);
        run.due(2, "put", 1, 3);
        run.due(3, "put", 3, 4);
        run.due(4, "put", 2, 4);
        run.due(5, "put", 2, 4);
        run.due(6, "put", 4, 0);
        run.dueRing(0, 1, 4);
    }

    private static void orderedWay() {
        Run run = new Run("the way of ORDERED arcs", 0);
        run.due(0, "chain", 6);
        run.due(5, "put", 0, 5);
        run.due(6, "put", 5, 3);
        // By the LOOSE arc 6 there would be fewer: 5, 6, 3.
        run.due(7, "put", 4, 0);
        run.dueRing(0, 1, 2, 3);
    }

    private static void ringOfAll() {
        Run run = new Run("a RING of all nodes", 0);
        run.due(0, "chain", 300);
        run.due(299, "put", 299, 0);
        run.due(0, "ring", 0);
        run.due(298, "ring", 298);
        run.due(-1, "ring", 299);
        run.due(-1, "ring", MOST);
        run.due(1, "told", 5);
        run.due(1, "take", 298);
        run.due(298, "ring", 298);
        run.due(0, "told", 6);
        run.due(299, "order", 0);
    }

    private static void loopsStayLoose() {
        Run run = new Run("the LOOSE arcs that are no LOOPS", 0);
        run.due(0, "chain", 2);
        run.due(1, "put", 0, 0);
        run.due(2, "put", 1, 1);
        run.due(3, "put", 1, 0);
        run.due(1, "take", 0);
        run.due(1, "arc", 1, 6);
        run.due(1, "arc", 2, 6);
        run.due(0, "arc", 3, 6);
        run.dueOrder(1, 0);
    }

    private static void stillReached() {
        Run run = new Run("one whose second node does not reach its first by ORDERED arcs any more", 0);
        run.due(0, "chain", 2);
        run.due(1, "put", 0, 1);
        run.due(2, "put", 1, 0);
        run.due(1, "take", 0);
        run.due(1, "arc", 2, 6);
        run.dueOrder(0, 1);
        run.due(1, "take", 1);
        run.due(0, "arc", 2, 6);
        run.dueOrder(1, 0);
    }

    private static void looseTaken() {
        Run run = new Run("TAKEN is an ORDERED arc: not of a LOOSE one", 0);
        run.due(0, "chain", 3);
        run.due(2, "put", 2, 0);
        run.due(3, "put", 2, 1);
        run.due(1, "take", 2);
        run.due(1, "arc", 3, 6);
        run.dueOrder(0, 1, 2);
    }

    private static void looseByNumber() {
        // Without 2 -> 3 one of the LOOSE arcs 4 -> 0 and 5 -> 1 can be ORDERED, but not both.
        Run fore = new Run("by number", 0);
        sixWithTwoLoose(fore, 4, 0, 5, 1);
        fore.due(1, "take", 0);
        fore.due(0, "arc", 7, 6);
        fore.due(1, "arc", 8, 6);
        fore.dueOrder(1, 3, 4, 0, 2, 5);

        Run back = new Run("by number, the other one first", 0);
        sixWithTwoLoose(back, 5, 1, 4, 0);
        back.due(1, "take", 0);
        back.due(0, "arc", 7, 6);
        back.due(1, "arc", 8, 6);
        back.dueOrder(0, 3, 5, 1, 2, 4);
    }

    private static void sixWithTwoLoose(Run run, int a, int b, int c, int d) {
        for (int i = 0; i < 6; i++) {
            run.due(i, "node", 0);
        }
        int[] arcs = {2, 3, 0, 2, 0, 5, 1, 2, 3, 4, 3, 5, 1, 4, a, b, c, d};
        for (int i = 0; i < arcs.length; i += 2) {
            run.due(i / 2, "put", arcs[i], arcs[i + 1]);
        }
        run.due(2, "told", 6);
        run.dueOrder(0, 1, 2, 3, 4, 5);
    }
}

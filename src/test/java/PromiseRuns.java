/** For each promise runs of calls with the answers that are worked out by hand from the document. */
public final class PromiseRuns {
    private static final String INDEX = Run.INDEX;
    private static final String ARGUMENT = Run.ARGUMENT;
    private static final String STATE = Run.STATE;
    private static final String ROOM = Run.ROOM;
    private static final int LEAST = Integer.MIN_VALUE;
    private static final int MOST = Integer.MAX_VALUE;

    private PromiseRuns() {
    }

    public static void main(String[] args) {
        newObject();
        node();
        chain();
        chainCountsAsItsLastPut();
        put();
        putOrders();
        putInAStrictHouse();
        take();
        takeRaisesLevels();
        takeFindsByLevels();
        takeOrdersLooseArcs();
        weigh();
        joined();
        two();
        of();
        ofCores();
        arc();
        order();
        odd();
        ring();
        triangles();
        planPut();
        planTake();
        later();
        laterJoined();
        drop();
        told();
        toldChanges();
        sound();
        clear();
        fullHouse();
        face();
        Run.end("promises");
    }

    private static void newObject() {
        for (int strict : new int[] {0, 1, 2, -1, LEAST, MOST}) {
            Run run = new Run("1 new object", strict);
            for (int what = 0; what <= 12; what++) {
                run.due(0, "told", what);
            }
            run.due(0L, "triangles");
            run.due(true, "sound");
            run.due(0, "drop");
            run.due(-1, "ring", 0);
            run.dueAll(INDEX, "order", 0, -1);
            run.dueAll(INDEX, "take", 0);
            run.due(INDEX, "of", 0, 0);
            run.due(INDEX, "joined", 0, 0);
            run.due(INDEX, "two", 0, 0);
            run.due(INDEX, "odd", 0, 0);
            run.due(INDEX, "put", 0, 0);
            run.due(0, "later", 0, 0);
            run.due(0, "later", 0, 1);
            run.due(0, "later", 0, 2);
            run.due(0, "later", 0, 3);
            run.due(0, "chain", 2);
            run.due(strict == 1 ? -1 : 1, "put", 1, 0);
        }
    }

    private static void node() {
        Run run = new Run("2 node", 0);
        run.due(0, "node", LEAST);
        run.due(1, "node", MOST);
        run.due(2, "node", -1);
        run.dueRow("of", 0, LEAST, MOST, -1);
        run.dueRow("of", 1, 0, 1, 2);
        run.dueRow("of", 5, 1, 1, 1);
        run.due(0, "put", 2, 0);
        run.dueOrder(2, 1, 0);
        run.due(3, "node", 0);
        run.dueOrder(2, 1, 0, 3);
        run.due(0, "planPut", 0, 1);
        run.due(4, "node", 0);
        run.due(0, "told", 11);
        run.due(5, "chain", 294);
        run.due(299, "node", 7);
        run.due(0, "planPut", 0, 299);
        run.due(ROOM, "node", 7);
        run.due(300, "told", 0);
        run.due(1, "told", 11);
        run.due(299, "order", 299);
        run.due(INDEX, "order", 300);
    }

    private static void chain() {
        Run run = new Run("3 chain", 0);
        run.dueAll(ARGUMENT, "chain", 0, -1, 301, LEAST, MOST);
        run.due(0, "told", 0);
        run.due(0, "node", 5);
        run.due(0, "planPut", 0, 0);
        run.due(ARGUMENT, "chain", 0);
        run.due(1, "told", 11);
        run.due(1, "chain", 1);
        run.due(0, "told", 11);
        run.due(0, "told", 1);
        run.due(2, "chain", 4);
        run.due(3, "told", 1);
        run.dueRow("arc", 0, 2, 3, 4);
        run.dueRow("arc", 1, 3, 4, 5);
        run.dueRow("arc", 2, 0, 0, 0);
        run.dueRow("arc", 3, 1, 1, 1);
        run.dueRow("arc", 6, 0, 0, 0);
        run.dueRow("of", 0, 5, 0, 0, 0, 0, 0);
        run.dueRow("of", 1, 0, 1, 2, 2, 2, 2);
        run.dueOrder(0, 1, 2, 3, 4, 5);
        run.due(0, "planPut", 0, 0);
        run.due(ROOM, "chain", 295);
        run.due(1, "told", 11);
        run.due(6, "told", 0);
        run.due(6, "chain", 294);
        run.due(ROOM, "chain", 1);
        run.dueAll(ARGUMENT, "chain", 0, 301);
        run.due(296, "told", 1);
        run.due(296, "put", 299, 0);

        Run whole = new Run("3 chain", 1);
        whole.due(0, "chain", 300);
        whole.due(299, "told", 1);
        whole.due(299, "told", 4);
        whole.due(150, "told", 7);
        whole.due(299, "of", 299, 7);
        whole.due(-1, "put", 299, 0);
        whole.due(298, "ring", 298);
        whole.due(-1, "ring", 299);
    }

    /** All that can be asked of as many nodes as there can be, joined to a ring. */
    private static void fullHouse() {
        Run run = new Run("a full house", 0);
        run.due(0, "chain", 300);
        run.due(299, "put", 299, 0);
        run.due(300, "put", 299, 299);
        int[] told = {300, 301, 1, 0, 0, 1, 2, 150, 2, 0, 299, 0, 0};
        for (int what = 0; what < told.length; what++) {
            run.due(told[what], "told", what);
        }
        int[] last = {0, 0, 0, 299, 2, 0, 2, 299, 0};
        for (int what = 0; what < last.length; what++) {
            run.due(last[what], "of", 299, what);
        }
        run.due(true, "two", 299, 150);
        run.due(299, "order", 299);
        run.dueOdd(299, 300);
        run.due(-1, "ring", 0);
        run.due(0L, "triangles");
        run.due(0, "planTake", 150);
        run.due(1, "planTake", 299);
        run.due(2, "planTake", 300);
        int[] later = {2, 2, 151, 298};
        for (int what = 0; what < later.length; what++) {
            run.due(later[what], "later", 3, what);
        }
        run.due(false, "laterJoined", 2, 299, 0);
        run.due(true, "sound");
        run.due(300, "weigh", 299, 1);
        run.due(1, "take", 150);
        run.due(1, "arc", 299, 3);
        run.due(0, "arc", 299, 6);
        run.due(151, "order", 0);
        run.due(150, "order", 299);
        run.due(300, "told", 5);
        run.due(299, "told", 4);
        run.due(true, "sound");
        run.due("", "clear");
        run.due(0, "chain", 300);
        run.due(300, "told", 5);
    }

    private static void chainCountsAsItsLastPut() {
        Run run = new Run("3 chain, 20 told", 0);
        run.due(0, "chain", 2);
        run.due(1, "told", 12);
        run.due(2, "chain", 3);
        run.due(0, "told", 12);
        run.due(5, "chain", 2);
        run.due(1, "told", 12);
        run.due(7, "chain", 1);
        run.due(1, "told", 12);
        run.due(ARGUMENT, "chain", 0);
        run.due(1, "told", 12);
    }

    private static void put() {
        Run run = new Run("4 put", 0);
        run.due(0, "chain", 3);
        run.due(INDEX, "put", -1, 0);
        run.due(INDEX, "put", 0, 3);
        run.due(INDEX, "put", LEAST, MOST);
        run.due(2, "told", 1);
        run.due(0, "planPut", 0, 1);
        run.due(INDEX, "put", 3, 0);
        run.due(1, "told", 11);
        run.due(2, "put", 0, 1);
        run.due(0, "told", 11);
        run.due(3, "put", 1, 1);
        run.due(4, "put", 2, 0);
        run.dueRow("arc", 3, 1, 1, 0, 0, 0);
        run.dueRow("arc", 6, 0, 0, 0, 1, 1);
        run.due(1, "take", 4);
        run.due(INDEX, "arc", 4, 0);
        run.due(5, "put", 2, 0);
        run.due(5, "told", 1);
    }

    private static void putOrders() {
        Run run = new Run("4 put, THE ORDER", 0);
        for (int i = 0; i < 6; i++) {
            run.due(i, "node", 0);
        }
        // 0 -> 2 and 3 -> 5; then 5 -> 0: ahead 0 2, behind 3 5, in the places of 0 2 3 5.
        run.due(0, "put", 0, 2);
        run.due(1, "put", 3, 5);
        run.dueOrder(0, 1, 2, 3, 4, 5);
        run.due(2, "put", 5, 0);
        run.dueOrder(3, 1, 5, 0, 4, 2);
        // 4 -> 1: 4 stands behind 1, nothing else is joined to them.
        run.due(3, "put", 4, 1);
        run.dueOrder(3, 4, 5, 0, 1, 2);
        // 1 -> 4 is loose and changes nothing.
        run.due(4, "put", 1, 4);
        run.due(1, "arc", 4, 6);
        run.dueOrder(3, 4, 5, 0, 1, 2);
        // 2 -> 4: behind 4 come 4 and 1; ahead of 2, not ahead of 4, are 5, 0, 2 (3 stands ahead of 4).
        run.due(5, "put", 2, 4);
        run.dueOrder(3, 5, 0, 2, 4, 1);
        run.due(true, "sound");
    }

    private static void putInAStrictHouse() {
        Run run = new Run("4 put, STRICT", 1);
        run.due(0, "chain", 3);
        run.due(0, "planPut", 2, 0);
        run.due(-1, "put", 2, 0);
        run.due(-1, "put", 1, 1);
        run.due(1, "told", 11);
        run.due(0, "told", 12);
        run.due(2, "told", 1);
        run.due(2, "put", 0, 2);
        run.due(0, "told", 11);
        run.due(1, "told", 12);
        run.due(-1, "put", 2, 1);
        run.due(1, "told", 12);
        run.due(0, "told", 6);
        run.due(1, "take", 1);
        run.due(3, "put", 2, 1);
        run.dueOrder(0, 2, 1);
    }

    private static void take() {
        Run run = new Run("5 take", 0);
        run.due(0, "chain", 4);
        run.due(3, "put", 3, 0);
        run.due(4, "put", 1, 1);
        run.dueAll(INDEX, "take", -1, 5, LEAST, MOST);
        run.due(0, "planPut", 0, 1);
        run.due(INDEX, "take", 5);
        run.due(1, "told", 11);
        run.due(1, "take", 4);
        run.due(0, "told", 11);
        run.due(INDEX, "take", 4);
        run.due(1, "take", 3);
        run.due(2, "take", 1);
        run.due(INDEX, "take", 1);
        run.due(3, "take", 0);
        run.due(4, "take", 2);
        run.due(4, "told", 2);
        run.due(0, "told", 1);
        run.due(5, "put", 0, 1);
    }

    private static void takeRaisesLevels() {
        Run run = new Run("5 take, LEVELS", 0);
        run.due(0, "chain", 4);
        run.due(3, "put", 0, 1);
        run.due(4, "put", 0, 0);
        run.due(5, "put", 3, 3);
        run.due(6, "put", 0, 3);
        run.due(7, "put", 1, 2);
        // Trees 0 1 and 2 3: of as many the first node's is the lesser one.
        run.due(1, "take", 1);
        run.dueRow("arc", 2, 1);
        run.due(0, "arc", 2, 2);
        run.due(1, "arc", 3, 2);
        run.due(1, "arc", 4, 2);
        run.due(0, "arc", 5, 2);
        run.due(0, "arc", 6, 2);
        run.due(1, "arc", 6, 3);
        run.due(0, "arc", 7, 2);
        run.due(0, "arc", 7, 3);
        run.due(1, "told", 9);
        // Level 1: trees 0 and 1; arc 3 is found there, arc 4 does not come behind it.
        run.due(1, "take", 0);
        run.due(1, "arc", 3, 3);
        run.due(1, "arc", 3, 2);
        run.due(1, "arc", 4, 2);
        run.due(3, "told", 10);
        // Level 1: tree 0 is the lesser one, its loop goes up; level 0: trees 0 3 2 and 1, arc 7 is found.
        run.due(1, "take", 3);
        run.due(2, "arc", 4, 2);
        run.due(1, "arc", 7, 3);
        run.due(0, "arc", 7, 2);
        run.due(2, "told", 9);
        run.due(true, "sound");
        run.due(1, "take", 4);
        run.due(0, "told", 9);
    }

    private static void takeFindsByLevels() {
        Run run = new Run("5 take, the LESSER", 0);
        run.due(0, "chain", 5);
        run.due(4, "put", 4, 0);
        run.due(5, "put", 4, 1);
        run.due(6, "put", 3, 4);
        // Trees 0 1 2 and 3 4: the second node's is the lesser one; arc 4 is the least that joins them.
        run.due(1, "take", 2);
        run.dueRow("arc", 2, 0, 0);
        run.due(1, "arc", 3, 2);
        run.due(1, "arc", 4, 3);
        run.due(0, "arc", 4, 2);
        run.due(0, "arc", 5, 3);
        run.due(0, "arc", 5, 2);
        run.due(0, "arc", 6, 2);
        // Trees 0 and 1 2 joined by nothing of level 0 but arc 5: 0 4 3 against 1 2.
        run.due(1, "take", 0);
        run.due(1, "arc", 1, 2);
        run.due(1, "arc", 5, 3);
        run.due(0, "arc", 6, 3);
        run.due(2, "take", 5);
    }

    private static void takeOrdersLooseArcs() {
        Run run = new Run("5 take, LOOSE arcs", 0);
        run.due(0, "chain", 3);
        run.due(2, "put", 2, 0);
        run.due(3, "put", 0, 0);
        run.due(4, "put", 1, 0);
        run.due(5, "put", 0, 2);
        run.due(3, "told", 6);
        // 0 still reaches 2 by arc 5, but 1 no more by arc 0: only arc 4 becomes ordered, 1 goes ahead of 0.
        run.due(1, "take", 0);
        run.dueRing(0);
        run.due(1, "arc", 2, 6);
        run.due(1, "arc", 3, 6);
        run.due(0, "arc", 4, 6);
        run.dueOrder(1, 0, 2);
        // A loose arc that is taken changes nothing.
        run.due(1, "take", 2);
        run.dueOrder(1, 0, 2);
        run.due(6, "put", 2, 0);
        run.due(7, "put", 2, 1);
        // By number: arc 6 becomes ordered (2 ahead of 0), arc 7 cannot (1 -> 2 is still there).
        run.due(1, "take", 5);
        run.due(0, "arc", 6, 6);
        run.due(1, "arc", 7, 6);
        run.dueOrder(1, 2, 0);
        run.due(true, "sound");

        Run both = new Run("5 take, LOOSE arcs by number", 0);
        both.due(0, "chain", 3);
        both.due(2, "put", 2, 0);
        both.due(3, "put", 1, 0);
        both.due(1, "take", 0);
        both.due(0, "arc", 2, 6);
        both.due(0, "arc", 3, 6);
        both.due(0, "told", 6);
        both.dueOrder(1, 2, 0);
    }

    private static void weigh() {
        Run run = new Run("6 weigh", 0);
        run.due(0, "chain", 4);
        run.dueRow("of", 5, 1, 0, 1, 0);
        run.due(INDEX, "weigh", 4, 0);
        run.due(INDEX, "weigh", -1, 0);
        run.due(INDEX, "weigh", LEAST, 0);
        run.due(0, "weigh", 0, 0);
        run.due(0, "planPut", 0, 1);
        run.due(1, "told", 12);
        // The set goes from 0 2 to 1 3.
        run.due(4, "weigh", 1, MOST);
        run.due(MOST, "of", 1, 0);
        run.due(1, "told", 11);
        run.due(1, "told", 12);
        run.dueRow("of", 5, 0, 1, 0, 1);
        // 2 comes ahead of 3, but 1 stays ahead of 2.
        run.due(0, "weigh", 2, 5);
        // Of the same weight the lesser number comes first.
        run.due(0, "weigh", 2, MOST);
        run.due(4, "weigh", 1, LEAST);
        run.dueRow("of", 5, 1, 0, 1, 0);
        run.due(0, "weigh", 1, 0);
        run.due(2, "told", 7);
    }

    private static void joined() {
        Run run = new Run("7 joined", 0);
        run.due(0, "chain", 3);
        run.due(3, "node", 0);
        run.due(true, "joined", 2, 0);
        run.due(true, "joined", 0, 2);
        run.due(true, "joined", 3, 3);
        run.due(false, "joined", 3, 0);
        run.due(INDEX, "joined", 0, 4);
        run.due(INDEX, "joined", -1, 0);
        run.due(INDEX, "joined", MOST, LEAST);
        run.due(2, "put", 3, 2);
        run.due(true, "joined", 3, 0);
        run.due(2, "take", 0);
        run.due(false, "joined", 3, 0);
        run.due(true, "joined", 3, 1);
    }

    private static void two() {
        Run run = new Run("8 two", 0);
        run.due(0, "chain", 4);
        run.due(true, "two", 3, 3);
        run.due(false, "two", 0, 1);
        run.due(3, "put", 0, 1);
        run.due(true, "two", 0, 1);
        run.due(false, "two", 1, 2);
        run.due(4, "put", 3, 1);
        run.due(true, "two", 0, 3);
        run.due(1, "take", 3);
        run.due(false, "two", 0, 3);
        run.due(true, "two", 1, 3);
        run.due(5, "put", 0, 0);
        run.due(false, "two", 0, 1);
        run.due(4, "node", 0);
        run.due(false, "two", 4, 0);
        run.due(INDEX, "two", 0, 5);
        run.due(INDEX, "two", -1, -1);
        // A ring of 0 1 2 3 by way of all.
        run.due(6, "put", 0, 3);
        run.due(true, "two", 0, 2);
        run.due(0, "told", 4);

        Run bare = new Run("8 two", 0);
        bare.due(0, "node", 0);
        bare.due(1, "node", 0);
        bare.due(true, "two", 1, 1);
        bare.due(false, "two", 0, 1);
    }

    private static void of() {
        Run run = new Run("9 of", 0);
        run.due(0, "node", 3);
        run.due(1, "chain", 4);
        run.due(3, "put", 4, 2);
        run.due(5, "node", 9);
        run.due(4, "put", 5, 1);
        run.due(5, "put", 1, 5);
        run.due(6, "put", 3, 3);
        run.dueRow("of", 0, 3, 0, 0, 0, 0, 9);
        run.dueRow("of", 1, 0, 1, 1, 1, 1, 1);
        run.dueRow("of", 2, 0, 1, 2, 2, 2, 1);
        // 5 -> 1 comes in where 1 and 5 stood, with what 1 reaches by ordered arcs: 1 2 3 4.
        run.dueOrder(0, 5, 1, 2, 3, 4);
        run.dueRow("of", 4, 0, 1, 2, 2, 2, 1);
        run.dueRow("of", 5, 1, 0, 1, 0, 0, 1);
        run.dueRow("of", 6, 0, 2, 3, 2, 2, 1);
        run.dueRow("of", 7, 0, 0, 1, 2, 3, 1);
        run.dueRow("of", 8, 1, 0, 0, 0, 0, 0);
        run.due(ARGUMENT, "of", 0, 9);
        run.due(ARGUMENT, "of", 0, -1);
        run.due(ARGUMENT, "of", 5, LEAST);
        run.due(INDEX, "of", 6, 0);
        run.due(INDEX, "of", -1, 9);
        run.due(INDEX, "of", MOST, -1);
    }

    private static void ofCores() {
        Run run = new Run("9 of, COREs", 0);
        run.due(0, "chain", 6);
        // 0 1 2 3 all with one another, and 4 with 3 and 5; arcs alike and loops count nothing.
        run.due(5, "put", 0, 2);
        run.due(6, "put", 3, 0);
        run.due(7, "put", 1, 3);
        run.dueRow("of", 4, 3, 3, 3, 3, 1, 1);
        run.due(3, "told", 8);
        run.due(8, "put", 4, 5);
        run.due(9, "put", 5, 5);
        run.dueRow("of", 4, 3, 3, 3, 3, 1, 1);
        run.dueRow("of", 6, 3, 3, 3, 4, 2, 1);
        run.due(10, "put", 5, 3);
        run.dueRow("of", 4, 3, 3, 3, 3, 2, 2);
        run.due(1, "take", 0);
        run.dueRow("of", 4, 2, 2, 2, 2, 2, 2);
    }

    private static void arc() {
        Run run = new Run("10 arc", 0);
        run.due(0, "chain", 3);
        run.due(3, "node", 0);
        run.due(2, "put", 2, 0);
        run.due(3, "put", 3, 1);
        run.due(4, "put", 3, 3);
        run.due(5, "put", 0, 1);
        run.dueRow("arc", 0, 0, 1, 2, 3, 3, 0);
        run.dueRow("arc", 1, 1, 2, 0, 1, 3, 1);
        run.dueRow("arc", 2, 0, 0, 0, 0, 0, 0);
        run.dueRow("arc", 3, 1, 1, 0, 1, 0, 0);
        run.dueRow("arc", 4, 0, 0, 1, 0, 1, 0);
        run.dueRow("arc", 5, 0, 0, 0, 1, 0, 0);
        run.dueRow("arc", 6, 0, 0, 1, 0, 1, 0);
        run.due(ARGUMENT, "arc", 0, 7);
        run.due(ARGUMENT, "arc", 5, -1);
        run.due(INDEX, "arc", 6, 7);
        run.due(INDEX, "arc", -1, 0);
        run.due(INDEX, "arc", LEAST, 0);
        run.due(INDEX, "arc", 5000, 0);
        run.due(1, "take", 1);
        run.due(INDEX, "arc", 1, 0);
        run.due(INDEX, "arc", 1, 9);
        run.due(1, "arc", 2, 3);
        run.due(1, "arc", 2, 5);
        run.due(0, "arc", 2, 4);
    }

    private static void order() {
        Run run = new Run("11 order", 0);
        run.due(0, "chain", 3);
        run.dueAll(INDEX, "order", -1, 3, LEAST, MOST);
        run.dueOrder(0, 1, 2);
        run.due(3, "node", 0);
        run.dueOrder(0, 1, 2, 3);
        run.due(2, "put", 3, 1);
        run.dueOrder(0, 3, 1, 2);
    }

    private static void odd() {
        Run run = new Run("12 odd", 0);
        run.due(0, "chain", 5);
        run.due(INDEX, "odd", 0, -1);
        run.due(INDEX, "odd", 5, 0);
        run.due(INDEX, "odd", -1, 0);
        run.due(INDEX, "odd", 0, LEAST);
        run.dueOdd(0);
        run.due(4, "put", 3, 0);
        run.dueOdd(0);
        run.due(5, "put", 0, 4);
        // From 4 to 0, the arc's second node first.
        run.dueOdd(2, 5, 3, 2, 1, 0);
        run.due(6, "put", 2, 2);
        run.dueOdd(4, 5, 3, 2, 1, 0);
        run.due(1, "take", 5);
        run.dueOdd(0, 6);
        run.due(1, "take", 6);
        run.dueOdd(0);
        // Ways that meet between: from 5 up to 1, then down to 4.
        run.due(5, "node", 0);
        run.due(7, "put", 5, 1);
        run.due(8, "put", 3, 5);
        run.dueOdd(0);
        run.due(9, "put", 4, 5);
        run.dueOdd(0, 9, 7, 1, 2, 3);
        run.due(10, "put", 5, 4);
        run.dueOdd(3, 9, 7, 1, 2, 3);
        run.due(1, "take", 9);
        run.dueOdd(3, 10, 3, 2, 1, 7);
        run.due(6, "node", 0);
        run.dueOdd(6);
    }

    private static void ring() {
        Run run = new Run("13 ring", 0);
        run.dueAll(INDEX, "ring", -1, LEAST);
        run.due(-1, "ring", MOST);
        run.due(0, "chain", 4);
        run.dueRing();
        run.due(3, "put", 0, 1);
        run.due(4, "put", 1, 3);
        run.due(5, "put", 0, 2);
        // From 0 to 3: by 0 4, by 3 4 and by 5 2 with two arcs.
        run.due(6, "put", 3, 0);
        run.dueRing(0, 4);
        // An ordered arc tells none, and what was told stays as it was.
        run.due(7, "put", 0, 3);
        run.dueRing(0, 4);
        run.due(1, "take", 4);
        run.dueRing(0, 4);
        run.due(INDEX, "ring", -1);
        run.due(8, "put", 3, 0);
        run.dueRing(7);
        run.due(1, "take", 7);
        run.due(9, "put", 3, 0);
        run.dueRing(5, 2);
        run.due(10, "put", 1, 1);
        run.dueRing();

        Run strict = new Run("13 ring, STRICT", 1);
        strict.due(0, "chain", 3);
        strict.due(-1, "put", 2, 0);
        strict.dueRing(0, 1);
        strict.due(INDEX, "put", 2, 9);
        strict.dueRing(0, 1);
        strict.due(3, "chain", 2);
        strict.dueRing(0, 1);
        strict.due(-1, "put", 0, 0);
        strict.dueRing();
        strict.due(-1, "put", 1, 0);
        strict.dueRing(0);
        // Loose arcs are no way: there are none here, and taken ones neither.
        strict.due(3, "take", 0);
        strict.due(3, "put", 1, 0);
        strict.dueRing(0);

        Run second = new Run("13 ring, the second arc decides", 0);
        second.due(0, "chain", 2);
        second.due(2, "node", 0);
        second.due(1, "put", 1, 2);
        second.due(2, "put", 1, 2);
        second.due(3, "node", 0);
        second.due(3, "put", 2, 3);
        second.due(4, "put", 3, 0);
        second.dueRing(0, 1, 3);
        second.due(1, "take", 1);
        second.due(5, "put", 3, 0);
        second.dueRing(0, 2, 3);
    }

    private static void triangles() {
        Run run = new Run("14 triangles", 0);
        run.due(0, "chain", 4);
        run.due(0L, "triangles");
        run.due(3, "put", 2, 0);
        run.due(1L, "triangles");
        run.due(4, "put", 0, 2);
        run.due(5, "put", 1, 1);
        run.due(1L, "triangles");
        run.due(6, "put", 0, 3);
        run.due(2L, "triangles");
        run.due(7, "put", 3, 1);
        run.due(4L, "triangles");
        run.due(1, "take", 3);
        run.due(4L, "triangles");
        run.due(1, "take", 4);
        run.due(2L, "triangles");
    }

    private static void planPut() {
        Run run = new Run("15 planPut", 1);
        run.due(0, "chain", 2);
        run.due(INDEX, "planPut", 0, 2);
        run.due(INDEX, "planPut", -1, 0);
        run.due(0, "planPut", 1, 0);
        run.due(1, "planPut", 1, 1);
        run.due(INDEX, "planPut", LEAST, MOST);
        for (int step = 2; step < 60; step++) {
            run.due(step, "planPut", 0, 1);
        }
        run.due(ROOM, "planPut", 0, 1);
        run.due(INDEX, "planPut", 0, 2);
        run.due(60, "told", 11);
        run.due(1, "told", 1);
        run.due(61, "later", 60, 3);
        run.due(3, "later", 2, 3);
        run.due(-1, "put", 1, 0);
        run.due(60, "told", 11);
        run.due(2, "take", 0);
        run.due(0, "told", 11);
    }

    private static void planTake() {
        Run run = new Run("16 planTake", 0);
        run.due(0, "chain", 3);
        run.dueAll(INDEX, "planTake", 2, -1, LEAST, MOST);
        run.due(0, "planTake", 1);
        run.due(STATE, "planTake", 1);
        run.due(INDEX, "planTake", -1);
        run.due(1, "planPut", 0, 2);
        run.due(INDEX, "planTake", -3);
        run.due(2, "planTake", -2);
        run.due(STATE, "planTake", -2);
        run.due(INDEX, "planTake", -3);
        run.due(3, "told", 11);
        run.due(2, "told", 1);
        run.due(0, "arc", 1, 2);
        for (int step = 3; step < 60; step++) {
            run.due(step, "planPut", 0, 1);
        }
        run.due(ROOM, "planTake", 0);
        run.due(ROOM, "planTake", -4);
        run.due(STATE, "planTake", 1);
        run.due(STATE, "planTake", -2);
        run.due(INDEX, "planTake", 2);
        run.due(INDEX, "planTake", -1);
        run.due(60, "drop");
        // What was taken in a plan that is gone can be taken again.
        run.due(0, "planTake", 1);
        run.due(1, "planPut", 0, 2);
        run.due(2, "planTake", -2);
        run.due(2, "take", 0);
        run.due(INDEX, "planTake", 0);
        run.due(0, "planTake", 1);
    }

    private static void later() {
        Run run = new Run("17 later", 0);
        run.due(0, "chain", 3);
        run.due(3, "chain", 2);
        run.due(0, "planPut", 2, 0);
        run.due(1, "planPut", 3, 2);
        run.due(2, "planTake", 0);
        run.due(3, "planTake", -1);
        run.due(4, "planTake", 2);
        run.due(5, "planPut", 4, 4);
        int[][] due = {{2, 2, 3, 3}, {2, 1, 3, 4}, {1, 0, 5, 5}, {1, 1, 5, 4}, {2, 2, 4, 3}, {3, 3, 3, 2}, {3, 2, 3, 3}};
        for (int n = 0; n < due.length; n++) {
            for (int what = 0; what < 4; what++) {
                run.due(due[n][what], "later", n, what);
            }
        }
        run.due(ARGUMENT, "later", 0, 4);
        run.due(ARGUMENT, "later", 6, -1);
        run.due(INDEX, "later", 7, 0);
        run.due(INDEX, "later", -1, 0);
        run.due(INDEX, "later", 7, 4);
        run.due(INDEX, "later", LEAST, MOST);
        run.due(3, "told", 1);
        run.due(2, "told", 2);

        Run rings = new Run("17 later, rings", 0);
        rings.due(0, "chain", 4);
        rings.due(0, "planPut", 0, 1);
        rings.due(1, "planPut", 3, 0);
        rings.due(2, "planPut", 1, 3);
        rings.due(1, "later", 1, 1);
        rings.due(1, "later", 2, 1);
        rings.due(0, "later", 3, 1);
    }

    private static void laterJoined() {
        Run run = new Run("18 laterJoined", 0);
        run.due(0, "chain", 2);
        run.due(2, "node", 0);
        run.due(0, "planPut", 2, 1);
        run.due(1, "planTake", 0);
        run.due(false, "laterJoined", 0, 0, 2);
        run.due(true, "laterJoined", 1, 0, 2);
        run.due(false, "laterJoined", 2, 0, 2);
        run.due(true, "laterJoined", 2, 1, 2);
        run.due(true, "laterJoined", 0, 2, 2);
        run.due(INDEX, "laterJoined", 3, 0, 0);
        run.due(INDEX, "laterJoined", -1, 0, 0);
        run.due(INDEX, "laterJoined", 0, 3, 0);
        run.due(INDEX, "laterJoined", 0, 0, -1);
        run.due(INDEX, "laterJoined", MOST, LEAST, MOST);
        run.due(false, "joined", 0, 2);
    }

    private static void drop() {
        Run run = new Run("19 drop", 0);
        run.due(0, "chain", 2);
        run.due(0, "drop");
        run.due(0, "planPut", 0, 1);
        run.due(1, "planTake", 0);
        run.due(2, "told", 11);
        run.due(2, "drop");
        run.due(0, "told", 11);
        run.due(0, "drop");
        run.due(INDEX, "later", 1, 0);
        run.due(0, "planTake", 0);
        run.due(1, "told", 1);
    }

    private static void told() {
        Run run = new Run("20 told", 0);
        run.dueAll(ARGUMENT, "told", -1, 13, LEAST, MOST);
        run.due(0, "node", 0);
        run.due(1, "chain", 4);
        run.due(3, "put", 4, 2);
        run.due(4, "put", 0, 0);
        run.due(5, "put", 2, 3);
        run.due(0, "planPut", 0, 0);
        int[] due = {5, 6, 2, 0, 1, 3, 2, 3, 2, 0, 3, 1, 0};
        for (int what = 0; what < due.length; what++) {
            run.due(due[what], "told", what);
        }
        run.due(2, "take", 3);
        run.due(1, "told", 3);
        run.due(2, "told", 4);
        run.due(5, "told", 5);
        run.due(1, "told", 6);
        run.due(1, "told", 8);
        run.due(0, "told", 11);
        run.due(0, "told", 12);
        run.due(2, "take", 1);
        run.due(1, "told", 9);
        run.dueAll(ARGUMENT, "told", 13);
    }

    private static void toldChanges() {
        Run run = new Run("20 told, what THE SET changed by", 0);
        for (int i = 0; i < 4; i++) {
            run.due(i, "node", 4 - i);
        }
        run.due(0, "told", 12);
        // 1 goes; 2, 3 stay out of it.
        run.due(0, "put", 1, 0);
        run.due(1, "told", 12);
        run.due(1, "put", 1, 2);
        run.due(0, "told", 12);
        run.due(2, "put", 3, 2);
        run.due(1, "told", 12);
        run.due(4, "node", 1);
        run.due(1, "told", 12);
        run.due(0, "weigh", 0, 9);
        run.due(1, "told", 12);
        run.due(INDEX, "put", 9, 9);
        run.due(INDEX, "take", 9);
        run.due(1, "told", 12);
        // Without 1 - 0 the set goes from 0 2 to 0 1 3.
        run.due(3, "take", 0);
        run.due(3, "told", 12);
        run.due(3, "put", 3, 3);
        run.due(0, "told", 12);
    }

    private static void sound() {
        Run run = new Run("21 sound", 0);
        run.due(true, "sound");
        run.due(0, "chain", 8);
        run.due(true, "sound");
        int arc = 7;
        for (int i = 0; i < 8; i++) {
            run.due(arc++, "put", i, (i + 3) % 8);
            run.due(true, "sound");
        }
        for (int i = 0; i < arc; i++) {
            run.ask("take", i);
            run.due(true, "sound");
        }
        run.due(8, "told", 2);
    }

    private static void clear() {
        Run run = new Run("22 clear", 1);
        for (int time = 0; time < 3; time++) {
            run.due("", "clear");
            for (int what = 0; what <= 12; what++) {
                run.due(0, "told", what);
            }
            run.due(-1, "ring", 0);
            run.due(INDEX, "of", 0, 0);
            run.due(INDEX, "take", 0);
            run.due(INDEX, "order", 0);
            run.due(0L, "triangles");
            run.due(true, "sound");
            run.due(0, "chain", 3);
            run.due(2, "put", 0, 2);
            run.dueOrder(0, 1, 2);
            run.dueRow("arc", 2, 0, 0, 0);
            run.dueRow("arc", 3, 1, 1, 0);
            run.dueRow("of", 5, 1, 0, 0);
            run.due(1L, "triangles");
            run.due(-1, "put", 2, 0);
            run.dueRing(2);
            run.due(1, "take", 1);
            run.due(3, "put", 2, 1);
            run.dueOrder(0, 2, 1);
            run.due(0, "planTake", 0);
            run.due(1, "planPut", 0, 0);
            run.due(2, "planTake", -2);
        }
        run.due("", "clear");
        run.due(0, "drop");
        run.due(0, "node", 4);
        run.dueRow("of", 0, 4);
        run.dueRow("of", 5, 1);
    }

    private static void face() {
        Run run = new Run("the face", 0);
        run.dueHere(-1, "NONE", KeptParts.NONE);
        KeptParts x = new KeptParts(0);
        // That these are of their types is told by the compiler.
        long triangles = x.triangles();
        boolean sound = x.sound();
        run.dueHere(0L, "triangles()", triangles);
        run.dueHere(true, "sound()", sound);
    }
}

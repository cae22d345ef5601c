/**
 * Edges of 4 A PLAN, of told() and of clear(): for each sentence of the document that names one a run
 * of its own, with the sentence as its title. The least and the greatest that is taken, the next below
 * and above, what is empty and what is full. That nothing has changed behind a refused call: see RefusalRuns.
 */
public final class PlanEdges {
    private static final String INDEX = Run.INDEX;
    private static final String ARGUMENT = Run.ARGUMENT;
    private static final String STATE = Run.STATE;
    private static final String ROOM = Run.ROOM;
    private static final int LEAST = Integer.MIN_VALUE;
    private static final int MOST = Integer.MAX_VALUE;

    private PlanEdges() {
    }

    public static void main(String[] args) {
        mostPuts();
        mostTakes();
        emptyAgain();
        staysBehindAllElse();
        planInAStrictHouse();
        noSuchArcOrStep();
        takenAlready();
        planTakeNamedFirst();
        noSuchStep();
        loopIsARing();
        laterOfAllNodes();
        oddInTheGreater();
        oddInTheLesser();
        oddInBoth();
        changesOfTheSet();
        noSuchWhat();
        clearedStrict();
        cleared();
        Run.end("edges of plans");
    }

    private static void mostPuts() {
        Run run = new Run("60 at most: to be put", 0);
        run.due(0, "node", 0);
        for (int step = 0; step < 60; step++) {
            run.due(step, "planPut", 0, 0);
        }
        run.due(60, "told", 11);
        run.due(ROOM, "planPut", 0, 0);
        run.due(ROOM, "planTake", -1);
        run.due(ROOM, "planTake", -60);
        run.due(INDEX, "planTake", -61);
        run.due(60, "later", 60, 3);
        run.due(INDEX, "later", 61, 3);
        run.due(true, "laterJoined", 60, 0, 0);
        run.due(INDEX, "laterJoined", 61, 0, 0);
        run.due(60, "drop");
        run.due(0, "told", 11);
        run.due(0, "drop");
        run.due(0, "planPut", 0, 0);
    }

    private static void mostTakes() {
        Run run = new Run("60 at most: to be taken", 0);
        run.due(0, "chain", 62);
        for (int step = 0; step < 60; step++) {
            run.due(step, "planTake", step);
        }
        run.due(60, "told", 11);
        run.due(ROOM, "planTake", 60);
        run.due(STATE, "planTake", 59);
        run.due(INDEX, "planTake", 61);
        run.due(ROOM, "planPut", 0, 0);
        run.due(INDEX, "planPut", 0, 62);
        run.due(61, "later", 60, 0);
        run.due(1, "later", 60, 3);
        run.due(60, "drop");
        run.due(0, "planTake", 60);
    }

    private static void emptyAgain() {
        Run run = new Run("It is empty at first, and again behind each node(), chain(), put() that puts, take()", 0);
        run.due(0, "told", 11);
        run.due(0, "drop");
        run.due(0, "chain", 2);
        plannedThen(run, 0, 2, "node", 0);
        plannedThen(run, 0, 3, "chain", 1);
        plannedThen(run, 0, 4, "chain", 2);
        plannedThen(run, 0, 2, "put", 0, 1);
        plannedThen(run, 0, 3, "put", 1, 0);
        plannedThen(run, 0, 4, "put", 0, 0);
        plannedThen(run, 0, 4, "take", 0);
        plannedThen(run, 0, 4, "take", 4);
        plannedThen(run, 0, 1, "drop");
        plannedThen(run, 0, "", "clear");
    }

    private static void staysBehindAllElse() {
        Run run = new Run("a PLAN stays behind all else", 1);
        run.due(0, "chain", 2);
        run.due(2, "node", 0);
        plannedThen(run, 1, -1, "put", 1, 0);
        plannedThen(run, 1, -1, "put", 0, 0);
        plannedThen(run, 1, INDEX, "put", 0, 3);
        plannedThen(run, 1, INDEX, "take", 1);
        plannedThen(run, 1, ARGUMENT, "chain", 0);
        plannedThen(run, 1, ROOM, "chain", 300);
        plannedThen(run, 1, 2, "weigh", 1, 9);
        plannedThen(run, 1, true, "joined", 0, 1);
        plannedThen(run, 1, false, "two", 0, 1);
        plannedThen(run, 1, 9, "of", 1, 0);
        plannedThen(run, 1, 1, "arc", 0, 1);
        plannedThen(run, 1, 0, "order", 0);
        plannedThen(run, 1, -1, "odd", 0, 0);
        plannedThen(run, 1, -1, "ring", 0);
        plannedThen(run, 1, 0L, "triangles");
        plannedThen(run, 1, INDEX, "planPut", 3, 0);
        plannedThen(run, 1, INDEX, "planTake", -2);
        plannedThen(run, 1, 1, "later", 1, 0);
        plannedThen(run, 1, true, "laterJoined", 1, 0, 2);
        plannedThen(run, 1, true, "sound");
        run.due(1, "drop");
    }

    private static void planInAStrictHouse() {
        Run run = new Run("always, as in a house that is not STRICT", 1);
        run.due(0, "chain", 2);
        run.due(0, "planPut", 1, 0);
        run.due(1, "planPut", 0, 0);
        run.due(3, "later", 2, 3);
        run.due(0, "later", 2, 1);
        run.due(1, "told", 1);
        run.dueRing();
    }

    /** One STEP that joins the greatest node to 0, then a call, then as many STEPS as are due. */
    private static void plannedThen(Run run, int steps, Object answer, String name, int... numbers) {
        run.ask("drop");
        int greatest = Integer.parseInt(run.ask("told", 0)) - 1;
        run.due(0, "planPut", greatest, 0);
        run.due(answer, name, numbers);
        run.due(steps, "told", 11);
    }

    private static void noSuchArcOrStep() {
        Run run = new Run("there is no such arc, no STEP s that puts one", 0);
        run.dueAll(INDEX, "planTake", 0, -1, 1, -2, LEAST, LEAST + 1, MOST);
        run.due(0, "chain", 3);
        run.dueAll(INDEX, "planTake", 2, -1, LEAST, LEAST + 1, MOST);
        run.due(0, "planTake", 1);
        run.due(1, "planPut", 0, 2);
        run.due(2, "planTake", -2);
        run.dueAll(INDEX, "planTake", -1, -3, -4, 2, LEAST, MOST);
        run.due(2, "take", 0);
        run.dueAll(INDEX, "planTake", 0, -1, -2);
        run.due(0, "planTake", 1);
    }

    private static void takenAlready() {
        Run run = new Run("a STEP ahead takes it already", 0);
        run.due(0, "chain", 2);
        run.due(0, "planPut", 1, 0);
        run.due(1, "planPut", 1, 0);
        run.due(2, "planTake", -1);
        run.due(STATE, "planTake", -1);
        run.due(3, "planTake", 0);
        run.due(STATE, "planTake", 0);
        run.due(4, "planTake", -2);
        run.dueAll(STATE, "planTake", 0, -1, -2);
        run.due(5, "told", 11);
        run.due(5, "drop");
        run.due(0, "planTake", 0);
        run.due(STATE, "planTake", 0);
        run.due(1, "planPut", 0, 0);
        run.due(2, "planTake", -2);
        run.due(2, "later", 3, 0);
        run.due(0, "later", 3, 3);
        run.due(1, "told", 1);
    }

    private static void planTakeNamedFirst() {
        Run run = new Run("the one named first when several would do", 0);
        run.due(0, "chain", 2);
        run.due(0, "planTake", 0);
        run.due(1, "planPut", 0, 0);
        run.due(2, "planTake", -2);
        for (int step = 3; step < 60; step++) {
            run.due(step, "planPut", 0, 1);
        }
        run.dueAll(INDEX, "planTake", -1, -3, 1, -61, LEAST, MOST);
        run.dueAll(STATE, "planTake", 0, -2);
        run.dueAll(ROOM, "planTake", -4, -60);
        run.due(INDEX, "planPut", 2, 0);
        run.due(ROOM, "planPut", 1, 0);
        run.due(60, "told", 11);
    }

    private static void noSuchStep() {
        Run run = new Run("n is below 0, or there are not so many; (0 without nodes)", 0);
        for (int what = 0; what < 4; what++) {
            run.due(0, "later", 0, what);
            run.due(INDEX, "later", 1, what);
            run.due(INDEX, "later", -1, what);
        }
        run.due(ARGUMENT, "later", 0, 4);
        run.due(ARGUMENT, "later", 0, -1);
        run.due(INDEX, "later", 1, 4);
        run.due(INDEX, "laterJoined", 0, 0, 0);
        run.due(0, "node", 0);
        run.dueWhats("later", 0, 1, 1, 1, 0);
        run.due(true, "laterJoined", 0, 0, 0);
        run.due(INDEX, "laterJoined", 1, 0, 0);
        run.due(INDEX, "laterJoined", -1, 0, 0);
        run.due(INDEX, "laterJoined", 0, 1, 0);
        run.due(INDEX, "laterJoined", 0, 0, -1);
    }

    private static void loopIsARing() {
        Run run = new Run("no ring of an odd number of arcs (a LOOP is one)", 0);
        run.due(0, "chain", 4);
        run.due(0, "planPut", 0, 1);
        run.due(1, "planPut", 3, 0);
        run.due(2, "planPut", 2, 2);
        run.due(3, "planTake", -3);
        run.due(4, "planPut", 2, 0);
        run.dueWhats("later", 0, 1, 1, 4, 3);
        run.dueWhats("later", 1, 1, 1, 4, 4);
        run.dueWhats("later", 2, 1, 1, 4, 5);
        run.dueWhats("later", 3, 1, 0, 4, 6);
        run.dueWhats("later", 4, 1, 1, 4, 5);
        run.dueWhats("later", 5, 1, 0, 4, 6);
        run.dueTold(4, 3, 1, 1, 3, 4, 0, 2, 1, 0, 3, 5, 1);
    }

    private static void laterOfAllNodes() {
        Run run = new Run("Behind the first n STEPS, of as many nodes as there can be", 0);
        run.due(0, "chain", 300);
        run.due(0, "planTake", 149);
        run.due(1, "planPut", 0, 299);
        run.due(2, "planTake", -2);
        run.dueWhats("later", 0, 1, 1, 300, 299);
        run.dueWhats("later", 1, 2, 2, 150, 298);
        run.dueWhats("later", 2, 1, 1, 300, 299);
        run.dueWhats("later", 3, 2, 2, 150, 298);
        run.due(true, "laterJoined", 0, 0, 299);
        run.due(false, "laterJoined", 1, 299, 0);
        run.due(true, "laterJoined", 2, 149, 150);
        run.due(false, "laterJoined", 3, 0, 299);
        run.due(true, "joined", 0, 299);
    }

    private static void oddInTheGreater() {
        Run run = new Run("how many of them have no ring of an odd number: the greater PART has one", 0);
        run.due(0, "chain", 2);
        run.due(1, "put", 0, 0);
        run.due(2, "node", 0);
        run.due(0, "planPut", 1, 2);
        run.due(1, "planPut", 2, 2);
        run.dueWhats("later", 0, 2, 1, 2, 2);
        run.dueWhats("later", 1, 1, 0, 3, 3);
        run.dueWhats("later", 2, 1, 0, 3, 4);
    }

    private static void oddInTheLesser() {
        Run run = new Run("how many of them have no ring of an odd number: the lesser PART has one", 0);
        run.due(0, "chain", 3);
        run.due(3, "node", 0);
        run.due(4, "node", 0);
        run.due(2, "put", 3, 3);
        run.due(0, "planPut", 0, 3);
        run.due(1, "planPut", 1, 1);
        run.due(2, "planPut", 0, 2);
        run.dueWhats("later", 0, 3, 2, 3, 3);
        run.dueWhats("later", 1, 2, 1, 4, 4);
        run.dueWhats("later", 2, 2, 1, 4, 5);
        run.dueWhats("later", 3, 2, 1, 4, 6);
    }

    private static void oddInBoth() {
        Run run = new Run("how many of them have no ring of an odd number: both PARTS have one, or two", 0);
        for (int i = 0; i < 3; i++) {
            run.due(i, "node", 0);
        }
        run.due(0, "planPut", 0, 0);
        run.due(1, "planPut", 0, 0);
        run.due(2, "planPut", 1, 1);
        run.due(3, "planPut", 0, 1);
        run.due(4, "planPut", 2, 1);
        run.dueWhats("later", 0, 3, 3, 1, 0);
        run.dueWhats("later", 1, 3, 2, 1, 1);
        run.dueWhats("later", 2, 3, 2, 1, 2);
        run.dueWhats("later", 3, 3, 1, 1, 3);
        run.dueWhats("later", 4, 2, 1, 2, 4);
        run.dueWhats("later", 5, 1, 0, 3, 5);
    }

    private static void changesOfTheSet() {
        Run run = new Run("0 before one; if it has arcs; what is refused change nothing of it", 1);
        run.due(0, "told", 12);
        run.due(0, "node", 0);
        run.due(1, "chain", 1);
        run.due(0, "weigh", 0, 5);
        run.due(0, "told", 12);
        run.due(2, "chain", 2);
        run.due(1, "told", 12);
        run.due(4, "chain", 1);
        run.due(5, "node", 0);
        run.due(-1, "put", 3, 2);
        run.due(-1, "put", 0, 0);
        run.due(INDEX, "put", 6, 0);
        run.due(INDEX, "take", 1);
        run.due(ARGUMENT, "chain", 0);
        run.due(ROOM, "chain", 300);
        run.due(2, "weigh", 3, 1);
        run.due(1, "told", 12);
        run.due(2, "weigh", 3, 0);
        // 2 goes, so 3 comes.
        run.due(1, "put", 0, 2);
        run.due(2, "told", 12);
        run.due(2, "put", 0, 2);
        run.due(0, "told", 12);
        run.due(4, "take", 1);
        run.due(0, "told", 12);
        run.due(5, "take", 2);
        run.due(2, "told", 12);
        run.due(6, "chain", 3);
        run.due(0, "told", 12);
        run.due(7, "take", 0);
        run.due(1, "told", 12);
        run.due("", "clear");
        run.due(0, "told", 12);
    }

    private static void noSuchWhat() {
        Run run = new Run("no such what", 0);
        run.dueTold(0, 0, 0, 0, 0, 0, 0, 0, 0, 0, 0, 0, 0);
        run.dueAll(ARGUMENT, "told", 13, -1, LEAST, MOST);
        run.due(0, "chain", 2);
        run.dueWhats("of", 1, 0, 0, 1, 1, 1, 0, 1, 1, 1);
        run.dueWhats("arc", 0, 0, 1, 0, 1, 0, 1, 0);
        run.dueWhats("later", 0, 1, 1, 2, 1);
        for (int what : new int[] {-1, LEAST, MOST}) {
            run.due(ARGUMENT, "of", 1, what);
            run.due(ARGUMENT, "arc", 0, what);
            run.due(ARGUMENT, "later", 0, what);
            run.due(INDEX, "of", 2, what);
            run.due(INDEX, "arc", 1, what);
            run.due(INDEX, "later", 1, what);
        }
        run.due(ARGUMENT, "of", 0, 9);
        run.due(ARGUMENT, "arc", 0, 7);
        run.due(ARGUMENT, "later", 0, 4);
        run.due(INDEX, "of", -1, 9);
        run.due(INDEX, "arc", -1, 7);
        run.due(INDEX, "later", -1, 4);
        run.due(2, "take", 0);
        run.due(INDEX, "arc", 0, 0);
        run.due(INDEX, "arc", 0, 7);
    }

    private static void clearedStrict() {
        Run run = new Run("All is as at first, in a STRICT house", 1);
        run.due("", "clear");
        dueNothing(run);
        run.due(0, "chain", 300);
        run.due(2, "weigh", 299, MOST);
        run.due(-1, "put", 299, 0);
        run.due(2, "take", 149);
        run.due(0, "planPut", 0, 0);
        run.due(1, "planTake", 0);
        run.due(1, "told", 9);
        run.due("", "clear");
        dueNothing(run);
        run.due("", "clear");
        dueNothing(run);
        run.due(0, "chain", 300);
        run.due(0, "planTake", 0);
        run.dueWhats("arc", 0, 0, 1, 0, 1, 0, 1, 0);
        run.dueWhats("of", 299, 0, 0, 299, 299, 1, 0, 1, 299, 1);
        run.dueRing();
        run.due(-1, "put", 299, 299);
        run.due(1, "told", 11);
    }

    private static void cleared() {
        Run run = new Run("All is as at first, in a house that is not STRICT", 0);
        for (int time = 0; time < 3; time++) {
            run.due(0, "node", 5);
            run.due(1, "told", 5);
            run.due(0, "told", 8);
            run.due(0L, "triangles");
            run.due(1, "chain", 2);
            run.due(1, "put", 2, 0);
            run.due(2, "put", 0, 1);
            run.dueRing(0, 1);
            run.due(3, "put", 0, 0);
            run.due(4, "put", 0, 1);
            run.dueRing(0, 1);
            run.due(1, "take", 4);
            run.due(0, "planPut", 0, 0);
            // These are looked at last, so that what was made for them is as old as can be.
            run.due(2, "told", 8);
            run.due(1, "told", 5);
            run.due(1L, "triangles");
            run.due("", "clear");
            dueNothing(run);
        }
    }

    private static void dueNothing(Run run) {
        run.dueTold(0, 0, 0, 0, 0, 0, 0, 0, 0, 0, 0, 0, 0);
        run.dueWhats("later", 0, 0, 0, 0, 0);
        run.dueRing();
        run.due(0L, "triangles");
        run.due(true, "sound");
        run.due(0, "drop");
        run.dueAll(INDEX, "order", 0);
        run.dueAll(INDEX, "take", 0);
        run.dueAll(INDEX, "planTake", 0, -1);
        run.due(INDEX, "arc", 0, 0);
        run.due(INDEX, "of", 0, 0);
        run.due(INDEX, "odd", 0, 0);
        run.due(INDEX, "weigh", 0, 0);
        run.due(INDEX, "put", 0, 0);
        run.due(INDEX, "planPut", 0, 0);
        run.due(INDEX, "joined", 0, 0);
        run.due(INDEX, "two", 0, 0);
        run.due(INDEX, "later", 1, 0);
        run.due(INDEX, "laterJoined", 0, 0, 0);
    }
}

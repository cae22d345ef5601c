/**
 * Edges of what it is, NODES and ARCS, and 1 TREES: for each sentence of the document that names one a run of its own,
 * with the sentence as its title. The least and the greatest that is taken, the next below and above,
 * what is empty and what is full. That nothing has changed behind a refused call: see RefusalRuns.
 */
public final class TreeEdges {
    private static final String INDEX = Run.INDEX;
    private static final String ARGUMENT = Run.ARGUMENT;
    private static final String ROOM = Run.ROOM;
    private static final int LEAST = Integer.MIN_VALUE;
    private static final int MOST = Integer.MAX_VALUE;

    private TreeEdges() {
    }

    public static void main(String[] args) {
        lastCall();
        strictOrNot();
        objectsApart();
        mostNodes();
        noRoomForAll();
        chainOfWrongLength();
        nodesStay();
        loop();
        arcsAlike();
        numbersOfArcs();
        joinedEitherWay();
        treeArcPut();
        leastNodeOfPart();
        noTreeArcTaken();
        levelsDownTillFound();
        lesserIsFirst();
        lesserIsSecond();
        asManyIsFirst();
        lesserOfOneNode();
        arcsByNumber();
        arcsFromTheLeastOn();
        treeArcsOfALevel();
        greatestLevel();
        deepestLevels();
        evenWays();
        evenParts();
        placesOfOddRing();
        oddRingOfAll();
        bridge();
        together();
        ringsThatMeet();
        Run.end("edges of trees");
    }

    private static void lastCall() {
        Run run = new Run("An object is used for at most 512 calls", 0);
        run.due(0, "chain", 300);
        for (int i = 0; i < 510; i++) {
            run.due(299 + i, "put", i % 300, (i * 7 + 3) % 300);
        }
        run.due(809, "told", 1);
        run.dueHere(0, "calls left", run.callsLeft());
    }

    private static void strictOrNot() {
        Run strict = new Run("a STRICT house (1)", 1);
        strict.due(0, "node", 0);
        strict.due(-1, "put", 0, 0);
        for (int other : new int[] {0, 2, -1, 257, LEAST, LEAST + 1, MOST}) {
            Run run = new Run("or not (any other number)", other);
            run.due(0, "node", 0);
            run.due(0, "put", 0, 0);
        }
    }

    private static void objectsApart() {
        Run one = new Run("one object beside another", 0);
        Run two = new Run("one object beside another", 1);
        one.due(0, "chain", 3);
        two.due(0, "told", 0);
        two.due(0, "chain", 2);
        one.due(2, "put", 2, 0);
        two.due(-1, "put", 1, 0);
        one.dueRing(0, 1);
        two.dueRing(0);
        two.due("", "clear");
        one.due(3, "told", 1);
    }

    private static void mostNodes() {
        Run run = new Run("NODES are numbered from 0 on, 300 at most", 0);
        for (int i = 0; i < 300; i++) {
            run.due(i, "node", i);
        }
        run.dueAll(ROOM, "node", 0, -1, LEAST, MOST);
        run.due(300, "told", 0);
        run.due(299, "of", 299, 0);
        run.due(INDEX, "of", 300, 0);
        run.due(299, "order", 299);
    }

    private static void noRoomForAll() {
        Run run = new Run("there is no room for all", 0);
        run.due(0, "node", 0);
        run.due(ROOM, "chain", 300);
        run.due(1, "chain", 298);
        run.due(ROOM, "chain", 2);
        run.due(299, "chain", 1);
        run.due(ROOM, "chain", 1);
        run.due(ROOM, "node", 0);
        run.due(297, "told", 1);
    }

    private static void chainOfWrongLength() {
        Run run = new Run("n is not 1 .. 300", 0);
        run.dueAll(ARGUMENT, "chain", 0, 301, -1, LEAST, MOST);
        run.due(0, "chain", 1);
        run.due(0, "told", 1);
        run.due(1, "told", 0);
        run.due("", "clear");
        run.due(0, "chain", 300);
        run.due(299, "told", 1);
        run.dueAll(ARGUMENT, "chain", 0, 301, -1, LEAST, MOST);
        run.dueAll(ROOM, "chain", 1, 300);
    }

    private static void nodesStay() {
        Run run = new Run("and stay", 0);
        run.due(0, "node", 7);
        run.due(1, "node", -7);
        run.due(0, "put", 0, 1);
        run.due(2, "take", 0);
        run.due(2, "told", 0);
        run.dueRow("of", 0, 7, -7);
    }

    private static void loop() {
        Run run = new Run("a LOOP: to itself", 0);
        run.due(0, "node", 0);
        run.due(0, "put", 0, 0);
        run.dueWhats("arc", 0, 0, 0, 0, 0, 1, 0, 1);
        run.dueWhats("of", 0, 0, 0, 0, 0, 0, 1, 0, 0, 0);
        run.dueTold(1, 1, 1, 0, 0, 1, 1, 1, 0, 0, 0, 0, 0);
        run.due(1, "take", 0);
        run.due(1, "of", 0, 8);
    }

    private static void arcsAlike() {
        Run run = new Run("several may go alike", 0);
        run.due(0, "chain", 2);
        run.due(1, "put", 0, 1);
        run.due(2, "put", 0, 1);
        run.due(3, "told", 1);
        run.dueRow("arc", 3, 1, 0, 0);
        run.dueRow("arc", 6, 0, 0, 0);
        run.due(1, "take", 1);
        run.due(INDEX, "arc", 1, 0);
        run.dueWhats("arc", 0, 0, 1, 0, 1, 0, 0, 0);
        run.dueWhats("arc", 2, 0, 1, 0, 0, 0, 0, 0);
    }

    private static void numbersOfArcs() {
        Run run = new Run("they have numbers by puts, from 0 on, none twice", 1);
        run.due(0, "chain", 3);
        run.due(2, "put", 0, 2);
        run.due(1, "take", 2);
        run.due(3, "put", 0, 2);
        run.due(-1, "put", 2, 0);
        run.due(INDEX, "put", 3, 0);
        run.due(0, "planPut", 0, 1);
        run.due(4, "put", 0, 2);
        run.due(3, "chain", 2);
        run.dueWhats("arc", 5, 3, 4, 0, 1, 0, 1, 0);
        run.dueAll(INDEX, "take", 2, 6);
    }

    private static void joinedEitherWay() {
        Run run = new Run("An arc joins its two nodes, whichever way it goes", 1);
        run.due(0, "chain", 3);
        run.due(true, "joined", 0, 2);
        run.due(true, "joined", 2, 0);
        run.due(3, "node", 0);
        run.due(2, "put", 3, 0);
        run.due(true, "joined", 2, 3);
        run.dueRow("of", 1, 0, 0, 0, 0);
        run.dueRow("of", 7, 0, 1, 2, 1);
    }

    private static void treeArcPut() {
        Run run = new Run("it is a TREE arc if its nodes were in two PARTS", 0);
        run.due(0, "chain", 2);
        run.due(2, "node", 0);
        run.due(1, "put", 1, 0);
        run.due(2, "put", 0, 0);
        run.due(3, "put", 2, 1);
        run.due(4, "put", 0, 2);
        run.dueRow("arc", 3, 1, 0, 0, 1, 0);
        run.dueRow("arc", 2, 0, 0, 0, 0, 0);
        run.due(5, "told", 1);
        run.due(2, "told", 10);
    }

    private static void leastNodeOfPart() {
        Run run = new Run("the least node of its PART", 0);
        run.due(0, "chain", 1);
        run.due(1, "chain", 3);
        run.dueRow("of", 1, 0, 1, 1, 1);
        run.due(2, "put", 3, 0);
        run.dueRow("of", 1, 0, 0, 0, 0);
        run.dueRow("of", 7, 0, 3, 2, 1);
        run.due(2, "take", 0);
        run.dueRow("of", 1, 0, 1, 0, 0);
        run.dueRow("of", 7, 0, 0, 2, 1);
    }

    private static void noTreeArcTaken() {
        Run run = new Run("one that is no TREE arc is gone", 0);
        run.due(0, "chain", 3);
        run.due(2, "put", 0, 1);
        run.due(3, "put", 1, 1);
        run.due(4, "put", 0, 2);
        run.due(1, "take", 2);
        run.due(1, "take", 3);
        run.due(2, "told", 10);
        run.due(0, "told", 9);
        run.due(0, "arc", 4, 3);
        run.due(INDEX, "take", 2);
        run.due(INDEX, "arc", 3, 2);
    }

    private static void levelsDownTillFound() {
        Run run = new Run("then for i = l, l - 1, .., 0, till one is found", 0);
        run.due(0, "chain", 8);
        // 0 1 2 3 and 4 5 6 7: of as many the first node's.
        run.due(2, "take", 3);
        run.dueRow("arc", 2, 1, 1, 1);
        run.due(0, "arc", 4, 2);
        run.due(7, "put", 7, 0);
        run.due(8, "put", 1, 2);
        // In LEVEL 1 there are 0 1 and 2 3; arc 8 is found in LEVEL 0, where 2 3 are fewer than 0 1 7 6 5 4.
        run.due(1, "take", 1);
        run.due(2, "arc", 0, 2);
        run.due(1, "arc", 2, 2);
        run.dueWhats("arc", 8, 1, 2, 0, 1, 0, 1, 0);
        run.due(0, "arc", 7, 2);
        // Arc 0 has LEVEL 2. There and in LEVEL 1 its nodes are alone; in LEVEL 0 there are 0 7 6 5 4 and 1 2 3.
        run.due(2, "take", 0);
        run.due(1, "arc", 8, 2);
        run.due(1, "arc", 2, 2);
        run.due(0, "arc", 7, 2);
        run.due(1, "told", 9);
        run.due(true, "sound");
    }

    private static void lesserIsFirst() {
        Run run = new Run("The LESSER is the one with fewer nodes: the first node's", 0);
        run.due(0, "chain", 5);
        run.due(2, "take", 1);
        run.due(1, "arc", 0, 2);
        run.due(0, "arc", 2, 2);
        run.due(0, "arc", 3, 2);
    }

    private static void lesserIsSecond() {
        Run run = new Run("The LESSER is the one with fewer nodes: the second node's", 0);
        run.due(0, "chain", 5);
        run.due(2, "take", 2);
        run.due(0, "arc", 0, 2);
        run.due(0, "arc", 1, 2);
        run.due(1, "arc", 3, 2);
    }

    private static void asManyIsFirst() {
        Run run = new Run("of as many the first node's", 0);
        for (int i = 0; i < 4; i++) {
            run.due(i, "node", 0);
        }
        run.due(0, "put", 0, 1);
        run.due(1, "put", 2, 1);
        run.due(2, "put", 2, 3);
        run.due(2, "take", 1);
        run.due(0, "arc", 0, 2);
        run.due(1, "arc", 2, 2);
    }

    private static void lesserOfOneNode() {
        Run run = new Run("the LESSER has one node: a LOOP gets LEVEL 1, a TREE arc none", 0);
        run.due(0, "chain", 3);
        run.due(2, "put", 0, 0);
        run.due(3, "put", 1, 1);
        run.due(2, "take", 0);
        run.due(0, "arc", 1, 2);
        run.due(1, "arc", 2, 2);
        run.due(0, "arc", 3, 2);
    }

    private static void arcsByNumber() {
        Run run = new Run("the arcs that are no TREE arcs, of LEVEL i, with a node in the LESSER, by number", 0);
        run.due(0, "chain", 6);
        run.due(5, "put", 5, 4);
        run.due(6, "put", 0, 1);
        run.due(7, "put", 1, 1);
        run.due(8, "put", 5, 0);
        run.due(9, "put", 1, 4);
        run.due(10, "put", 1, 0);
        // LESSER 0 1: arcs 6 and 7 go up, 8 is found, 9 and 10 come behind it, 5 is in the other TREE.
        run.due(1, "take", 1);
        run.dueWhats("arc", 0, 0, 1, 1, 1, 0, 0, 0);
        run.due(0, "arc", 5, 2);
        run.due(1, "arc", 6, 2);
        run.due(1, "arc", 7, 2);
        run.due(0, "arc", 8, 2);
        run.due(1, "arc", 8, 3);
        run.due(0, "arc", 9, 2);
        run.due(0, "arc", 9, 3);
        run.due(0, "arc", 10, 2);
    }

    private static void arcsFromTheLeastOn() {
        Run run = new Run("by number: from the least one there on", 0);
        run.due(0, "node", 0);
        run.due(1, "node", 0);
        run.due(0, "put", 0, 0);
        run.due(1, "put", 1, 1);
        run.due(2, "put", 0, 1);
        run.due(2, "take", 2);
        run.dueRow("arc", 2, 1, 0);
        run.due(1, "told", 9);
    }

    private static void treeArcsOfALevel() {
        Run run = new Run("All TREE arcs of LEVEL i: also where there are more arcs than nodes", 0);
        for (int i = 0; i < 4; i++) {
            run.due(i, "node", 0);
        }
        for (int i = 0; i < 4; i++) {
            run.due(i, "put", 3, 3);
        }
        run.due(4, "put", 0, 1);
        run.due(5, "put", 1, 2);
        run.due(6, "put", 2, 3);
        run.due(2, "take", 5);
        run.due(1, "arc", 4, 2);
        run.due(0, "arc", 6, 2);
    }

    private static void greatestLevel() {
        Run run = new Run("the greatest LEVEL (0 without arcs)", 0);
        run.due(0, "told", 9);
        run.due(0, "chain", 4);
        run.due(0, "told", 9);
        run.due(2, "take", 1);
        run.due(1, "told", 9);
        run.due(3, "take", 0);
        run.due(0, "told", 9);
        run.due(4, "take", 2);
        run.due(0, "told", 9);
    }

    /** A full house that is halved again and again: 300 nodes can be halved 8 times. */
    private static void deepestLevels() {
        Run run = new Run("no more nodes than all nodes, halved as often as the LEVEL says", 0);
        run.due(0, "chain", 300);
        run.due(299, "put", 38, 38);
        int[] cuts = {149, 74, 37, 55, 46, 41, 39};
        for (int i = 0; i < cuts.length; i++) {
            run.due(i + 2, "take", cuts[i]);
            run.due(i + 1, "told", 9);
            run.due(i + 1, "arc", 38, 2);
            run.due(i + 1, "arc", 299, 2);
            run.due(true, "sound");
        }
        run.due(9, "take", 38);
        run.due(8, "arc", 299, 2);
        run.due(8, "told", 9);
        run.due(6, "arc", 40, 2);
        run.due(true, "sound");
        run.due(9, "take", 299);
        run.due(6, "told", 9);
    }

    private static void evenWays() {
        Run run = new Run("an even number of TREE arcs (0 for a LOOP) lies on the way", 0);
        run.due(0, "chain", 6);
        run.due(5, "put", 0, 0);
        run.due(6, "put", 1, 0);
        run.due(7, "put", 2, 0);
        run.due(8, "put", 0, 3);
        run.due(9, "put", 0, 4);
        run.dueRow("arc", 4, 0, 0, 0, 0, 0, 1, 0, 1, 0, 1);
        run.dueOdd(3, 5);
        run.due(1, "take", 5);
        run.dueOdd(3, 7, 0, 1);
        run.due(1, "take", 7);
        run.dueOdd(5, 9, 3, 2, 1, 0);
        run.due(1, "take", 9);
        run.dueOdd(5);
    }

    private static void evenParts() {
        Run run = new Run("A PART without ODD arcs is EVEN", 0);
        run.due(0, "node", 0);
        run.due(1, "chain", 3);
        run.dueRow("of", 8, 1, 1, 1, 1);
        run.due(2, "told", 3);
        run.due(2, "put", 1, 3);
        run.dueRow("of", 8, 1, 0, 0, 0);
        run.due(1, "told", 3);
        run.due(3, "put", 0, 0);
        run.due(0, "told", 3);
        run.dueOdd(0, 3);
        run.dueOdd(1, 2, 1, 0);
        run.due(4, "put", 0, 1);
        run.due(0, "told", 3);
        // Both its ODD arcs are of one PART now: the lesser one's ring.
        run.dueOdd(0, 2, 1, 0);
        run.due(1, "take", 2);
        run.dueOdd(3, 3);
        run.due(1, "take", 3);
        run.due(1, "told", 3);
    }

    private static void placesOfOddRing() {
        Run run = new Run("Arc k, from 0 on; NONE: it has not so many; also k is below 0", 0);
        run.due(INDEX, "odd", 0, 0);
        run.due(0, "chain", 3);
        run.due(-1, "odd", 0, 0);
        run.due(2, "put", 0, 2);
        run.due(2, "odd", 1, 0);
        run.due(0, "odd", 1, 2);
        run.due(-1, "odd", 1, 3);
        run.due(-1, "odd", 1, MOST);
        run.due(INDEX, "odd", 1, -1);
        run.due(INDEX, "odd", 1, LEAST);
        run.due(INDEX, "odd", 3, 0);
        run.due(INDEX, "odd", 3, -1);
    }

    private static void oddRingOfAll() {
        Run run = new Run("the ODD RING of all nodes", 0);
        run.due(0, "chain", 299);
        run.due(298, "put", 298, 0);
        run.due(298, "odd", 150, 0);
        run.due(0, "odd", 150, 1);
        run.due(297, "odd", 150, 298);
        run.due(-1, "odd", 150, 299);
    }

    private static void bridge() {
        Run run = new Run("A BRIDGE is an arc without which its nodes would be in two PARTS", 0);
        run.due(0, "chain", 2);
        run.due(1, "arc", 0, 5);
        run.due(1, "put", 1, 1);
        run.due(0, "arc", 1, 5);
        run.due(2, "put", 1, 0);
        run.dueRow("arc", 5, 0, 0, 0);
        run.due(0, "told", 4);
        run.due(1, "take", 0);
        run.due(1, "arc", 2, 5);
        run.due(1, "told", 4);
    }

    private static void together() {
        Run run = new Run("joined whichever one arc were gone (a node with itself: always)", 0);
        run.due(0, "node", 0);
        run.due(true, "two", 0, 0);
        run.due(1, "chain", 2);
        run.due(true, "two", 2, 2);
        run.due(false, "two", 1, 2);
        run.due(false, "two", 2, 1);
        run.due(false, "two", 0, 2);
        run.due(1, "put", 2, 1);
        run.due(true, "two", 1, 2);
        run.due(true, "two", 2, 1);
        run.due(2, "put", 0, 0);
        run.due(3, "put", 0, 1);
        run.due(false, "two", 0, 1);
        run.due(1, "take", 1);
        run.due(false, "two", 1, 2);
        run.due(INDEX, "two", 3, 3);
        run.due(INDEX, "two", -1, -1);
    }

    private static void ringsThatMeet() {
        Run run = new Run("two rings that meet in a node hang together twice, over a BRIDGE not", 0);
        run.due(0, "chain", 6);
        run.due(5, "put", 2, 0);
        run.due(6, "put", 4, 2);
        run.due(true, "two", 0, 4);
        run.due(false, "two", 0, 5);
        run.due(1, "told", 4);
        run.due(1, "take", 6);
        run.due(false, "two", 0, 4);
        run.due(3, "told", 4);
    }
}

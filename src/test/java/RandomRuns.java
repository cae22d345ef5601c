import java.util.Arrays;

/** Runs of calls drawn from a fixed row of numbers, each answer held against Plain's. */
public final class RandomRuns {
    private static final int MOST_CALLS = 512;
    private static final int[] WRONG = {-1, -2, Integer.MIN_VALUE, Integer.MAX_VALUE, 300, 5000};
    private static final String[] NAMES = {
        "node", "chain", "put", "take", "weigh", "joined", "two", "of", "arc", "order", "odd", "ring",
        "triangles", "planPut", "planTake", "later", "laterJoined", "drop", "told", "sound", "clear"};
    /** How often each call is drawn, by kind of run: mixed, much changed, much planned. */
    private static final int[][] SHARES = {
        {8, 1, 40, 16, 8, 4, 6, 24, 20, 6, 10, 8, 3, 6, 4, 6, 3, 1, 24, 3, 0},
        {4, 1, 60, 44, 6, 1, 4, 12, 16, 6, 6, 6, 2, 0, 0, 0, 0, 0, 16, 2, 0},
        {1, 0, 6, 3, 3, 2, 2, 4, 4, 2, 2, 2, 1, 40, 30, 60, 20, 2, 6, 1, 1}};

    private long drawn;
    private final StringBuilder log = new StringBuilder();

    private RandomRuns(long seed) {
        drawn = seed * 7919 + 17;
    }

    public static void main(String[] args) {
        int runs = 0;
        for (int seed = 0; seed < 1500; seed++) {
            int nodes = 3 + seed % 10;
            runs += one(seed, nodes, seed / 3 % 3, seed % 2);
        }
        for (int seed = 2000; seed < 2120; seed++) {
            runs += one(seed, 12 + seed % 30, seed % 3, seed % 5 == 0 ? 1 : 0);
        }
        for (int seed = 3000; seed < 3004; seed++) {
            runs += one(seed, 120, 1, seed % 2);
        }
        System.out.println("random runs: " + runs + " as due");
    }

    private static int one(int seed, int nodes, int kind, int strict) {
        RandomRuns run = new RandomRuns(seed);
        String wrong = run.go(nodes, kind, strict);
        if (wrong != null) {
            System.out.println("seed " + seed + ", strict " + strict + ": " + wrong);
            System.out.println(run.log);
            System.exit(1);
        }
        return 1;
    }

    private int below(int bound) {
        drawn = drawn * 6364136223846793005L + 1442695040888963407L;
        return (int) Math.floorMod(drawn >>> 33, (long) bound);
    }

    private String go(int nodes, int kind, int strict) {
        KeptParts made = new KeptParts(strict);
        Plain plain = new Plain(strict);
        int calls = 0;
        String wrong = null;
        int free = below(4);
        if (nodes > free + 1) {
            wrong = compare(made, plain, "chain", nodes - free);
            calls++;
        }
        for (int i = 0; i < free && wrong == null; i++) {
            wrong = compare(made, plain, "node", below(5) - 2);
            calls++;
        }
        int changing = 150 + below(200);
        while (calls < changing && wrong == null) {
            wrong = draw(made, plain, SHARES[kind], nodes);
            calls++;
        }
        for (int left = MOST_CALLS - calls; left > 0 && wrong == null; left--) {
            wrong = look(made, plain);
        }
        return wrong;
    }

    private String draw(KeptParts made, Plain plain, int[] shares, int nodes) {
        int sum = 0;
        for (int share : shares) {
            sum += share;
        }
        int at = below(sum);
        int which = 0;
        while (at >= shares[which]) {
            at -= shares[which];
            which++;
        }
        String name = NAMES[which];
        // Keeps a run's graph near the size that it is meant to have.
        if ((name.equals("node") || name.equals("chain")) && plain.told(0) > nodes + 6) {
            name = "put";
        }
        if (name.equals("put") && plain.told(1) > 3 * nodes) {
            name = "take";
        }
        return call(made, plain, name);
    }

    private String look(KeptParts made, Plain plain) {
        String[] looks = {"of", "arc", "told", "odd", "two", "order", "arc", "of"};
        return call(made, plain, looks[below(looks.length)]);
    }

    private String call(KeptParts made, Plain plain, String name) {
        switch (name) {
            case "node": return compare(made, plain, name, below(7) - 3);
            case "chain": return compare(made, plain, name, below(9) == 0 ? wrong() : 1 + below(4));
            case "put":
            case "joined":
            case "two":
            case "planPut": return compare(made, plain, name, aNode(plain), aNode(plain));
            case "weigh": return compare(made, plain, name, aNode(plain), below(9) == 0 ? wrong() : below(7) - 3);
            case "take": return compare(made, plain, name, anArc(plain));
            case "of": return compare(made, plain, name, aNode(plain), below(11) - 1);
            case "arc": return compare(made, plain, name, anArc(plain), below(9) - 1);
            case "order": return compare(made, plain, name, aNode(plain));
            case "odd": return compare(made, plain, name, aNode(plain), below(8) - 1);
            case "ring": return compare(made, plain, name, below(8) - 1);
            case "planTake": return compare(made, plain, name, aTakeable(plain));
            case "later": return compare(made, plain, name, below(plain.told(11) + 3) - 1, below(6) - 1);
            case "laterJoined":
                return compare(made, plain, name, below(plain.told(11) + 3) - 1, aNode(plain), aNode(plain));
            case "told": return compare(made, plain, name, below(15) - 1);
            default: return compare(made, plain, name);
        }
    }

    private int wrong() {
        return WRONG[below(WRONG.length)];
    }

    private int aNode(Plain plain) {
        int nodes = plain.told(0);
        return below(40) == 0 || nodes == 0 ? wrong() : below(nodes);
    }

    private int anArc(Plain plain) {
        if (below(40) == 0) {
            return wrong();
        }
        int arc = 0;
        // Of a few draws mostly one hits an arc that is there.
        for (int i = 0; i < 6; i++) {
            arc = below(MOST_CALLS);
            if (plain.hasArc(arc)) {
                return arc;
            }
        }
        for (arc = below(MOST_CALLS); arc < 2 * MOST_CALLS && !plain.hasArc(arc); arc++) {
            continue;
        }
        return arc;
    }

    private int aTakeable(Plain plain) {
        return below(3) == 0 ? -1 - below(plain.told(11) + 2) : anArc(plain);
    }

    private String compare(KeptParts made, Plain plain, String name, int... numbers) {
        String due = Asker.ask(plain, name, numbers);
        String got = Asker.ask(made, name, numbers);
        log.append(name).append(Arrays.toString(numbers)).append(' ').append(got).append('\n');
        return due.equals(got) ? null : name + " answered " + got + ", due is " + due;
    }
}

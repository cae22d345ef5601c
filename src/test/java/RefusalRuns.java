import java.util.ArrayList;
import java.util.List;

/**
 * "A call that throws changes nothing": each kind of refused call is made on one of two objects that
 * were made alike; all that can be asked, and what further calls answer, is the same of both.
 */
public final class RefusalRuns {
    private static final int MOST_CALLS = 512;
    private static final int MOST_WRONG_TOLD = 50;
    private static final int LEAST = Integer.MIN_VALUE;
    private static final int MOST = Integer.MAX_VALUE;
    private static final int[] BELOW_NONE = {-1, LEAST};

    /** Arcs taken, LEVELS, a LOOP, LOOSE arcs, a told RING, and then a PLAN: a put, a take, a put that is taken. */
    private static final String SMALL = "node 4, chain 5, put 5 1, put 1 1, put 2 0, put 0 3, put 3 0, take 1, take 5, "
        + "weigh 3 9, planPut 0 4, planTake 0, planPut 1 1, planTake -3";
    private static final String STRICT = "chain 4, node -2, put 0 2, take 2, put 3 4, put 2 0, planPut 1 0, planTake 1";
    private static final String FULL = "chain 299, node 7, put 298 0, put 299 0, take 150, planTake 0, planPut 0 0";

    private static int rows = 0;
    private static int wrong = 0;

    /** How an object is made, what is there then, and what is refused then. */
    private final String name;
    private final int strict;
    private final List<String> script;
    private final List<String> refused = new ArrayList<>();
    private final int nodes;
    private final int numbers;
    private final int steps;

    private RefusalRuns(String name, int strict, String script, int numbers) {
        this.name = name;
        this.strict = strict;
        this.script = script.isEmpty() ? List.of() : List.of(script.split(", "));
        this.numbers = numbers;
        KeptParts made = make();
        nodes = made.told(0);
        steps = made.told(11);
    }

    public static void main(String[] args) {
        for (int strict = 0; strict <= 1; strict++) {
            RefusalRuns empty = new RefusalRuns("nothing there", strict, "", 0);
            empty.refuseAll();
            empty.run();
        }

        RefusalRuns small = new RefusalRuns("a few nodes", 0, SMALL, 9);
        small.refuseAll();
        small.refuse("IndexOutOfBoundsException", "planTake -2", "planTake -4", "planTake -5", "take 1", "take 5");
        small.refuse("IllegalStateException", "planTake 0", "planTake -3");
        small.run();

        RefusalRuns strict = new RefusalRuns("a few nodes, STRICT", 1, STRICT, 5);
        strict.refuseAll();
        strict.refuse("IndexOutOfBoundsException", "planTake -2", "planTake -3", "planTake 2", "take 2", "take 5");
        strict.refuse("IllegalStateException", "planTake 1");
        strict.run();

        StringBuilder planned = new StringBuilder(SMALL);
        for (int step = 4; step < 60; step++) {
            planned.append(", planPut ").append(step % 6).append(" 2");
        }
        RefusalRuns plan = new RefusalRuns("a PLAN of 60", 0, planned.toString(), 9);
        plan.refuseAll();
        plan.refuse("IndexOutOfBoundsException", "planTake -2", "planTake -4", "planTake -61", "planPut 6 0");
        plan.refuse("IllegalStateException", "planTake 0", "planTake -3");
        plan.refuse("UnsupportedOperationException", "planTake 2", "planTake -1", "planTake -60", "planPut 0 0",
            "planPut 5 5");
        plan.run();

        RefusalRuns full = new RefusalRuns("300 nodes", 0, FULL, 300);
        full.refuseAll();
        full.refuse("IndexOutOfBoundsException", "planTake -1", "planTake 150", "take 150");
        full.refuse("IllegalStateException", "planTake 0");
        full.refuse("UnsupportedOperationException", "node 0", "node -2147483648", "chain 1", "chain 2", "chain 299");
        full.run();

        System.out.println("refusals: " + rows + " rows, " + wrong + " wrong");
        if (wrong != 0) {
            System.exit(1);
        }
    }

    private void refuse(String exception, String... calls) {
        for (String call : calls) {
            refused.add(exception + ": " + call);
        }
    }

    /** For a method with some of its numbers: the exception, the method, then a choice of each number. */
    private void refuseEach(String exception, String method, int[]... choices) {
        List<String> calls = List.of(method);
        for (int[] choice : choices) {
            List<String> longer = new ArrayList<>();
            for (String call : calls) {
                for (int number : choice) {
                    longer.add(call + " " + number);
                }
            }
            calls = longer;
        }
        refuse(exception, calls.toArray(new String[0]));
    }

    /** What is refused in each house, with what is there and without. */
    private void refuseAll() {
        int[] badNodes = {-1, nodes, LEAST, MOST};
        int[] anyNodes = nodes == 0 ? new int[] {0} : new int[] {0, nodes - 1};
        int[] badArcs = {-1, numbers, LEAST, MOST};
        int[] badSteps = {-1, steps + 1, LEAST, MOST};
        String index = "IndexOutOfBoundsException";
        for (String method : new String[] {"put", "joined", "two", "planPut"}) {
            refuseEach(index, method, badNodes, anyNodes);
            refuseEach(index, method, anyNodes, badNodes);
            refuse(index, method + " " + nodes + " -1");
        }
        refuseEach(index, "weigh", badNodes, new int[] {0, LEAST, MOST});
        refuseEach(index, "of", badNodes, new int[] {0, 8, 9, -1, LEAST, MOST});
        refuseEach(index, "odd", badNodes, new int[] {0, -1, MOST});
        refuseEach(index, "odd", anyNodes, BELOW_NONE);
        refuseEach(index, "take", badArcs);
        refuseEach(index, "arc", badArcs, new int[] {0, 6, 7, -1, LEAST, MOST});
        refuseEach(index, "order", badNodes);
        refuseEach(index, "ring", BELOW_NONE);
        refuseEach(index, "planTake", new int[] {numbers, MOST, -1 - steps, LEAST, LEAST + 1});
        refuseEach(index, "later", badSteps, new int[] {0, 3, 4, -1});
        refuseEach(index, "laterJoined", badSteps, anyNodes, anyNodes);
        refuseEach(index, "laterJoined", new int[] {0, steps}, badNodes, anyNodes);
        refuseEach(index, "laterJoined", new int[] {0, steps}, anyNodes, badNodes);
        String argument = "IllegalArgumentException";
        refuseEach(argument, "chain", new int[] {0, 301, -1, LEAST, MOST});
        refuseEach(argument, "later", new int[] {0, steps}, new int[] {4, -1, LEAST, MOST});
        refuseEach(argument, "told", new int[] {13, -1, LEAST, MOST});
        if (nodes > 0) {
            refuseEach(argument, "of", anyNodes, new int[] {9, -1, LEAST, MOST});
            refuseEach(argument, "arc", new int[] {0}, new int[] {7, -1, LEAST, MOST});
            refuseEach("UnsupportedOperationException", "chain", new int[] {301 - nodes, 300});
        }
    }

    private void run() {
        for (String row : refused) {
            int colon = row.indexOf(": ");
            runOne(row.substring(0, colon), row.substring(colon + 2));
        }
    }

    private void runOne(String exception, String call) {
        KeptParts asked = make();
        KeptParts spared = make();
        int calls = script.size();
        for (int time = 0; time < 2; time++, calls++) {
            check("throws." + exception, answer(asked, call), call, "itself");
        }
        List<String> behind = new ArrayList<>();
        lookAtAll(behind);
        changeMuch(behind);
        lookAtAll(behind);
        for (String next : behind) {
            check(answer(spared, next), answer(asked, next), next, "behind " + call);
            calls++;
        }
        if (calls > MOST_CALLS) {
            throw new IllegalStateException(name + ": " + calls + " calls: what they answer is free");
        }
    }

    private KeptParts make() {
        KeptParts made = new KeptParts(strict);
        for (String call : script) {
            String answer = answer(made, call);
            if (answer.startsWith("throws.")) {
                throw new IllegalStateException(name + ": " + call + " " + answer);
            }
        }
        return made;
    }

    private static String answer(KeptParts on, String call) {
        String[] words = call.split(" ");
        int[] numbers = new int[words.length - 1];
        for (int i = 0; i < numbers.length; i++) {
            numbers[i] = Integer.parseInt(words[i + 1]);
        }
        return Asker.ask(on, words[0], numbers);
    }

    private void check(String due, String got, String call, String where) {
        rows++;
        if (!due.equals(got)) {
            wrong++;
            if (wrong <= MOST_WRONG_TOLD) {
                System.out.println(
                    name + ", strict " + strict + ", " + where + ": " + call + " answered " + got + ", due is " + due);
            }
        }
    }

    /** Some of many: the first ones, one between and the last one, and one behind it. */
    private static List<Integer> some(int count) {
        List<Integer> chosen = new ArrayList<>();
        for (int i = 0; i <= count; i++) {
            if (i < 3 || i == count / 2 || i >= count - 1) {
                chosen.add(i);
            }
        }
        return chosen;
    }

    private void lookAtAll(List<String> calls) {
        for (int what = 0; what <= 12; what++) {
            calls.add("told " + what);
        }
        for (int node : some(nodes)) {
            for (int what = 0; what <= 8; what++) {
                calls.add("of " + node + " " + what);
            }
            calls.add("order " + node);
            calls.add("odd " + node + " 1");
            calls.add("joined " + node + " 0");
            calls.add("two " + node + " 1");
        }
        for (int arc : some(numbers)) {
            for (int what = 0; what <= 6; what++) {
                calls.add("arc " + arc + " " + what);
            }
        }
        for (int k = 0; k < 4; k++) {
            calls.add("ring " + k);
            calls.add("later " + steps + " " + k);
            calls.add("later " + (steps - 1) + " " + k);
        }
        calls.add("laterJoined " + steps + " 0 1");
        calls.add("triangles");
        calls.add("sound");
    }

    private static void changeMuch(List<String> calls) {
        calls.addAll(List.of("planPut 1 0", "planTake -1", "planTake 2", "later 1 1", "put 1 0", "told 11", "told 12",
            "planPut 0 1", "planTake -1", "planTake 3", "drop", "node 3", "chain 2", "put 0 1", "put 0 0", "ring 0",
            "put 0 3", "take 3", "told 12", "weigh 1 -5", "take 0", "take 2", "told 9"));
    }
}

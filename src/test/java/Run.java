import java.util.Objects;

/** A run of calls on one object, each with the answer that is due; counts the wrong ones of all runs. */
final class Run {
    static final String INDEX = "throws.IndexOutOfBoundsException";
    static final String ARGUMENT = "throws.IllegalArgumentException";
    static final String STATE = "throws.IllegalStateException";
    static final String ROOM = "throws.UnsupportedOperationException";

    private static final int MOST_CALLS = 512;
    private static final int MOST_WRONG_TOLD = 50;

    private static int rows = 0;
    private static int wrong = 0;

    private final String title;
    private final KeptParts x;
    private final int mostCalls;
    private int calls;

    Run(String title, int strict) {
        this(title, strict, MOST_CALLS);
    }

    private Run(String title, int strict, int mostCalls) {
        this.title = title;
        this.mostCalls = mostCalls;
        x = new KeptParts(strict);
    }

    /** For limits that no object comes to in the calls for which it is promised. */
    static Run beyondItsCalls(String title, int strict) {
        return new Run(title, strict, Integer.MAX_VALUE);
    }

    /** Tells how all runs of a test went, and ends it with 1 if an answer was wrong. */
    static void end(String test) {
        System.out.println(test + ": " + rows + " rows, " + wrong + " wrong");
        if (wrong != 0 || rows == 0) {
            System.exit(1);
        }
    }

    String ask(String name, int... numbers) {
        calls++;
        if (calls == mostCalls + 1) {
            tellWrong("more than " + mostCalls + " calls: what they answer is free");
        }
        return Asker.ask(x, name, numbers);
    }

    int callsLeft() {
        return mostCalls - calls;
    }

    void due(Object answer, String name, int... numbers) {
        dueHere(answer, call(name, numbers), ask(name, numbers));
    }

    /** For what is not a call of this run's object. */
    void dueHere(Object answer, String what, Object got) {
        rows++;
        if (!String.valueOf(got).equals(Objects.toString(answer))) {
            tellWrong(what + " answered " + got + ", due is " + answer);
        }
    }

    /** One call for each number: name(number). */
    void dueAll(Object answer, String name, int... numbers) {
        for (int number : numbers) {
            due(answer, name, number);
        }
    }

    /** The answers of name(0, what), name(1, what), .. */
    void dueRow(String name, int what, int... answers) {
        for (int i = 0; i < answers.length; i++) {
            due(answers[i], name, i, what);
        }
    }

    /** The answers of name(number, 0), name(number, 1), .. */
    void dueWhats(String name, int number, int... answers) {
        for (int what = 0; what < answers.length; what++) {
            due(answers[what], name, number, what);
        }
    }

    /** The answers of told(0), told(1), .. */
    void dueTold(int... answers) {
        for (int what = 0; what < answers.length; what++) {
            due(answers[what], "told", what);
        }
    }

    /** The whole order, from place 0 on. */
    void dueOrder(int... nodes) {
        for (int place = 0; place < nodes.length; place++) {
            due(nodes[place], "order", place);
            due(place, "of", nodes[place], 3);
        }
        due(INDEX, "order", nodes.length);
    }

    void dueRing(int... arcs) {
        for (int k = 0; k < arcs.length; k++) {
            due(arcs[k], "ring", k);
        }
        due(-1, "ring", arcs.length);
        due(-1, "ring", Integer.MAX_VALUE);
    }

    void dueOdd(int node, int... arcs) {
        for (int k = 0; k < arcs.length; k++) {
            due(arcs[k], "odd", node, k);
        }
        due(-1, "odd", node, arcs.length);
        due(-1, "odd", node, Integer.MAX_VALUE);
    }

    private void tellWrong(String what) {
        wrong++;
        if (wrong <= MOST_WRONG_TOLD) {
            System.out.println(title + ": " + what);
        }
    }

    static String call(String name, int... numbers) {
        StringBuilder call = new StringBuilder(name).append('(');
        for (int i = 0; i < numbers.length; i++) {
            call.append(i == 0 ? "" : ", ").append(numbers[i]);
        }
        return call.append(')').toString();
    }
}

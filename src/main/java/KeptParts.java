import java.util.Arrays;

/**
 * A graph that is changed arc by arc, and keeps what it is made of. The words in capitals are those
 * of the document's "Terms".
 */
public final class KeptParts {
    public static final int NONE = -1;

    private static final int MOST_NODES = 300;
    private static final int MOST_ARCS = 900;
    private static final int MOST_NUMBERS = 5000;
    private static final int MOST_STEPS = 60;

    private final boolean strict;
    private final Web web;
    private final Trees trees;
    private final OddArcs oddArcs;
    private final Twice twice;
    private final Row row;
    private final Strong strong;
    private final Sides sides;
    private final Chosen chosen;
    private final Plan plan;
    /** What sound() looks at everything anew with. */
    private final Joiner joiner;
    private final Sides anew;
    private int moved;

    public KeptParts(int strict) {
        this.strict = strict == 1;
        web = new Web();
        trees = new Trees(web);
        oddArcs = new OddArcs(web, trees);
        twice = new Twice(web, trees);
        row = new Row(web);
        strong = new Strong(web);
        sides = new Sides(web);
        chosen = new Chosen(web);
        joiner = new Joiner();
        plan = new Plan(web, joiner);
        anew = new Sides(web);
        moved = 0;
    }

    public int node(int weight) throws UnsupportedOperationException {
        if (web.nodes >= MOST_NODES) {
            throw new UnsupportedOperationException("no room for a node");
        }
        plan.forget();
        return addNode(weight);
    }

    public int chain(int n) throws IllegalArgumentException, UnsupportedOperationException {
        if (n < 1 || n > MOST_NODES) {
            throw new IllegalArgumentException("a chain has 1 to 300 nodes");
        }
        if (n > MOST_NODES - web.nodes || !web.hasRoom(n - 1)) {
            throw new UnsupportedOperationException("no room for the chain");
        }
        plan.forget();
        int start = web.nodes;
        for (int i = 0; i < n; i++) {
            addNode(0);
        }
        for (int i = 1; i < n; i++) {
            addArc(start + i - 1, start + i, false);
        }
        return start;
    }

    public int put(int a, int b) throws IndexOutOfBoundsException, UnsupportedOperationException {
        if (!web.hasNode(a) || !web.hasNode(b)) {
            throw new IndexOutOfBoundsException("no such node");
        }
        if (!web.hasRoom(1)) {
            throw new UnsupportedOperationException("no room for an arc");
        }
        boolean loose = row.tellRing(a, b);
        if (loose && strict) {
            return NONE;
        }
        plan.forget();
        return addArc(a, b, loose);
    }

    public int take(int arc) throws IndexOutOfBoundsException {
        if (!web.hasArc(arc)) {
            throw new IndexOutOfBoundsException("no such arc");
        }
        plan.forget();
        web.removeArc(arc);
        trees.arcRemoved(arc);
        row.arcRemoved(arc);
        moved = chosen.arcChanged(web.first[arc], web.second[arc]);
        return trees.parts();
    }

    public int weigh(int node, int weight) throws IndexOutOfBoundsException {
        if (!web.hasNode(node)) {
            throw new IndexOutOfBoundsException("no such node");
        }
        return chosen.reweigh(node, weight);
    }

    public boolean joined(int a, int b) throws IndexOutOfBoundsException {
        if (!web.hasNode(a) || !web.hasNode(b)) {
            throw new IndexOutOfBoundsException("no such node");
        }
        return trees.together(a, b);
    }

    public boolean two(int a, int b) throws IndexOutOfBoundsException {
        if (!web.hasNode(a) || !web.hasNode(b)) {
            throw new IndexOutOfBoundsException("no such node");
        }
        return twice.together(a, b);
    }

    public int of(int node, int what) throws IndexOutOfBoundsException, IllegalArgumentException {
        if (!web.hasNode(node)) {
            throw new IndexOutOfBoundsException("no such node");
        }
        switch (what) {
            case 0: return chosen.weightOf(node);
            case 1: return trees.root[node];
            case 2: return strong.leastOf(node);
            case 3: return row.placeOf(node);
            case 4: return sides.coreOf(node);
            case 5: return chosen.has(node) ? 1 : 0;
            case 6: return sides.countOf(node);
            case 7: return trees.depth[node];
            case 8: return oddArcs.leastIn(node) == NONE ? 1 : 0;
            default: throw new IllegalArgumentException("no such what");
        }
    }

    public int arc(int arc, int what) throws IndexOutOfBoundsException, IllegalArgumentException {
        if (!web.hasArc(arc)) {
            throw new IndexOutOfBoundsException("no such arc");
        }
        switch (what) {
            case 0: return web.first[arc];
            case 1: return web.second[arc];
            case 2: return trees.level[arc];
            case 3: return trees.tree[arc] ? 1 : 0;
            case 4: return oddArcs.has(arc) ? 1 : 0;
            case 5: return twice.isBridge(arc) ? 1 : 0;
            case 6: return row.loose[arc] ? 1 : 0;
            default: throw new IllegalArgumentException("no such what");
        }
    }

    public int order(int place) throws IndexOutOfBoundsException {
        if (place < 0 || place >= web.nodes) {
            throw new IndexOutOfBoundsException("no such place");
        }
        return row.nodeAt(place);
    }

    public int odd(int node, int k) throws IndexOutOfBoundsException {
        if (!web.hasNode(node) || k < 0) {
            throw new IndexOutOfBoundsException("no such node, or k is below 0");
        }
        return oddArcs.ringArc(node, k);
    }

    public int ring(int k) throws IndexOutOfBoundsException {
        if (k < 0) {
            throw new IndexOutOfBoundsException("k is below 0");
        }
        return row.ringArc(k);
    }

    public long triangles() {
        return sides.countedThrees();
    }

    public int planPut(int a, int b) throws IndexOutOfBoundsException, UnsupportedOperationException {
        if (!web.hasNode(a) || !web.hasNode(b)) {
            throw new IndexOutOfBoundsException("no such node");
        }
        if (plan.isFull()) {
            throw new UnsupportedOperationException("no room for a step");
        }
        return plan.addPut(a, b);
    }

    public int planTake(int x) throws IndexOutOfBoundsException, IllegalStateException, UnsupportedOperationException {
        if (!web.hasArc(x) && !plan.puts(-1 - x)) {
            throw new IndexOutOfBoundsException("no such arc, or no such step that puts one");
        }
        if (plan.takes(x)) {
            throw new IllegalStateException("a step ahead takes it already");
        }
        if (plan.isFull()) {
            throw new UnsupportedOperationException("no room for a step");
        }
        return plan.addTake(x);
    }

    public int later(int n, int what) throws IndexOutOfBoundsException, IllegalArgumentException {
        if (n < 0 || n > plan.steps) {
            throw new IndexOutOfBoundsException("not so many steps");
        }
        switch (what) {
            case 0: return plan.behind(n).parts;
            case 1: return plan.behind(n).evenParts;
            case 2: return plan.behind(n).greatest;
            case 3: return plan.arcsBehind(n);
            default: throw new IllegalArgumentException("no such what");
        }
    }

    public boolean laterJoined(int n, int a, int b) throws IndexOutOfBoundsException {
        if (n < 0 || n > plan.steps || !web.hasNode(a) || !web.hasNode(b)) {
            throw new IndexOutOfBoundsException("not so many steps, or no such node");
        }
        return plan.behind(n).together(a, b);
    }

    public int drop() {
        return plan.forget();
    }

    public int told(int what) throws IllegalArgumentException {
        switch (what) {
            case 0: return web.nodes;
            case 1: return web.count;
            case 2: return trees.parts();
            case 3: return oddArcs.evenParts();
            case 4: return twice.bridges();
            case 5: return strong.parts();
            case 6: return row.looseArcs();
            case 7: return chosen.size();
            case 8: return sides.greatestCore();
            case 9: return trees.greatestLevel();
            case 10: return trees.treeArcs();
            case 11: return plan.steps;
            case 12: return moved;
            default: throw new IllegalArgumentException("no such what");
        }
    }

    public boolean sound() {
        return trees.spanJust(joiner) && trees.levelsHold(joiner) && row.holds()
                && sides.holds(anew) && chosen.holds();
    }

    public void clear() {
        plan.forget();
        web.empty();
        row.empty();
        moved = 0;
    }

    private int addNode(int weight) {
        int node = web.addNode();
        trees.nodeAdded(node);
        row.nodeAdded(node);
        chosen.nodeAdded(node, weight);
        return node;
    }

    private int addArc(int a, int b, boolean loose) {
        int arc = web.addArc(a, b);
        trees.arcAdded(arc);
        row.arcAdded(arc, loose);
        moved = chosen.arcChanged(a, b);
        return arc;
    }

    /** Closes a row up where a number stands in it: how many numbers are left. */
    private static int leaveOut(int[] row, int count, int number) {
        int kept = 0;
        for (int i = 0; i < count; i++) {
            if (row[i] != number) {
                row[kept] = row[i];
                kept++;
            }
        }
        return kept;
    }

    /** For each node the arcs that begin (or that end) at it, the least number first. */
    private static final class Fan {
        final int[] arcs = new int[MOST_ARCS];
        /** Where a node's arcs begin; they end where the next node's begin. */
        final int[] start = new int[MOST_NODES + 1];
        private int nodes;
        private int count;

        void addNode() {
            start[nodes + 1] = count;
            nodes++;
        }

        /** The arc's number is greater than all others. */
        void addArc(int node, int arc) {
            int at = start[node + 1];
            for (int i = count; i > at; i--) {
                arcs[i] = arcs[i - 1];
            }
            arcs[at] = arc;
            count++;
            for (int next = node + 1; next <= nodes; next++) {
                start[next]++;
            }
        }

        void removeArc(int node, int arc) {
            count = leaveOut(arcs, count, arc);
            for (int next = node + 1; next <= nodes; next++) {
                start[next]--;
            }
        }

        void empty() {
            nodes = 0;
            count = 0;
        }
    }

    /** The nodes and the arcs that are there, and the arcs at each node. */
    private static final class Web {
        final int[] first = new int[MOST_NUMBERS];
        final int[] second = new int[MOST_NUMBERS];
        /** The arcs there, the least number first. */
        final int[] list = new int[MOST_ARCS];
        int nodes;
        int count;
        /** Another one behind each change, so that what is derived can tell whether it is stale. */
        int age;
        /** The arcs that leave each node, and those that come to it. */
        final Fan out = new Fan();
        final Fan in = new Fan();
        private final boolean[] here = new boolean[MOST_NUMBERS];
        private int numbers;

        boolean hasNode(int node) {
            return node >= 0 && node < nodes;
        }

        boolean hasArc(int arc) {
            return arc >= 0 && arc < numbers && here[arc];
        }

        boolean hasRoom(int more) {
            return more <= MOST_ARCS - count && more <= MOST_NUMBERS - numbers;
        }

        int addNode() {
            int node = nodes;
            out.addNode();
            in.addNode();
            nodes++;
            age++;
            return node;
        }

        int addArc(int a, int b) {
            int arc = numbers;
            first[arc] = a;
            second[arc] = b;
            here[arc] = true;
            list[count] = arc;
            out.addArc(a, arc);
            in.addArc(b, arc);
            numbers++;
            count++;
            age++;
            return arc;
        }

        /** Its nodes can still be read behind this. */
        void removeArc(int arc) {
            count = leaveOut(list, count, arc);
            out.removeArc(first[arc], arc);
            in.removeArc(second[arc], arc);
            here[arc] = false;
            age++;
        }

        void empty() {
            nodes = 0;
            count = 0;
            numbers = 0;
            out.empty();
            in.empty();
            age++;
        }

        int other(int arc, int node) {
            return first[arc] == node ? second[arc] : first[arc];
        }

        /** How many arcs are at a node; a LOOP counts twice. */
        int degree(int node) {
            return out.start[node + 1] - out.start[node] + in.start[node + 1] - in.start[node];
        }

        int arcAt(int node, int k) {
            int leave = out.start[node + 1] - out.start[node];
            return k < leave ? out.arcs[out.start[node] + k] : in.arcs[in.start[node] + k - leave];
        }
    }

    /** PARTS, LEVELS and TREE arcs; each PART's tree hangs from its least node. */
    private static final class Trees {
        private static final int FIRST = 1;
        private static final int SECOND = 2;

        final int[] level = new int[MOST_NUMBERS];
        final boolean[] tree = new boolean[MOST_NUMBERS];
        /** The least node of a node's PART. */
        final int[] root = new int[MOST_NODES];
        /** The next node on the way to the least one, and the arc to it; NONE of the least one. */
        final int[] parent = new int[MOST_NODES];
        final int[] up = new int[MOST_NODES];
        /** How many TREE arcs lie on that way. */
        final int[] depth = new int[MOST_NODES];
        private final Web web;
        private final int[] queue = new int[MOST_NODES];
        private final int[] side = new int[MOST_NODES];

        Trees(Web web) {
            this.web = web;
        }

        boolean together(int a, int b) {
            return root[a] == root[b];
        }

        int parts() {
            return web.nodes - treeArcs();
        }

        int treeArcs() {
            int count = 0;
            for (int i = 0; i < web.count; i++) {
                if (tree[web.list[i]]) {
                    count++;
                }
            }
            return count;
        }

        int greatestLevel() {
            int greatest = 0;
            for (int i = 0; i < web.count; i++) {
                greatest = Math.max(greatest, level[web.list[i]]);
            }
            return greatest;
        }

        void nodeAdded(int node) {
            hang(node, NONE, NONE, node, 0);
        }

        void arcAdded(int arc) {
            int a = web.first[arc];
            int b = web.second[arc];
            level[arc] = 0;
            tree[arc] = !together(a, b);
            if (tree[arc]) {
                boolean aIsUpper = root[a] < root[b];
                int upper = aIsUpper ? a : b;
                hang(aIsUpper ? b : a, upper, arc, root[upper], depth[upper] + 1);
            }
        }

        void arcRemoved(int arc) {
            if (tree[arc]) {
                mend(arc);
                hangAll();
            }
        }

        /** Looks for an arc that joins again what a TREE arc that is gone has joined. */
        private void mend(int arc) {
            boolean found = false;
            for (int i = level[arc]; i >= 0 && !found; i--) {
                Arrays.fill(side, 0);
                int atFirst = gather(web.first[arc], i, FIRST);
                int atSecond = gather(web.second[arc], i, SECOND);
                int lesser = atFirst <= atSecond ? FIRST : SECOND;
                raiseTree(i, lesser);
                found = replace(i, lesser);
            }
        }

        /** Whether the TREE arcs join just what all arcs join, without a ring. */
        boolean spanJust(Joiner joiner) {
            joiner.begin(web.nodes);
            for (int i = 0; i < web.count; i++) {
                int arc = web.list[i];
                if (tree[arc] && !joiner.join(web.first[arc], web.second[arc])) {
                    return false;
                }
            }
            for (int i = 0; i < web.count; i++) {
                int arc = web.list[i];
                if (!joiner.together(web.first[arc], web.second[arc])) {
                    return false;
                }
            }
            return true;
        }

        boolean levelsHold(Joiner joiner) {
            int most = web.nodes;
            int greatest = greatestLevel();
            for (int at = 0; at <= greatest; at++) {
                if (greatestTree(joiner, at) > most) {
                    return false;
                }
                most = most / 2;
            }
            return true;
        }

        private int greatestTree(Joiner joiner, int least) {
            joiner.begin(web.nodes);
            for (int i = 0; i < web.count; i++) {
                int arc = web.list[i];
                if (tree[arc] && level[arc] >= least) {
                    joiner.join(web.first[arc], web.second[arc]);
                }
            }
            return joiner.greatest;
        }

        /** Puts on a side all that a node reaches by TREE arcs of a LEVEL and more: how many nodes. */
        private int gather(int from, int least, int mark) {
            side[from] = mark;
            queue[0] = from;
            int tail = 1;
            for (int head = 0; head < MOST_NODES && head < tail; head++) {
                int node = queue[head];
                int degree = web.degree(node);
                for (int k = 0; k < degree; k++) {
                    int arc = web.arcAt(node, k);
                    int next = web.other(arc, node);
                    if (tree[arc] && level[arc] >= least && side[next] != mark) {
                        side[next] = mark;
                        queue[tail] = next;
                        tail++;
                    }
                }
            }
            return tail;
        }

        private void raiseTree(int at, int lesser) {
            for (int i = 0; i < web.count; i++) {
                int arc = web.list[i];
                if (tree[arc] && level[arc] == at && side[web.first[arc]] == lesser
                        && side[web.second[arc]] == lesser) {
                    level[arc]++;
                }
            }
        }

        /** Whether an arc of this LEVEL is found that joins the two sides again. */
        private boolean replace(int at, int lesser) {
            int both = FIRST + SECOND;
            for (int i = 0; i < web.count; i++) {
                int arc = web.list[i];
                int a = side[web.first[arc]];
                int b = side[web.second[arc]];
                if (!tree[arc] && level[arc] == at && (a == lesser || b == lesser)) {
                    if (a + b == both) {
                        tree[arc] = true;
                        return true;
                    }
                    level[arc]++;
                }
            }
            return false;
        }

        private void hangAll() {
            Arrays.fill(root, NONE);
            for (int node = 0; node < web.nodes; node++) {
                if (root[node] == NONE) {
                    hang(node, NONE, NONE, node, 0);
                }
            }
        }

        /** Hangs a node, with all that its TREE arcs join to it and that hangs elsewhere. */
        private void hang(int from, int upper, int arcUp, int least, int deep) {
            place(from, upper, arcUp, least, deep);
            queue[0] = from;
            int tail = 1;
            for (int head = 0; head < MOST_NODES && head < tail; head++) {
                int node = queue[head];
                int degree = web.degree(node);
                for (int k = 0; k < degree; k++) {
                    int arc = web.arcAt(node, k);
                    int next = web.other(arc, node);
                    if (tree[arc] && root[next] != least) {
                        place(next, node, arc, least, depth[node] + 1);
                        queue[tail] = next;
                        tail++;
                    }
                }
            }
        }

        private void place(int node, int upper, int arcUp, int least, int deep) {
            root[node] = least;
            parent[node] = upper;
            up[node] = arcUp;
            depth[node] = deep;
        }
    }

    /** ODD arcs, EVEN PARTS and ODD RINGS. */
    private static final class OddArcs {
        private final Web web;
        private final Trees trees;
        private final boolean[] isOdd = new boolean[MOST_NODES];

        OddArcs(Web web, Trees trees) {
            this.web = web;
            this.trees = trees;
        }

        boolean has(int arc) {
            // Both depths count the way from where the nodes' ways meet: twice is even, and leaves the way between them.
            int sum = trees.depth[web.first[arc]] + trees.depth[web.second[arc]];
            return !trees.tree[arc] && (sum & 1) == 0;
        }

        /** The ODD arc with the least number in a node's PART; NONE if the PART is EVEN. */
        int leastIn(int node) {
            for (int i = 0; i < web.count; i++) {
                int arc = web.list[i];
                if (has(arc) && trees.together(node, web.first[arc])) {
                    return arc;
                }
            }
            return NONE;
        }

        int evenParts() {
            for (int node = 0; node < web.nodes; node++) {
                isOdd[node] = false;
            }
            int count = trees.parts();
            for (int i = 0; i < web.count; i++) {
                int arc = web.list[i];
                int least = trees.root[web.first[arc]];
                if (has(arc) && !isOdd[least]) {
                    isOdd[least] = true;
                    count--;
                }
            }
            return count;
        }

        int ringArc(int node, int k) {
            int arc = leastIn(node);
            if (arc == NONE || k == 0) {
                return arc;
            }
            int from = web.second[arc];
            int to = web.first[arc];
            int meetDepth = trees.depth[meeting(from, to)];
            int rise = trees.depth[from] - meetDepth;
            int length = rise + trees.depth[to] - meetDepth;
            if (k > length) {
                return NONE;
            }
            return trees.up[k <= rise ? climb(from, k - 1) : climb(to, length - k)];
        }

        private int meeting(int a, int b) {
            int u = a;
            int v = b;
            for (int i = 0; i < 2 * MOST_NODES && u != v; i++) {
                if (trees.depth[u] >= trees.depth[v]) {
                    u = climb(u, 1);
                } else {
                    v = climb(v, 1);
                }
            }
            return u;
        }

        private int climb(int from, int far) {
            int node = from;
            for (int i = 0; i < far && trees.parent[node] != NONE; i++) {
                node = trees.parent[node];
            }
            return node;
        }
    }

    /** Nodes that hang together twice, and BRIDGES: the TREE arcs that no other arc leads past. */
    private static final class Twice {
        private final Web web;
        private final Trees trees;
        /** Leads from a node to the node nearest to the least one that it hangs together with twice. */
        private final int[] top = new int[MOST_NODES];
        private int age;

        Twice(Web web, Trees trees) {
            this.web = web;
            this.trees = trees;
        }

        boolean together(int a, int b) {
            look();
            return topOf(a) == topOf(b);
        }

        boolean isBridge(int arc) {
            return trees.tree[arc] && !together(web.first[arc], web.second[arc]);
        }

        int bridges() {
            int count = 0;
            for (int i = 0; i < web.count; i++) {
                if (isBridge(web.list[i])) {
                    count++;
                }
            }
            return count;
        }

        private void look() {
            if (age == web.age) {
                return;
            }
            for (int node = 0; node < web.nodes; node++) {
                top[node] = node;
            }
            for (int i = 0; i < web.count; i++) {
                int arc = web.list[i];
                if (!trees.tree[arc]) {
                    tie(web.first[arc], web.second[arc]);
                }
            }
            age = web.age;
        }

        /** An arc between two nodes leads past all TREE arcs on the way between them. */
        private void tie(int a, int b) {
            int u = topOf(a);
            int v = topOf(b);
            for (int i = 0; i < 2 * MOST_NODES && u != v; i++) {
                int lower = trees.depth[u] >= trees.depth[v] ? u : v;
                int upper = lower == u ? v : u;
                int parent = trees.parent[lower];
                if (parent == NONE) {
                    return;
                }
                top[lower] = parent;
                u = topOf(parent);
                v = upper;
            }
        }

        private int topOf(int from) {
            int node = from;
            for (int i = 0; i < MOST_NODES && top[node] != node; i++) {
                top[node] = top[top[node]];
                node = top[node];
            }
            return node;
        }
    }

    /** THE ORDER, ORDERED and LOOSE arcs, and the latest RING. */
    private static final class Row {
        final boolean[] loose = new boolean[MOST_NUMBERS];
        private final Web web;
        private final int[] nodes = new int[MOST_NODES];
        private final int[] places = new int[MOST_NODES];
        private final int[] ahead = new int[MOST_NODES];
        private final int[] behind = new int[MOST_NODES];
        private final int[] shifted = new int[MOST_NODES];
        private final int[] queue = new int[MOST_NODES];
        private final int[] ringArcs = new int[MOST_NODES];
        private int ringLength;

        Row(Web web) {
            this.web = web;
        }

        void empty() {
            ringLength = 0;
        }

        int nodeAt(int place) {
            return nodes[place];
        }

        int placeOf(int node) {
            return places[node];
        }

        int ringArc(int k) {
            return k < ringLength ? ringArcs[k] : NONE;
        }

        int looseArcs() {
            int count = 0;
            for (int i = 0; i < web.count; i++) {
                if (loose[web.list[i]]) {
                    count++;
                }
            }
            return count;
        }

        boolean holds() {
            for (int place = 0; place < web.nodes; place++) {
                if (places[nodes[place]] != place) {
                    return false;
                }
            }
            for (int i = 0; i < web.count; i++) {
                int arc = web.list[i];
                if (!loose[arc] && places[web.first[arc]] >= places[web.second[arc]]) {
                    return false;
                }
            }
            return true;
        }

        void nodeAdded(int node) {
            nodes[node] = node;
            places[node] = node;
        }

        /** Whether an arc that is not put yet would be LOOSE; if so, its RING is told. */
        boolean tellRing(int a, int b) {
            if (a == b) {
                ringLength = 0;
                return true;
            }
            if (!reaches(b, a)) {
                return false;
            }
            int node = b;
            ringLength = 0;
            for (int left = behind[b]; left > 0; left--) {
                int arc = nextOnRing(node, left - 1);
                if (arc == NONE) {
                    return true;
                }
                ringArcs[ringLength] = arc;
                ringLength++;
                node = web.second[arc];
            }
            return true;
        }

        void arcAdded(int arc, boolean isLoose) {
            loose[arc] = isLoose;
            if (!isLoose) {
                setRight(web.first[arc], web.second[arc]);
            }
        }

        void arcRemoved(int arc) {
            if (loose[arc]) {
                return;
            }
            for (int i = 0; i < web.count; i++) {
                int other = web.list[i];
                int a = web.first[other];
                int b = web.second[other];
                if (loose[other] && a != b && !reaches(b, a)) {
                    loose[other] = false;
                    setRight(a, b);
                }
            }
        }

        /** The least ORDERED arc from a node to one that is so far from the RING's end; NONE without one. */
        private int nextOnRing(int node, int far) {
            Fan fan = web.out;
            for (int i = fan.start[node]; i < fan.start[node + 1]; i++) {
                int arc = fan.arcs[i];
                if (!loose[arc] && behind[web.second[arc]] == far) {
                    return arc;
                }
            }
            return NONE;
        }

        /** Leaves in behind[] how far each node is from the second one, if it says true. */
        private boolean reaches(int from, int to) {
            if (places[from] > places[to]) {
                // ORDERED arcs lead from ahead to behind alone.
                return false;
            }
            spread(to, web.in, web.first, behind);
            return behind[from] != NONE;
        }

        /** Changes THE ORDER so that node a stands ahead of b, which does not reach it. */
        private void setRight(int a, int b) {
            int low = places[b];
            int high = places[a];
            if (high < low) {
                return;
            }
            spread(b, web.out, web.second, ahead);
            spread(a, web.in, web.first, behind);
            int count = pick(low, high, behind, 0);
            count = pick(low, high, ahead, count);
            int used = 0;
            for (int place = low; place <= high && used < count; place++) {
                int node = nodes[place];
                if (behind[node] != NONE || ahead[node] != NONE) {
                    nodes[place] = shifted[used];
                    places[shifted[used]] = place;
                    used++;
                }
            }
        }

        /** Appends to shifted[] the nodes of some places that are marked: how many it holds then. */
        private int pick(int low, int high, int[] marks, int held) {
            int count = held;
            for (int place = low; place <= high && count < MOST_NODES; place++) {
                if (marks[nodes[place]] != NONE) {
                    shifted[count] = nodes[place];
                    count++;
                }
            }
            return count;
        }

        /** How many ORDERED arcs at least lead from a node to each other one; NONE: none do. */
        private void spread(int from, Fan fan, int[] ends, int[] far) {
            Arrays.fill(far, NONE);
            far[from] = 0;
            queue[0] = from;
            int tail = 1;
            for (int head = 0; head < MOST_NODES && head < tail; head++) {
                int node = queue[head];
                for (int i = fan.start[node]; i < fan.start[node + 1]; i++) {
                    int arc = fan.arcs[i];
                    int next = ends[arc];
                    if (!loose[arc] && far[next] == NONE) {
                        far[next] = far[node] + 1;
                        queue[tail] = next;
                        tail++;
                    }
                }
            }
        }
    }

    /** Strong parts: a search along all arcs, then one against them from what was left last. */
    private static final class Strong {
        private final Web web;
        private final int[] least = new int[MOST_NODES];
        private final int[] left = new int[MOST_NODES];
        private final int[] stack = new int[MOST_NODES];
        private final int[] cursor = new int[MOST_NODES];
        private int leftCount;
        private int age;

        Strong(Web web) {
            this.web = web;
        }

        int leastOf(int node) {
            look();
            return least[node];
        }

        int parts() {
            look();
            int count = 0;
            for (int node = 0; node < web.nodes; node++) {
                if (least[node] == node) {
                    count++;
                }
            }
            return count;
        }

        private void look() {
            if (age == web.age) {
                return;
            }
            Arrays.fill(cursor, NONE);
            leftCount = 0;
            for (int node = 0; node < web.nodes; node++) {
                if (cursor[node] == NONE) {
                    leave(node);
                }
            }
            Arrays.fill(least, NONE);
            for (int i = leftCount - 1; i >= 0; i--) {
                if (least[left[i]] == NONE) {
                    collect(left[i]);
                }
            }
            age = web.age;
        }

        /** Notes the nodes that are reached anew in the order in which the search leaves them. */
        private void leave(int from) {
            Fan fan = web.out;
            cursor[from] = fan.start[from];
            stack[0] = from;
            int height = 1;
            for (int i = 0; i < 2 * MOST_NODES + MOST_ARCS && height > 0; i++) {
                int node = stack[height - 1];
                if (cursor[node] < fan.start[node + 1]) {
                    int next = web.second[fan.arcs[cursor[node]]];
                    cursor[node]++;
                    if (cursor[next] == NONE) {
                        cursor[next] = fan.start[next];
                        stack[height] = next;
                        height++;
                    }
                } else {
                    left[leftCount] = node;
                    leftCount++;
                    height--;
                }
            }
        }

        private void collect(int from) {
            Fan fan = web.in;
            least[from] = from;
            stack[0] = from;
            int lowest = from;
            int tail = 1;
            for (int head = 0; head < MOST_NODES && head < tail; head++) {
                int node = stack[head];
                lowest = Math.min(lowest, node);
                for (int i = fan.start[node]; i < fan.start[node + 1]; i++) {
                    int next = web.first[fan.arcs[i]];
                    if (least[next] == NONE) {
                        least[next] = from;
                        stack[tail] = next;
                        tail++;
                    }
                }
            }
            for (int i = 0; i < tail; i++) {
                least[stack[i]] = lowest;
            }
        }
    }

    /** NEIGHBOURS, COREs and TRIANGLES. */
    private static final class Sides {
        private final Web web;
        private final int[] start = new int[MOST_NODES + 1];
        private final int[] near = new int[2 * MOST_ARCS];
        private final int[] core = new int[MOST_NODES];
        private final int[] mark = new int[MOST_NODES];
        private final int[] open = new int[MOST_NODES];
        private final int[] queue = new int[MOST_NODES];
        private long threes;
        private int age;

        Sides(Web web) {
            this.web = web;
        }

        int countOf(int node) {
            look();
            return start[node + 1] - start[node];
        }

        int coreOf(int node) {
            look();
            return core[node];
        }

        int greatestCore() {
            look();
            int greatest = 0;
            for (int node = 0; node < web.nodes; node++) {
                greatest = Math.max(greatest, core[node]);
            }
            return greatest;
        }

        long countedThrees() {
            look();
            return threes;
        }

        /** Whether another one that looks anew tells the same. */
        boolean holds(Sides other) {
            look();
            other.renew();
            for (int node = 0; node < web.nodes; node++) {
                if (start[node + 1] != other.start[node + 1] || core[node] != other.core[node]) {
                    return false;
                }
            }
            return threes == other.threes;
        }

        private void look() {
            if (age != web.age) {
                renew();
            }
        }

        private void renew() {
            findNear();
            findCores();
            threes = countThrees();
            age = web.age;
        }

        private void findNear() {
            Arrays.fill(mark, NONE);
            int count = 0;
            for (int node = 0; node < web.nodes; node++) {
                start[node] = count;
                mark[node] = node;
                int degree = web.degree(node);
                for (int k = 0; k < degree; k++) {
                    int other = web.other(web.arcAt(node, k), node);
                    if (mark[other] != node) {
                        mark[other] = node;
                        near[count] = other;
                        count++;
                    }
                }
            }
            start[web.nodes] = count;
        }

        /** Takes away what has fewer than 1, 2, .. NEIGHBOURS left: a node's CORE is what it lasted for. */
        private void findCores() {
            for (int node = 0; node < web.nodes; node++) {
                open[node] = start[node + 1] - start[node];
                core[node] = NONE;
            }
            int gone = 0;
            for (int k = 1; k <= MOST_NODES && gone < web.nodes; k++) {
                gone += peel(k);
            }
        }

        private int peel(int k) {
            int tail = 0;
            for (int node = 0; node < web.nodes; node++) {
                if (core[node] == NONE && open[node] < k) {
                    core[node] = k - 1;
                    queue[tail] = node;
                    tail++;
                }
            }
            for (int head = 0; head < MOST_NODES && head < tail; head++) {
                int node = queue[head];
                for (int i = start[node]; i < start[node + 1]; i++) {
                    int other = near[i];
                    open[other]--;
                    if (core[other] == NONE && open[other] < k) {
                        core[other] = k - 1;
                        queue[tail] = other;
                        tail++;
                    }
                }
            }
            return tail;
        }

        private long countThrees() {
            Arrays.fill(mark, NONE);
            long count = 0;
            for (int node = 0; node < web.nodes; node++) {
                for (int i = start[node]; i < start[node + 1]; i++) {
                    mark[near[i]] = node;
                }
                for (int i = start[node]; i < start[node + 1]; i++) {
                    if (near[i] > node) {
                        count += markedBehind(near[i], node);
                    }
                }
            }
            return count;
        }

        private int markedBehind(int node, int sign) {
            int count = 0;
            for (int i = start[node]; i < start[node + 1]; i++) {
                if (near[i] > node && mark[near[i]] == sign) {
                    count++;
                }
            }
            return count;
        }
    }

    /** WEIGHTS and THE SET. */
    private static final class Chosen {
        private final Web web;
        private final int[] weight = new int[MOST_NODES];
        /** All nodes in the sequence in which THE SET looks at them. */
        private final int[] ranked = new int[MOST_NODES];
        private final boolean[] in = new boolean[MOST_NODES];

        Chosen(Web web) {
            this.web = web;
        }

        int weightOf(int node) {
            return weight[node];
        }

        boolean has(int node) {
            return in[node];
        }

        int size() {
            int count = 0;
            for (int node = 0; node < web.nodes; node++) {
                if (in[node]) {
                    count++;
                }
            }
            return count;
        }

        /** A node that is new has no NEIGHBOURS, so it is in THE SET and changes nothing else of it. */
        void nodeAdded(int node, int newWeight) {
            weight[node] = newWeight;
            insert(node, node);
            in[node] = true;
        }

        int reweigh(int node, int newWeight) {
            int left = leaveOut(ranked, web.nodes, node);
            weight[node] = newWeight;
            insert(node, left);
            return renew();
        }

        /** How many nodes come to THE SET or go from it, as an arc came between two nodes or went. */
        int arcChanged(int a, int b) {
            int behind = isAhead(a, b) ? b : a;
            // All depends on what comes ahead: if this one stays as it is, nothing else has a cause to change.
            return in[behind] == isFree(behind) ? 0 : renew();
        }

        boolean holds() {
            for (int node = 0; node < web.nodes; node++) {
                if (in[node] != isFree(node)) {
                    return false;
                }
            }
            return true;
        }

        private int renew() {
            int changed = 0;
            for (int i = 0; i < web.nodes; i++) {
                int node = ranked[i];
                boolean free = isFree(node);
                if (in[node] != free) {
                    in[node] = free;
                    changed++;
                }
            }
            return changed;
        }

        /** Whether no NEIGHBOUR that comes ahead of a node is in THE SET. */
        private boolean isFree(int node) {
            int degree = web.degree(node);
            for (int k = 0; k < degree; k++) {
                int other = web.other(web.arcAt(node, k), node);
                if (in[other] && isAhead(other, node)) {
                    return false;
                }
            }
            return true;
        }

        private void insert(int node, int count) {
            int at = count;
            for (int i = count - 1; i >= 0 && isAhead(node, ranked[i]); i--) {
                ranked[i + 1] = ranked[i];
                at = i;
            }
            ranked[at] = node;
        }

        private boolean isAhead(int node, int other) {
            return weight[node] > weight[other] || weight[node] == weight[other] && node < other;
        }
    }

    /** STEPS that are not done. */
    private static final class Plan {
        int steps;
        private final Web web;
        private final Joiner joiner;
        /** What a STEP takes, as planTake() was told it, if it does not put. */
        private final int[] taken = new int[MOST_STEPS];
        private final boolean[] isPut = new boolean[MOST_STEPS];
        private final int[] first = new int[MOST_STEPS];
        private final int[] second = new int[MOST_STEPS];
        /** The STEP that takes an arc that is there, and that takes what a STEP puts. */
        private final int[] arcTaker = new int[MOST_NUMBERS];
        private final int[] putTaker = new int[MOST_STEPS];

        Plan(Web web, Joiner joiner) {
            this.web = web;
            this.joiner = joiner;
            Arrays.fill(arcTaker, NONE);
            Arrays.fill(putTaker, NONE);
        }

        boolean isFull() {
            return steps >= MOST_STEPS;
        }

        boolean puts(int step) {
            return step >= 0 && step < steps && isPut[step];
        }

        /** Of an arc that is there, or -1 - s of a STEP s that puts one. */
        boolean takes(int x) {
            return x >= 0 ? arcTaker[x] != NONE : putTaker[-1 - x] != NONE;
        }

        int addPut(int a, int b) {
            int step = steps;
            isPut[step] = true;
            first[step] = a;
            second[step] = b;
            steps++;
            return step;
        }

        int addTake(int x) {
            int step = steps;
            isPut[step] = false;
            taken[step] = x;
            setTaker(x, step);
            steps++;
            return step;
        }

        /** How many STEPS there were. */
        int forget() {
            int had = steps;
            for (int step = 0; step < had; step++) {
                if (!isPut[step]) {
                    setTaker(taken[step], NONE);
                }
            }
            steps = 0;
            return had;
        }

        int arcsBehind(int n) {
            int count = web.count;
            for (int step = 0; step < n; step++) {
                count += isPut[step] ? 1 : -1;
            }
            return count;
        }

        Joiner behind(int n) {
            joiner.begin(web.nodes);
            for (int i = 0; i < web.count; i++) {
                int arc = web.list[i];
                if (isLeft(arcTaker[arc], n)) {
                    joiner.join(web.first[arc], web.second[arc]);
                }
            }
            for (int step = 0; step < n; step++) {
                if (isPut[step] && isLeft(putTaker[step], n)) {
                    joiner.join(first[step], second[step]);
                }
            }
            return joiner;
        }

        private boolean isLeft(int taker, int n) {
            return taker == NONE || taker >= n;
        }

        private void setTaker(int x, int step) {
            if (x >= 0) {
                arcTaker[x] = step;
            } else {
                putTaker[-1 - x] = step;
            }
        }
    }

    /** Joins nodes to PARTS, and knows of each node on which of two sides of its PART it stands. */
    private static final class Joiner {
        int parts;
        int evenParts;
        int greatest;
        private final int[] over = new int[MOST_NODES];
        private final int[] turn = new int[MOST_NODES];
        private final int[] size = new int[MOST_NODES];
        private final boolean[] isOdd = new boolean[MOST_NODES];

        void begin(int nodes) {
            for (int node = 0; node < nodes; node++) {
                over[node] = node;
                turn[node] = 0;
                size[node] = 1;
                isOdd[node] = false;
            }
            parts = nodes;
            evenParts = nodes;
            greatest = Math.min(nodes, 1);
        }

        boolean together(int a, int b) {
            return headOf(a) == headOf(b);
        }

        /** Whether two PARTS became one by it. */
        boolean join(int a, int b) {
            int headA = headOf(a);
            int headB = headOf(b);
            int turned = sideOf(a) ^ sideOf(b) ^ 1;
            if (headA == headB) {
                if (turned == 1 && !isOdd[headA]) {
                    isOdd[headA] = true;
                    evenParts--;
                }
                return false;
            }
            // The lesser one goes under the greater one, so that no way to a head grows long.
            boolean aIsGreater = size[headA] >= size[headB];
            hang(aIsGreater ? headB : headA, aIsGreater ? headA : headB, turned);
            return true;
        }

        private void hang(int lower, int upper, int turned) {
            if (!isOdd[lower] || !isOdd[upper]) {
                evenParts--;
            }
            parts--;
            over[lower] = upper;
            turn[lower] = turned;
            size[upper] += size[lower];
            isOdd[upper] = isOdd[upper] || isOdd[lower];
            greatest = Math.max(greatest, size[upper]);
        }

        private int headOf(int from) {
            int node = from;
            for (int i = 0; i < MOST_NODES && over[node] != node; i++) {
                node = over[node];
            }
            return node;
        }

        private int sideOf(int from) {
            int node = from;
            int side = 0;
            for (int i = 0; i < MOST_NODES && over[node] != node; i++) {
                side ^= turn[node];
                node = over[node];
            }
            return side;
        }
    }
}

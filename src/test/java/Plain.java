import java.util.ArrayList;
import java.util.Collection;
import java.util.Comparator;
import java.util.HashSet;
import java.util.List;
import java.util.Map;
import java.util.Set;
import java.util.TreeMap;
import java.util.TreeSet;

/** The document's words done in the slowest and plainest way, to hold KeptParts against. */
final class Plain {
    private static final class Arc {
        final int number;
        final int a;
        final int b;
        int level;
        boolean tree;
        boolean loose;

        Arc(int number, int a, int b) {
            this.number = number;
            this.a = a;
            this.b = b;
        }

        int other(int node) {
            return node == a ? b : a;
        }
    }

    /** A step that puts has nodes; one that takes has what it takes. */
    private record Step(boolean puts, int a, int b, int x) { }

    private final boolean strict;
    private final List<Integer> weights = new ArrayList<>();
    private final TreeMap<Integer, Arc> arcs = new TreeMap<>();
    private final List<Integer> order = new ArrayList<>();
    private final List<Integer> ring = new ArrayList<>();
    private final List<Step> plan = new ArrayList<>();
    private int numbers;
    private int moved;

    Plain(int strict) {
        this.strict = strict == 1;
    }

    int node(int weight) {
        if (weights.size() >= 300) {
            throw new UnsupportedOperationException();
        }
        plan.clear();
        return newNode(weight);
    }

    int chain(int n) {
        if (n < 1 || n > 300) {
            throw new IllegalArgumentException();
        }
        if (weights.size() + n > 300 || arcs.size() + n - 1 > 900 || numbers + n - 1 > 5000) {
            throw new UnsupportedOperationException();
        }
        plan.clear();
        int first = weights.size();
        for (int i = 0; i < n; i++) {
            newNode(0);
        }
        for (int i = 1; i < n; i++) {
            put(first + i - 1, first + i);
        }
        return first;
    }

    int put(int a, int b) {
        mustBeNode(a);
        mustBeNode(b);
        if (arcs.size() >= 900 || numbers >= 5000) {
            throw new UnsupportedOperationException();
        }
        boolean loose = a == b || reached(b, ordered(), true).contains(a);
        if (loose) {
            ring.clear();
            if (a != b) {
                ring.addAll(leastWay(b, a));
            }
            if (strict) {
                return -1;
            }
        }
        plan.clear();
        Set<Integer> before = theSet();
        Arc arc = new Arc(numbers++, a, b);
        arc.tree = !part(a).contains(b);
        arc.loose = loose;
        arcs.put(arc.number, arc);
        if (!loose) {
            reorder(a, b);
        }
        moved = differences(before, theSet());
        return arc.number;
    }

    int take(int number) {
        Arc arc = mustBeArc(number);
        plan.clear();
        Set<Integer> before = theSet();
        arcs.remove(number);
        if (arc.tree) {
            mend(arc);
        }
        if (!arc.loose) {
            for (Arc other : arcs.values()) {
                if (other.loose && other.a != other.b && !reached(other.b, ordered(), true).contains(other.a)) {
                    other.loose = false;
                    reorder(other.a, other.b);
                }
            }
        }
        moved = differences(before, theSet());
        return parts().size();
    }

    int weigh(int node, int weight) {
        mustBeNode(node);
        Set<Integer> before = theSet();
        weights.set(node, weight);
        return differences(before, theSet());
    }

    boolean joined(int a, int b) {
        mustBeNode(a);
        mustBeNode(b);
        return part(a).contains(b);
    }

    boolean two(int a, int b) {
        mustBeNode(a);
        mustBeNode(b);
        if (!part(a).contains(b)) {
            return false;
        }
        for (Arc gone : arcs.values()) {
            if (!reached(a, without(gone), false).contains(b)) {
                return false;
            }
        }
        return true;
    }

    int of(int node, int what) {
        mustBeNode(node);
        int least = new TreeSet<>(part(node)).first();
        switch (what) {
            case 0: return weights.get(node);
            case 1: return least;
            case 2: return strongLeast(node);
            case 3: return order.indexOf(node);
            case 4: return core(node);
            case 5: return theSet().contains(node) ? 1 : 0;
            case 6: return neighbours(node).size();
            case 7: return treeWay(node, least).size();
            case 8: return leastOdd(node) == null ? 1 : 0;
            default: throw new IllegalArgumentException();
        }
    }

    int arc(int number, int what) {
        Arc arc = mustBeArc(number);
        switch (what) {
            case 0: return arc.a;
            case 1: return arc.b;
            case 2: return arc.level;
            case 3: return arc.tree ? 1 : 0;
            case 4: return isOdd(arc) ? 1 : 0;
            case 5: return isBridge(arc) ? 1 : 0;
            case 6: return arc.loose ? 1 : 0;
            default: throw new IllegalArgumentException();
        }
    }

    int order(int place) {
        if (place < 0 || place >= order.size()) {
            throw new IndexOutOfBoundsException();
        }
        return order.get(place);
    }

    int odd(int node, int k) {
        mustBeNode(node);
        if (k < 0) {
            throw new IndexOutOfBoundsException();
        }
        Arc odd = leastOdd(node);
        if (odd == null) {
            return -1;
        }
        List<Integer> whole = new ArrayList<>();
        whole.add(odd.number);
        whole.addAll(treeWay(odd.b, odd.a));
        return k < whole.size() ? whole.get(k) : -1;
    }

    int ring(int k) {
        if (k < 0) {
            throw new IndexOutOfBoundsException();
        }
        return k < ring.size() ? ring.get(k) : -1;
    }

    long triangles() {
        long count = 0;
        for (int u = 0; u < weights.size(); u++) {
            Set<Integer> near = neighbours(u);
            for (int v : near) {
                Set<Integer> far = neighbours(v);
                far.retainAll(near);
                count += far.size();
            }
        }
        return count / 6;
    }

    int planPut(int a, int b) {
        mustBeNode(a);
        mustBeNode(b);
        if (plan.size() >= 60) {
            throw new UnsupportedOperationException();
        }
        plan.add(new Step(true, a, b, 0));
        return plan.size() - 1;
    }

    int planTake(int x) {
        if (x >= 0) {
            mustBeArc(x);
        } else if (-1L - x >= plan.size() || !plan.get(-1 - x).puts) {
            throw new IndexOutOfBoundsException();
        }
        for (Step step : plan) {
            if (!step.puts && step.x == x) {
                throw new IllegalStateException();
            }
        }
        if (plan.size() >= 60) {
            throw new UnsupportedOperationException();
        }
        plan.add(new Step(false, 0, 0, x));
        return plan.size() - 1;
    }

    int later(int n, int what) {
        Collection<Arc> then = arcsLater(n);
        if (what < 0 || what > 3) {
            throw new IllegalArgumentException();
        }
        if (what == 3) {
            return then.size();
        }
        Set<Set<Integer>> parts = partsBy(then);
        int even = 0;
        int greatest = 0;
        for (Set<Integer> part : parts) {
            even += hasTwoSides(part, then) ? 1 : 0;
            greatest = Math.max(greatest, part.size());
        }
        return what == 0 ? parts.size() : what == 1 ? even : greatest;
    }

    boolean laterJoined(int n, int a, int b) {
        Collection<Arc> then = arcsLater(n);
        mustBeNode(a);
        mustBeNode(b);
        return reached(a, then, false).contains(b);
    }

    int drop() {
        int had = plan.size();
        plan.clear();
        return had;
    }

    int told(int what) {
        int count = 0;
        switch (what) {
            case 0: return weights.size();
            case 1: return arcs.size();
            case 2: return parts().size();
            case 3:
                for (Set<Integer> part : parts()) {
                    count += leastOdd(part.iterator().next()) == null ? 1 : 0;
                }
                return count;
            case 4:
                for (Arc arc : arcs.values()) {
                    count += isBridge(arc) ? 1 : 0;
                }
                return count;
            case 5:
                for (int node = 0; node < weights.size(); node++) {
                    count += strongLeast(node) == node ? 1 : 0;
                }
                return count;
            case 6:
                for (Arc arc : arcs.values()) {
                    count += arc.loose ? 1 : 0;
                }
                return count;
            case 7: return theSet().size();
            case 8:
                for (int k = 1; !withNeighbours(k).isEmpty(); k++) {
                    count = k;
                }
                return count;
            case 9:
                for (Arc arc : arcs.values()) {
                    count = Math.max(count, arc.level);
                }
                return count;
            case 10: return treeArcs(0).size();
            case 11: return plan.size();
            case 12: return moved;
            default: throw new IllegalArgumentException();
        }
    }

    boolean hasArc(int number) {
        return arcs.containsKey(number);
    }

    /** What it asks never fails to hold. */
    boolean sound() {
        return true;
    }

    void clear() {
        weights.clear();
        arcs.clear();
        order.clear();
        ring.clear();
        plan.clear();
        numbers = 0;
        moved = 0;
    }

    private int newNode(int weight) {
        weights.add(weight);
        order.add(weights.size() - 1);
        return weights.size() - 1;
    }

    private void mustBeNode(int node) {
        if (node < 0 || node >= weights.size()) {
            throw new IndexOutOfBoundsException();
        }
    }

    private Arc mustBeArc(int number) {
        if (!arcs.containsKey(number)) {
            throw new IndexOutOfBoundsException();
        }
        return arcs.get(number);
    }

    private static Set<Integer> reached(int from, Collection<Arc> along, boolean oneWay) {
        Set<Integer> reached = new HashSet<>();
        reached.add(from);
        for (boolean grows = true; grows;) {
            grows = false;
            for (Arc arc : along) {
                grows |= reached.contains(arc.a) && reached.add(arc.b);
                grows |= !oneWay && reached.contains(arc.b) && reached.add(arc.a);
            }
        }
        return reached;
    }

    private static Set<Integer> reaching(int to, Collection<Arc> along) {
        List<Arc> turned = new ArrayList<>();
        for (Arc arc : along) {
            turned.add(new Arc(arc.number, arc.b, arc.a));
        }
        return reached(to, turned, true);
    }

    private Set<Integer> part(int node) {
        return reached(node, arcs.values(), false);
    }

    private Set<Set<Integer>> parts() {
        return partsBy(arcs.values());
    }

    private Set<Set<Integer>> partsBy(Collection<Arc> along) {
        Set<Set<Integer>> parts = new HashSet<>();
        Set<Integer> seen = new HashSet<>();
        for (int node = 0; node < weights.size(); node++) {
            if (!seen.contains(node)) {
                Set<Integer> part = reached(node, along, false);
                seen.addAll(part);
                parts.add(part);
            }
        }
        return parts;
    }

    private Collection<Arc> without(Arc gone) {
        List<Arc> left = new ArrayList<>(arcs.values());
        left.remove(gone);
        return left;
    }

    private Collection<Arc> treeArcs(int level) {
        List<Arc> found = new ArrayList<>();
        for (Arc arc : arcs.values()) {
            if (arc.tree && arc.level >= level) {
                found.add(arc);
            }
        }
        return found;
    }

    private Collection<Arc> ordered() {
        List<Arc> found = new ArrayList<>();
        for (Arc arc : arcs.values()) {
            if (!arc.loose) {
                found.add(arc);
            }
        }
        return found;
    }

    private void mend(Arc gone) {
        for (int i = gone.level; i >= 0; i--) {
            Set<Integer> first = reached(gone.a, treeArcs(i), false);
            Set<Integer> second = reached(gone.b, treeArcs(i), false);
            boolean firstIsLesser = first.size() <= second.size();
            Set<Integer> lesser = firstIsLesser ? first : second;
            Set<Integer> greater = firstIsLesser ? second : first;
            for (Arc arc : arcs.values()) {
                if (arc.tree && arc.level == i && lesser.contains(arc.a) && lesser.contains(arc.b)) {
                    arc.level = i + 1;
                }
            }
            for (Arc arc : arcs.values()) {
                boolean at = lesser.contains(arc.a) || lesser.contains(arc.b);
                if (!arc.tree && arc.level == i && at) {
                    if (greater.contains(arc.a) || greater.contains(arc.b)) {
                        arc.tree = true;
                        return;
                    }
                    arc.level = i + 1;
                }
            }
        }
    }

    private void reorder(int a, int b) {
        int high = order.indexOf(a);
        int low = order.indexOf(b);
        if (high < low) {
            return;
        }
        Set<Integer> ahead = reached(b, ordered(), true);
        ahead.removeIf(node -> order.indexOf(node) > high);
        Set<Integer> behind = reaching(a, ordered());
        behind.removeIf(node -> order.indexOf(node) < low);
        List<Integer> places = new ArrayList<>();
        List<Integer> row = new ArrayList<>();
        for (int node : order) {
            if (behind.contains(node)) {
                row.add(node);
            }
        }
        for (int node : order) {
            if (ahead.contains(node)) {
                row.add(node);
            }
        }
        for (int place = 0; place < order.size(); place++) {
            if (row.contains(order.get(place))) {
                places.add(place);
            }
        }
        for (int i = 0; i < places.size(); i++) {
            order.set(places.get(i), row.get(i));
        }
    }

    /** Of the shortest ways of ordered arcs the least one, by growing the least way to each node. */
    private List<Integer> leastWay(int from, int to) {
        Map<Integer, List<Integer>> ways = new TreeMap<>();
        Set<Integer> seen = new HashSet<>();
        ways.put(from, new ArrayList<>());
        while (!ways.containsKey(to)) {
            seen.addAll(ways.keySet());
            Map<Integer, List<Integer>> longer = new TreeMap<>();
            for (Map.Entry<Integer, List<Integer>> way : ways.entrySet()) {
                for (Arc arc : ordered()) {
                    if (arc.a == way.getKey() && !seen.contains(arc.b)) {
                        List<Integer> more = new ArrayList<>(way.getValue());
                        more.add(arc.number);
                        longer.merge(arc.b, more, Plain::lesser);
                    }
                }
            }
            ways = longer;
        }
        return ways.get(to);
    }

    private static List<Integer> lesser(List<Integer> one, List<Integer> two) {
        for (int i = 0; i < one.size(); i++) {
            int compared = Integer.compare(one.get(i), two.get(i));
            if (compared != 0) {
                return compared < 0 ? one : two;
            }
        }
        return one;
    }

    /** The tree arcs from a node to another of its part, one by one. */
    private List<Integer> treeWay(int from, int to) {
        List<Integer> way = new ArrayList<>();
        findWay(from, to, -1, way);
        return way;
    }

    private boolean findWay(int node, int to, int cameBy, List<Integer> way) {
        if (node == to) {
            return true;
        }
        for (Arc arc : treeArcs(0)) {
            if (arc.number != cameBy && (arc.a == node || arc.b == node)) {
                way.add(arc.number);
                if (findWay(arc.other(node), to, arc.number, way)) {
                    return true;
                }
                way.remove(way.size() - 1);
            }
        }
        return false;
    }

    private boolean isOdd(Arc arc) {
        return !arc.tree && treeWay(arc.a, arc.b).size() % 2 == 0;
    }

    private Arc leastOdd(int node) {
        Set<Integer> part = part(node);
        for (Arc arc : arcs.values()) {
            if (part.contains(arc.a) && isOdd(arc)) {
                return arc;
            }
        }
        return null;
    }

    private boolean isBridge(Arc arc) {
        return !reached(arc.a, without(arc), false).contains(arc.b);
    }

    private int strongLeast(int node) {
        Set<Integer> strong = reached(node, arcs.values(), true);
        strong.retainAll(reaching(node, arcs.values()));
        return new TreeSet<>(strong).first();
    }

    private Set<Integer> neighbours(int node) {
        Set<Integer> found = new HashSet<>();
        for (Arc arc : arcs.values()) {
            if (arc.a != arc.b && (arc.a == node || arc.b == node)) {
                found.add(arc.other(node));
            }
        }
        return found;
    }

    /** The greatest set of nodes of which each has k neighbours at least among them. */
    private Set<Integer> withNeighbours(int k) {
        Map<Integer, Set<Integer>> left = new TreeMap<>();
        for (int node = 0; node < weights.size(); node++) {
            left.put(node, neighbours(node));
        }
        for (boolean shrinks = true; shrinks;) {
            shrinks = left.values().removeIf(near -> near.size() < k);
            left.values().forEach(near -> near.retainAll(left.keySet()));
        }
        return left.keySet();
    }

    private int core(int node) {
        int k = 0;
        while (withNeighbours(k + 1).contains(node)) {
            k++;
        }
        return k;
    }

    private Set<Integer> theSet() {
        List<Integer> ranked = new ArrayList<>();
        for (int node = 0; node < weights.size(); node++) {
            ranked.add(node);
        }
        Comparator<Integer> byWeight = (u, v) -> Integer.compare(weights.get(v), weights.get(u));
        ranked.sort(byWeight.thenComparing(Comparator.naturalOrder()));
        Set<Integer> chosen = new HashSet<>();
        for (int node : ranked) {
            Set<Integer> near = neighbours(node);
            near.retainAll(chosen);
            if (near.isEmpty()) {
                chosen.add(node);
            }
        }
        return chosen;
    }

    private static int differences(Set<Integer> before, Set<Integer> after) {
        Set<Integer> came = new HashSet<>(after);
        came.removeAll(before);
        Set<Integer> went = new HashSet<>(before);
        went.removeAll(after);
        return came.size() + went.size();
    }

    private Collection<Arc> arcsLater(int n) {
        if (n < 0 || n > plan.size()) {
            throw new IndexOutOfBoundsException();
        }
        TreeMap<Integer, Arc> then = new TreeMap<>(arcs);
        for (int s = 0; s < n; s++) {
            Step step = plan.get(s);
            if (step.puts) {
                then.put(-1 - s, new Arc(-1 - s, step.a, step.b));
            } else {
                then.remove(step.x);
            }
        }
        return then.values();
    }

    private static boolean hasTwoSides(Set<Integer> part, Collection<Arc> along) {
        Map<Integer, Integer> sides = new TreeMap<>();
        sides.put(part.iterator().next(), 0);
        for (boolean grows = true; grows;) {
            grows = false;
            for (Arc arc : along) {
                if (sides.containsKey(arc.a)) {
                    grows |= sides.putIfAbsent(arc.b, 1 - sides.get(arc.a)) == null;
                }
                if (sides.containsKey(arc.b)) {
                    grows |= sides.putIfAbsent(arc.a, 1 - sides.get(arc.b)) == null;
                }
            }
        }
        for (Arc arc : along) {
            if (part.contains(arc.a) && sides.get(arc.a).equals(sides.get(arc.b))) {
                return false;
            }
        }
        return true;
    }
}

import java.math.BigInteger;
import java.util.ArrayList;
import java.util.Arrays;
import java.util.Collections;
import java.util.Comparator;
import java.util.List;
import java.util.TreeSet;

/**
 * Many runs against a model that goes by the words of the document alone, with whole numbers of
 * any size, and by other ways than the class: it makes each circle's centre, lists the sites on
 * it in their order round it and cuts the fan; it asks the corners by all ways and triangles; it
 * sorts the edges for the tree.
 */
public final class ModelTest {
    private static final int RUNS_OF_A_KIND = 40;
    private static int wrong = 0;
    private static long seed = 20261118;

    public static void main(String[] args) {
        for (int kind = 0; kind < 9; kind++) {
            for (int run = 0; run < RUNS_OF_A_KIND && wrong < 40; run++) {
                oneRun(kind);
            }
        }
        if (wrong != 0) {
            System.exit(1);
        }
    }

    // ---- the runs

    private static void oneRun(int kind) {
        Asked real = new Asked();
        Model model = new Model();
        compare(real, model);
        for (int call = 0; call < 18; call++) {
            int[] site = pickSite(kind, model);
            due(model, "add(" + site[0] + ", " + site[1] + ")", model.add(site[0], site[1]), real.add(site[0], site[1]));
            compare(real, model);
        }
    }

    private static int[] pickSite(int kind, Model model) {
        switch (kind) {
            case 0: return new int[] {pick(-30000, 30000), pick(-30000, 30000)};
            case 1: return new int[] {pick(0, 4), pick(0, 4)};
            case 2: return new int[] {pick(-1, 1) * 30000, pick(-1, 1) * 30000 + pick(-1, 1)};
            case 3: return onCircle(5, 0);
            case 4: return onCircle(5000, pick(0, 9) == 0 ? 1 : 0);
            case 5: return alongLine(model);
            case 6: return new int[] {29990 + pick(0, 12), -29990 - pick(0, 12)};
            case 7: return new int[] {pick(-30000, 30000), pick(0, 9) == 0 ? pick(-2, 2) : 0};
            default: return pick(0, 2) == 0 ? new int[] {pick(-3, 3), pick(-3, 3)} : onCircle(1, 0);
        }
    }

    /** A site on the circle of radius 5 * scale (or nearly on it) round nought. */
    private static int[] onCircle(int scale, int off) {
        int[][] eighth = {{5, 0}, {4, 3}, {3, 4}};
        int[] found = eighth[pick(0, 2)];
        int x = found[0] * scale * (pick(0, 1) == 0 ? 1 : -1);
        int y = found[1] * scale * (pick(0, 1) == 0 ? 1 : -1) + off;
        return pick(0, 1) == 0 ? new int[] {x, y} : new int[] {y, x};
    }

    /** Most often in line, so that a run stays without triangles for long. */
    private static int[] alongLine(Model model) {
        int step = pick(-20, 20);
        int off = model.count() > 5 && pick(0, 5) == 0 ? pick(-1, 1) : 0;
        return new int[] {3 * step, -2 * step + off};
    }

    private static int pick(int from, int to) {
        seed = seed * 6364136223846793005L + 1442695040888963407L;
        return from + (int) ((seed >>> 33) % (to - from + 1));
    }

    // ---- one state, all calls

    private static void compare(Asked real, Model model) {
        model.work();
        due(model, "sites()", model.count(), real.next().sites());
        due(model, "triangles()", model.triangles.size(), real.next().triangles());
        compareTriangles(real, model);
        compareEdges(real, model);
        due(model, "corners()", model.ring.size(), real.next().corners());
        for (int k = -1; k <= 15; k++) {
            due(model, "corner(" + k + ")", entry(model.ring, k), real.next().corner(k));
            due(model, "tree(" + k + ")", entry(model.tree, k), real.next().tree(k));
        }
        due(model, "total()", model.total, real.next().total());
        for (int point = 0; point < 25; point++) {
            comparePoint(real, model, pickEighths(model), pickEighths(model));
        }
        compareMidpoints(real, model);
    }

    private static void compareTriangles(Asked real, Model model) {
        for (int i = -1; i <= 25; i++) {
            boolean there = i >= 0 && i < model.triangles.size();
            due(model, "triangle(" + i + ")", there ? packed(model.triangles.get(i)) : -1, real.next().triangle(i));
            BigInteger[] centre = there ? model.centre(model.triangles.get(i)) : null;
            for (int k = -1; k <= 3; k++) {
                boolean known = there && k >= 0 && k <= 2;
                due(model, "beyond(" + i + ", " + k + ")", known ? model.beyond(i, k) : -1, real.next().beyond(i, k));
                due(model, "centre(" + i + ", " + k + ")", known ? centre[k].longValueExact() : 0, real.next().centre(i, k));
            }
        }
    }

    private static void compareEdges(Asked real, Model model) {
        for (int a = -1; a <= 15; a++) {
            int degree = 0;
            for (int b = -1; b <= 15; b++) {
                boolean edge = model.hasEdge(a, b);
                degree += edge ? 1 : 0;
                due(model, "joined(" + a + ", " + b + ")", edge ? 1 : 0, real.next().joined(a, b) ? 1 : 0);
            }
            boolean there = a >= 0 && a < model.count();
            due(model, "degree(" + a + ")", there ? degree : -1, real.next().degree(a));
            due(model, "bounded(" + a + ")", there && model.isBounded(a) ? 1 : 0, real.next().bounded(a) ? 1 : 0);
        }
    }

    private static long pickEighths(Model model) {
        if (model.count() == 0 || pick(0, 3) == 0) {
            return pick(-321000, 321000);
        }
        int[] site = model.sites.get(pick(0, model.count() - 1));
        return 8L * site[pick(0, 1)] + pick(-9, 9);
    }

    /** The middle of two sites is on sides and ties more often than a point picked freely. */
    private static void compareMidpoints(Asked real, Model model) {
        for (int a = 0; a < model.count(); a++) {
            for (int b = a; b < model.count(); b += pick(1, 3)) {
                int[] p = model.sites.get(a);
                int[] q = model.sites.get(b);
                comparePoint(real, model, 4L * (p[0] + q[0]), 4L * (p[1] + q[1]) + (pick(0, 2) - 1) * pick(0, 1));
            }
        }
    }

    private static void comparePoint(Asked real, Model model, long x8, long y8) {
        double x = x8 / 8.0;
        double y = y8 / 8.0;
        String at = "(" + x + ", " + y + ")";
        boolean refused = Math.abs(x8) > 320000 || Math.abs(y8) > 320000;
        due(model, "nearest" + at, refused ? -2 : model.nearest(x8, y8), real.next().nearest(x, y));
        due(model, "holder" + at, refused ? -2 : model.holder(x8, y8), real.next().holder(x, y));
        int a = pick(-1, 14);
        double square = a < 0 || a >= model.count() ? -1 : model.gap64(a, x8, y8) / 64.0;
        due(model, "square of " + a + " " + at, refused ? -2 : square, real.next().square(a, x, y));
    }

    private static int entry(List<Integer> row, int k) {
        return k >= 0 && k < row.size() ? row.get(k) : -1;
    }

    private static int packed(int[] triangle) {
        return triangle[0] + 16 * triangle[1] + 256 * triangle[2];
    }

    private static void due(Model model, String call, double want, double got) {
        if (got != want) {
            report(model, call, String.valueOf(want), String.valueOf(got));
        }
    }

    private static void due(Model model, String call, long want, long got) {
        if (got != want) {
            report(model, call, String.valueOf(want), String.valueOf(got));
        }
    }

    private static void report(Model model, String call, String want, String got) {
        wrong++;
        StringBuilder sites = new StringBuilder();
        for (int[] site : model.sites) {
            sites.append(Arrays.toString(site));
        }
        System.out.println("with " + sites + ": " + call + " answered " + got + ", due is " + want);
    }

    /**
     * An object of the class, made anew with the same adds before its 513th call, as what later
     * calls answer is free.
     */
    private static final class Asked {
        private static final int MOST_CALLS = 512;

        private final List<int[]> adds = new ArrayList<>();
        private SiteTriangles object = new SiteTriangles();
        private int calls = 0;

        int add(int x, int y) {
            int answer = next().add(x, y);
            adds.add(new int[] {x, y});
            return answer;
        }

        SiteTriangles next() {
            if (calls == MOST_CALLS) {
                object = new SiteTriangles();
                for (int[] site : adds) {
                    object.add(site[0], site[1]);
                }
                calls = adds.size();
            }
            calls++;
            return object;
        }
    }

    /** The document's terms, as they are said. */
    private static final class Model {
        final List<int[]> sites = new ArrayList<>();
        List<int[]> triangles = new ArrayList<>();
        List<int[]> edges = new ArrayList<>();
        List<Integer> ring = new ArrayList<>();
        List<Integer> tree = new ArrayList<>();
        long total;

        int count() {
            return sites.size();
        }

        int add(int x, int y) {
            if (Math.abs(x) > 30000 || Math.abs(y) > 30000) {
                return -1;
            }
            for (int a = 0; a < count(); a++) {
                if (Arrays.equals(sites.get(a), new int[] {x, y})) {
                    return a;
                }
            }
            if (count() == 14) {
                return -2;
            }
            sites.add(new int[] {x, y});
            return count() - 1;
        }

        void work() {
            triangles = findTriangles();
            edges = findEdges();
            ring = findRing();
            findTree();
        }

        long turn(int a, int b, int c) {
            long[] p = {sites.get(a)[0], sites.get(a)[1]};
            return (sites.get(b)[0] - p[0]) * (sites.get(c)[1] - p[1]) - (sites.get(b)[1] - p[1]) * (sites.get(c)[0] - p[0]);
        }

        /** x, y, d: where the two ways of equal distance meet, by Cramer's rule. */
        BigInteger[] centre(int[] triangle) {
            int[] a = sites.get(triangle[0]);
            int[] b = sites.get(triangle[1]);
            int[] c = sites.get(triangle[2]);
            BigInteger p = square(b).subtract(square(a));
            BigInteger q = square(c).subtract(square(a));
            BigInteger d = big(2L * (b[0] - a[0])).multiply(big(c[1] - a[1])).subtract(big(2L * (b[1] - a[1])).multiply(big(c[0] - a[0])));
            BigInteger x = p.multiply(big(c[1] - a[1])).subtract(q.multiply(big(b[1] - a[1])));
            BigInteger y = q.multiply(big(b[0] - a[0])).subtract(p.multiply(big(c[0] - a[0])));
            BigInteger shared = x.gcd(y).gcd(d).multiply(big(d.signum()));
            return new BigInteger[] {x.divide(shared), y.divide(shared), d.divide(shared)};
        }

        private static BigInteger square(int[] site) {
            return big((long) site[0] * site[0] + (long) site[1] * site[1]);
        }

        private static BigInteger big(long number) {
            return BigInteger.valueOf(number);
        }

        /** The square of the distance of a site from the centre, times d * d. */
        private BigInteger gapToCentre(BigInteger[] centre, int site) {
            BigInteger dx = big(sites.get(site)[0]).multiply(centre[2]).subtract(centre[0]);
            BigInteger dy = big(sites.get(site)[1]).multiply(centre[2]).subtract(centre[1]);
            return dx.multiply(dx).add(dy.multiply(dy));
        }

        private List<int[]> findTriangles() {
            TreeSet<int[]> found = new TreeSet<>(Arrays::compare);
            for (int a = 0; a < count(); a++) {
                for (int b = a + 1; b < count(); b++) {
                    for (int c = b + 1; c < count(); c++) {
                        if (turn(a, b, c) != 0) {
                            cutFan(new int[] {a, b, c}, found);
                        }
                    }
                }
            }
            return new ArrayList<>(found);
        }

        private void cutFan(int[] three, TreeSet<int[]> found) {
            BigInteger[] centre = centre(three);
            BigInteger radius = gapToCentre(centre, three[0]);
            List<Integer> on = new ArrayList<>();
            for (int a = 0; a < count(); a++) {
                int side = gapToCentre(centre, a).compareTo(radius);
                if (side < 0) {
                    return;
                }
                if (side == 0) {
                    on.add(a);
                }
            }
            int v = on.remove(0);
            // Seen from v, all others lie within half a turn, and their order round the circle is
            // the order of the turns.
            on.sort((p, q) -> Long.compare(0, turn(v, p, q)));
            for (int at = 0; at + 1 < on.size(); at++) {
                int[] triangle = {v, on.get(at), on.get(at + 1)};
                Arrays.sort(triangle);
                found.add(triangle);
            }
        }

        int beyond(int i, int k) {
            int[] t = triangles.get(i);
            for (int other = 0; other < triangles.size(); other++) {
                int shared = 0;
                for (int at = 0; at < 3; at++) {
                    int corner = t[at];
                    shared += at != k && Arrays.stream(triangles.get(other)).anyMatch(c -> c == corner) ? 1 : 0;
                }
                if (other != i && shared == 2) {
                    return other;
                }
            }
            return -1;
        }

        private List<int[]> findEdges() {
            List<int[]> found = new ArrayList<>();
            for (int a = 0; a < count(); a++) {
                for (int b = a + 1; b < count(); b++) {
                    if (triangles.isEmpty() ? isFree(a, b) : shareTriangle(a, b)) {
                        found.add(new int[] {a, b});
                    }
                }
            }
            return found;
        }

        private boolean shareTriangle(int a, int b) {
            for (int[] t : triangles) {
                boolean hasA = t[0] == a || t[1] == a || t[2] == a;
                boolean hasB = t[0] == b || t[1] == b || t[2] == b;
                if (hasA && hasB) {
                    return true;
                }
            }
            return false;
        }

        private boolean isFree(int a, int b) {
            for (int m = 0; m < count(); m++) {
                if (m != a && m != b && isOnWay(m, a, b)) {
                    return false;
                }
            }
            return true;
        }

        private boolean isOnWay(int m, int a, int b) {
            int[] at = sites.get(m);
            int[] p = sites.get(a);
            int[] q = sites.get(b);
            return turn(a, b, m) == 0
                && Math.min(p[0], q[0]) <= at[0] && at[0] <= Math.max(p[0], q[0])
                && Math.min(p[1], q[1]) <= at[1] && at[1] <= Math.max(p[1], q[1]);
        }

        boolean hasEdge(int a, int b) {
            for (int[] edge : edges) {
                if (edge[0] == Math.min(a, b) && edge[1] == Math.max(a, b)) {
                    return true;
                }
            }
            return false;
        }

        private boolean isCorner(int m) {
            for (int a = 0; a < count(); a++) {
                for (int b = a + 1; b < count(); b++) {
                    if (a == m || b == m) {
                        continue;
                    }
                    if (isOnWay(m, a, b)) {
                        return false;
                    }
                    for (int c = b + 1; c < count(); c++) {
                        if (c != m && turn(a, b, c) != 0 && isIn(m, a, b, c)) {
                            return false;
                        }
                    }
                }
            }
            return true;
        }

        private boolean isIn(int m, int a, int b, int c) {
            return Math.abs(turn(m, a, b)) + Math.abs(turn(m, b, c)) + Math.abs(turn(m, c, a)) == Math.abs(turn(a, b, c));
        }

        private List<Integer> findRing() {
            List<Integer> found = new ArrayList<>();
            for (int a = 0; a < count(); a++) {
                if (isCorner(a)) {
                    found.add(a);
                }
            }
            if (found.size() > 2) {
                int first = found.remove(0);
                found.sort((p, q) -> Long.compare(0, turn(first, p, q)));
                found.add(0, first);
            }
            return found;
        }

        private void findTree() {
            List<int[]> sorted = new ArrayList<>(edges);
            sorted.sort(Comparator.<int[]>comparingLong(e -> gap(e)).thenComparingInt(e -> e[0]).thenComparingInt(e -> e[1]));
            List<TreeSet<Integer>> parts = new ArrayList<>();
            for (int a = 0; a < count(); a++) {
                parts.add(new TreeSet<>(Collections.singleton(a)));
            }
            tree = new ArrayList<>();
            total = 0;
            for (int[] edge : sorted) {
                TreeSet<Integer> part = parts.get(edge[0]);
                if (!part.contains(edge[1])) {
                    part.addAll(parts.get(edge[1]));
                    for (int m : part) {
                        parts.set(m, part);
                    }
                    tree.add(edge[0] + 16 * edge[1]);
                    total += gap(edge);
                }
            }
        }

        private long gap(int[] edge) {
            int[] p = sites.get(edge[0]);
            int[] q = sites.get(edge[1]);
            return (long) (p[0] - q[0]) * (p[0] - q[0]) + (long) (p[1] - q[1]) * (p[1] - q[1]);
        }

        /** Whether no way leads on for ever without coming nearer to another site. */
        boolean isBounded(int a) {
            for (int b = 0; b < count(); b++) {
                long dx = sites.get(b)[0] - sites.get(a)[0];
                long dy = sites.get(b)[1] - sites.get(a)[1];
                if (b != a && (isOpen(a, -dy, dx) || isOpen(a, dy, -dx))) {
                    return false;
                }
            }
            return count() > 1;
        }

        private boolean isOpen(int a, long wayX, long wayY) {
            for (int b = 0; b < count(); b++) {
                long dx = sites.get(b)[0] - sites.get(a)[0];
                long dy = sites.get(b)[1] - sites.get(a)[1];
                if (wayX * dx + wayY * dy > 0) {
                    return false;
                }
            }
            return true;
        }

        /** The square of the distance of a point in eighths from a site, in 64ths. */
        long gap64(int a, long x8, long y8) {
            long dx = x8 - 8L * sites.get(a)[0];
            long dy = y8 - 8L * sites.get(a)[1];
            return dx * dx + dy * dy;
        }

        int nearest(long x8, long y8) {
            int best = -1;
            for (int a = count() - 1; a >= 0; a--) {
                if (best < 0 || gap64(a, x8, y8) <= gap64(best, x8, y8)) {
                    best = a;
                }
            }
            return best;
        }

        int holder(long x8, long y8) {
            for (int i = 0; i < triangles.size(); i++) {
                int[] t = triangles.get(i);
                long parts = 0;
                for (int at = 0; at < 3; at++) {
                    parts += Math.abs(turn64(t[at], t[(at + 1) % 3], x8, y8));
                }
                if (parts == 64 * Math.abs(turn(t[0], t[1], t[2]))) {
                    return i;
                }
            }
            return -1;
        }

        private long turn64(int a, int b, long x8, long y8) {
            long px = 8L * sites.get(a)[0];
            long py = 8L * sites.get(a)[1];
            return (8L * sites.get(b)[0] - px) * (y8 - py) - (8L * sites.get(b)[1] - py) * (x8 - px);
        }
    }
}

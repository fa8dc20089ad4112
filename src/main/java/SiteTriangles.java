/**
 * Up to 14 sites in the plane with the triangles of empty circles over them, the edges of these
 * triangles, the corners of the whole and the shortest tree along the edges.
 *
 * Everything that depends on the sites alone is worked out anew when a site is added, into rows
 * that the constructor made, so that no later call makes an object.
 */
public final class SiteTriangles {
    private static final int MOST_SITES = 14;
    // n sites are covered side by side by at most 2 n - 5 triangles.
    private static final int MOST_TRIANGLES = 2 * MOST_SITES - 5;
    private static final int MOST_TREE_EDGES = MOST_SITES - 1;
    private static final int SITE_LIMIT = 30000;
    private static final int POINT_LIMIT = 40000;

    // An answer packs site numbers, the least one lowest, into four bits each.
    private static final int NUMBER_BITS = 4;
    private static final int NUMBER_MASK = 15;

    private static final int LOW_BITS = 20;
    private static final long LOW_MASK = (1L << LOW_BITS) - 1;

    // Euclid's way needs fewer than 93 steps for any two longs.
    private static final int DIVISOR_STEPS = 100;

    private final int[] siteX;
    private final int[] siteY;
    private int siteCount;

    private final int[] packedTriangles;
    private int triangleCount;

    // Bit b of entry a is set if sites a and b have an edge.
    private final int[] neighbours;

    private final int[] ring;
    private int ringCount;

    private final int[] packedTree;
    private int treeCount;
    private long treeLength;

    // Two sites bear the same group if the edges taken so far connect them.
    private final int[] group;

    public SiteTriangles() {
        siteX = new int[MOST_SITES];
        siteY = new int[MOST_SITES];
        siteCount = 0;
        packedTriangles = new int[MOST_TRIANGLES];
        triangleCount = 0;
        neighbours = new int[MOST_SITES];
        ring = new int[MOST_SITES];
        ringCount = 0;
        packedTree = new int[MOST_TREE_EDGES];
        treeCount = 0;
        treeLength = 0;
        group = new int[MOST_SITES];
    }

    public int add(int x, int y) {
        if (isTooFar(x) || isTooFar(y)) {
            return -1;
        }
        int old = siteAt(x, y);
        if (old >= 0) {
            return old;
        }
        if (siteCount >= MOST_SITES) {
            return -2;
        }
        int site = siteCount;
        siteX[site] = x;
        siteY[site] = y;
        siteCount = site + 1;
        rebuild();
        return site;
    }

    public int sites() {
        return siteCount;
    }

    public int triangles() {
        return triangleCount;
    }

    public int triangle(int i) {
        return isTriangle(i) ? packedTriangles[i] : -1;
    }

    public int beyond(int i, int k) {
        if (!isTriangle(i) || k < 0 || k > 2) {
            return -1;
        }
        int p = triangleCorner(i, k == 0 ? 1 : 0);
        int q = triangleCorner(i, k == 2 ? 1 : 2);
        for (int other = 0; other < triangleCount; other++) {
            if (other != i && hasCorner(other, p) && hasCorner(other, q)) {
                return other;
            }
        }
        return -1;
    }

    public long centre(int i, int which) {
        if (!isTriangle(i) || which < 0 || which > 2) {
            return 0;
        }
        int a = triangleCorner(i, 0);
        int b = triangleCorner(i, 1);
        int c = triangleCorner(i, 2);
        long d = 2 * turn(a, b, c);
        long farB = gap(a, b);
        long farC = gap(a, c);
        long x = d * xOf(a) + (yOf(c) - yOf(a)) * farB - (yOf(b) - yOf(a)) * farC;
        long y = d * yOf(a) + (xOf(b) - xOf(a)) * farC - (xOf(c) - xOf(a)) * farB;
        long shared = commonDivisor(commonDivisor(x, y), d);
        if (shared == 0) {
            return 0;
        }
        long part = which == 0 ? x : which == 1 ? y : d;
        return d < 0 ? -(part / shared) : part / shared;
    }

    public boolean joined(int a, int b) {
        return hasEdge(a, b);
    }

    public int degree(int a) {
        return isSite(a) ? Integer.bitCount(neighbours[a]) : -1;
    }

    public int corners() {
        return ringCount;
    }

    public int corner(int k) {
        return k >= 0 && k < ringCount ? ring[k] : -1;
    }

    public int nearest(double x, double y) {
        if (isRefused(x, y)) {
            return -2;
        }
        int best = -1;
        double bestGap = 0;
        for (int a = 0; a < siteCount; a++) {
            double gap = gapToPoint(a, x, y);
            if (best < 0 || gap < bestGap) {
                best = a;
                bestGap = gap;
            }
        }
        return best;
    }

    public int holder(double x, double y) {
        if (isRefused(x, y)) {
            return -2;
        }
        for (int i = 0; i < triangleCount; i++) {
            if (holds(i, x, y)) {
                return i;
            }
        }
        return -1;
    }

    public double square(int a, double x, double y) {
        if (isRefused(x, y)) {
            return -2;
        }
        return isSite(a) ? gapToPoint(a, x, y) : -1;
    }

    public int tree(int k) {
        return k >= 0 && k < treeCount ? packedTree[k] : -1;
    }

    public long total() {
        return treeLength;
    }

    public boolean bounded(int a) {
        if (!isSite(a) || siteCount < 2) {
            return false;
        }
        for (int b = 0; b < siteCount; b++) {
            if (b != a && noneTurnsRight(a, b)) {
                return false;
            }
        }
        return true;
    }

    // ---- what may be asked about

    private static boolean isTooFar(int number) {
        return number < -SITE_LIMIT || number > SITE_LIMIT;
    }

    // Asked so that a number that is no number is refused too.
    private static boolean isRefused(double x, double y) {
        boolean taken = x >= -POINT_LIMIT && x <= POINT_LIMIT && y >= -POINT_LIMIT && y <= POINT_LIMIT;
        return !taken;
    }

    private boolean isSite(int a) {
        return a >= 0 && a < siteCount;
    }

    private boolean isTriangle(int i) {
        return i >= 0 && i < triangleCount;
    }

    private int siteAt(int x, int y) {
        for (int a = 0; a < siteCount; a++) {
            if (siteX[a] == x && siteY[a] == y) {
                return a;
            }
        }
        return -1;
    }

    // ---- measures; long, for their products go beyond int

    private long xOf(int a) {
        return a >= 0 && a < siteCount ? siteX[a] : 0;
    }

    private long yOf(int a) {
        return a >= 0 && a < siteCount ? siteY[a] : 0;
    }

    /** Above 0 if a, b, c turn left, below 0 if they turn right, 0 if they are in line. */
    private long turn(int a, int b, int c) {
        return (xOf(b) - xOf(a)) * (yOf(c) - yOf(a)) - (yOf(b) - yOf(a)) * (xOf(c) - xOf(a));
    }

    /** The square of the distance of two sites. */
    private long gap(int a, int b) {
        long dx = xOf(b) - xOf(a);
        long dy = yOf(b) - yOf(a);
        return dx * dx + dy * dy;
    }

    /** For m in line with a and b: below 0 if it is between them, 0 if it is one of them. */
    private long dot(int m, int a, int b) {
        return (xOf(a) - xOf(m)) * (xOf(b) - xOf(m)) + (yOf(a) - yOf(m)) * (yOf(b) - yOf(m));
    }

    private double gapToPoint(int a, double x, double y) {
        double dx = x - xOf(a);
        double dy = y - yOf(a);
        return dx * dx + dy * dy;
    }

    private double turnToPoint(int a, int b, double x, double y) {
        return (xOf(b) - xOf(a)) * (y - yOf(a)) - (yOf(b) - yOf(a)) * (x - xOf(a));
    }

    private static long commonDivisor(long p, long q) {
        long a = Math.abs(p);
        long b = Math.abs(q);
        for (int step = 0; step < DIVISOR_STEPS && b != 0; step++) {
            long rest = a % b;
            a = b;
            b = rest;
        }
        return a;
    }

    // ---- triangles

    private int triangleCorner(int i, int k) {
        if (!isTriangle(i)) {
            return -1;
        }
        return (packedTriangles[i] >> (NUMBER_BITS * k)) & NUMBER_MASK;
    }

    private boolean hasCorner(int i, int a) {
        return triangleCorner(i, 0) == a || triangleCorner(i, 1) == a || triangleCorner(i, 2) == a;
    }

    /** Whether the point is inside of triangle i or on its sides. */
    private boolean holds(int i, double x, double y) {
        int a = triangleCorner(i, 0);
        int b = triangleCorner(i, 1);
        int c = triangleCorner(i, 2);
        double ab = turnToPoint(a, b, x, y);
        double bc = turnToPoint(b, c, x, y);
        double ca = turnToPoint(c, a, x, y);
        boolean someLeft = ab > 0 || bc > 0 || ca > 0;
        boolean someRight = ab < 0 || bc < 0 || ca < 0;
        return !(someLeft && someRight);
    }

    private void rebuild() {
        findTriangles();
        findEdges();
        findRing(leastCorner());
        growTree();
    }

    // Going through a < b < c in this order numbers the triangles as they are due.
    private void findTriangles() {
        triangleCount = 0;
        for (int a = 0; a < siteCount; a++) {
            for (int b = a + 1; b < siteCount; b++) {
                for (int c = b + 1; c < siteCount; c++) {
                    if (isDueTriangle(a, b, c)) {
                        keepTriangle(a, b, c);
                    }
                }
            }
        }
    }

    private void keepTriangle(int a, int b, int c) {
        if (triangleCount < MOST_TRIANGLES) {
            packedTriangles[triangleCount] = a | (b << NUMBER_BITS) | (c << (2 * NUMBER_BITS));
            triangleCount++;
        }
    }

    /**
     * For a < b < c: whether their circle is empty, a is the least site on it, and b and c follow
     * each other on it. A site on it that lies on the far side of b, c from a stands between them.
     */
    private boolean isDueTriangle(int a, int b, int c) {
        long turning = turn(a, b, c);
        if (turning == 0) {
            return false;
        }
        for (int d = 0; d < siteCount; d++) {
            if (d == a || d == b || d == c) {
                continue;
            }
            int side = circleSide(a, b, c, d);
            if (side == 0) {
                boolean standsBetween = (turn(b, c, d) > 0) != (turning > 0);
                if (d < a || standsBetween) {
                    return false;
                }
            } else if ((side > 0) == (turning > 0)) {
                return false;
            }
        }
        return true;
    }

    /**
     * 0 if d is on the circle of a, b, c; else above 0 if it is inside and they turn left, or
     * outside and they turn right.
     *
     * The sum of three products of gaps and turns tells it, but each may come near 2^66, which a
     * long doesn't hold; so the gaps are split into a high and a low part.
     */
    private int circleSide(int a, int b, int c, int d) {
        long gapA = gap(d, a);
        long gapB = gap(d, b);
        long gapC = gap(d, c);
        long turnA = turn(d, b, c);
        long turnB = turn(d, c, a);
        long turnC = turn(d, a, b);
        long high = (gapA >> LOW_BITS) * turnA + (gapB >> LOW_BITS) * turnB + (gapC >> LOW_BITS) * turnC;
        long low = (gapA & LOW_MASK) * turnA + (gapB & LOW_MASK) * turnB + (gapC & LOW_MASK) * turnC;
        high += low >> LOW_BITS;
        if (high != 0) {
            return high > 0 ? 1 : -1;
        }
        return (low & LOW_MASK) != 0 ? 1 : 0;
    }

    // ---- edges

    private boolean hasEdge(int a, int b) {
        return isSite(a) && isSite(b) && ((neighbours[a] >> b) & 1) == 1;
    }

    private void findEdges() {
        for (int a = 0; a < siteCount; a++) {
            neighbours[a] = 0;
        }
        for (int i = 0; i < triangleCount; i++) {
            int a = triangleCorner(i, 0);
            int b = triangleCorner(i, 1);
            int c = triangleCorner(i, 2);
            join(a, b);
            join(b, c);
            join(a, c);
        }
        if (triangleCount == 0) {
            joinAlongLine();
        }
    }

    private void join(int a, int b) {
        if (isSite(a) && isSite(b)) {
            neighbours[a] |= 1 << b;
            neighbours[b] |= 1 << a;
        }
    }

    private void joinAlongLine() {
        for (int a = 0; a < siteCount; a++) {
            for (int b = a + 1; b < siteCount; b++) {
                if (isWayFree(a, b)) {
                    join(a, b);
                }
            }
        }
    }

    private boolean isWayFree(int a, int b) {
        for (int m = 0; m < siteCount; m++) {
            if (turn(a, b, m) == 0 && dot(m, a, b) < 0) {
                return false;
            }
        }
        return true;
    }

    // ---- corners

    private void findRing(int first) {
        ringCount = 0;
        int at = first;
        for (int step = 0; step < MOST_SITES && at >= 0; step++) {
            ring[ringCount] = at;
            ringCount++;
            int next = nextCorner(at);
            at = next == first ? -1 : next;
        }
    }

    private int leastCorner() {
        if (siteCount == 1) {
            return 0;
        }
        for (int a = 0; a < siteCount; a++) {
            if (nextCorner(a) >= 0) {
                return a;
            }
        }
        return -1;
    }

    /** The corner that follows a on the way round to the left; -1 when a is no corner or alone. */
    private int nextCorner(int a) {
        for (int b = 0; b < siteCount; b++) {
            if (b != a && isRingSide(a, b)) {
                return b;
            }
        }
        return -1;
    }

    /** Whether every site is to the left of the way from a to b, or on it between them. */
    private boolean isRingSide(int a, int b) {
        for (int m = 0; m < siteCount; m++) {
            long turning = turn(a, b, m);
            if (turning < 0 || (turning == 0 && dot(m, a, b) > 0)) {
                return false;
            }
        }
        return true;
    }

    // A site's region is endless just if all sites are on one side of some line through it.
    private boolean noneTurnsRight(int a, int b) {
        for (int m = 0; m < siteCount; m++) {
            if (turn(a, b, m) < 0) {
                return false;
            }
        }
        return true;
    }

    // ---- the tree

    private void growTree() {
        treeCount = 0;
        treeLength = 0;
        for (int a = 0; a < siteCount; a++) {
            group[a] = a;
        }
        for (int step = 1; step < siteCount; step++) {
            takeNextEdge();
        }
    }

    // An edge inside of a group closes a circle for good; so the next edge that is taken is the
    // first of the shortest ones between groups, and no sorted row of edges is needed.
    private void takeNextEdge() {
        int bestA = -1;
        int bestB = -1;
        long bestGap = 0;
        for (int a = 0; a < siteCount; a++) {
            for (int b = a + 1; b < siteCount; b++) {
                if (hasEdge(a, b) && group[a] != group[b] && (bestA < 0 || gap(a, b) < bestGap)) {
                    bestA = a;
                    bestB = b;
                    bestGap = gap(a, b);
                }
            }
        }
        if (bestA >= 0) {
            takeEdge(bestA, bestB);
        }
    }

    private void takeEdge(int a, int b) {
        if (!isSite(a) || !isSite(b) || treeCount >= MOST_TREE_EDGES) {
            return;
        }
        packedTree[treeCount] = a | (b << NUMBER_BITS);
        treeCount++;
        treeLength += gap(a, b);
        int kept = group[a];
        int merged = group[b];
        for (int m = 0; m < siteCount; m++) {
            if (group[m] == merged) {
                group[m] = kept;
            }
        }
    }
}

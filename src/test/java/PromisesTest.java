/** Each promise by hand: ordinary inputs, the edges that the document names, and wrong inputs. */
public final class PromisesTest {
    private static int wrong = 0;

    private static final int[] WRONG_NUMBERS = {-1, 14, 15, 16, 31, 32, 64, 256, -32, Integer.MIN_VALUE, Integer.MAX_VALUE};
    private static final double FAR = 40000.125;

    public static void main(String[] args) {
        promise1NewObject();
        promise2Add();
        promise3Sites();
        promise4Triangles();
        promise5Triangle();
        promise6Beyond();
        promise7Centre();
        promise8Joined();
        promise9Degree();
        promise10And11Corners();
        promise12Nearest();
        promise13Holder();
        promise14Square();
        promise15Tree();
        promise16Total();
        promise17Bounded();
        noCallThrows();
        readmeHolds();
        if (wrong != 0) {
            System.exit(1);
        }
    }

    // ---- the promises

    private static void promise1NewObject() {
        SiteTriangles t = new SiteTriangles();
        due("new: sites", 0, t.sites());
        due("new: triangles", 0, t.triangles());
        due("new: triangle", -1, t.triangle(0));
        due("new: beyond", -1, t.beyond(0, 0));
        due("new: centre", 0, t.centre(0, 2));
        due("new: joined", false, t.joined(0, 1));
        due("new: degree", -1, t.degree(0));
        due("new: corners", 0, t.corners());
        due("new: corner", -1, t.corner(0));
        due("new: nearest", -1, t.nearest(0, 0));
        due("new: holder", -1, t.holder(0, 0));
        due("new: square", -1, t.square(0, 0, 0));
        due("new: tree", -1, t.tree(0));
        due("new: total", 0, t.total());
        due("new: bounded", false, t.bounded(0));
        SiteTriangles other = new SiteTriangles();
        other.add(1, 1);
        due("new: a site of another object", 0, t.sites());
    }

    private static void promise2Add() {
        SiteTriangles t = new SiteTriangles();
        int[] far = {30001, -30001, Integer.MAX_VALUE, Integer.MIN_VALUE};
        for (int number : far) {
            due("add: x too far", -1, t.add(number, 0));
            due("add: y too far", -1, t.add(0, number));
            due("add: both too far", -1, t.add(number, number));
        }
        due("add: first", 0, t.add(30000, -30000));
        due("add: second", 1, t.add(-30000, 30000));
        due("add: x and y the other way round", 2, t.add(-30000, -30000));
        due("add: same x", 3, t.add(30000, 30000));
        for (int site = 4; site < 14; site++) {
            due("add: site " + site, site, t.add(site, site * site));
        }
        due("add: no more", -2, t.add(0, 0));
        due("add: too far comes before no more", -1, t.add(0, 30001));
        due("add: too far comes before no more", -1, t.add(-30001, 0));
        due("add: old first when full", 0, t.add(30000, -30000));
        due("add: old last when full", 13, t.add(13, 169));
        due("add: count when full", 14, t.sites());
    }

    private static void promise3Sites() {
        SiteTriangles t = new SiteTriangles();
        for (int site = 0; site < 14; site++) {
            t.add(7 * site, -site);
            due("sites: after add", site + 1, t.sites());
            t.add(0, 0);
            due("sites: after an old one", site + 1, t.sites());
            t.add(0, 30001);
            due("sites: after a refused one", site + 1, t.sites());
        }
        t.add(1, 1);
        due("sites: after one too many", 14, t.sites());
    }

    private static void promise4Triangles() {
        SiteTriangles t = sitesAt(0, 0, 4, 0);
        due("triangles: two sites", 0, t.triangles());
        t.add(8, 0);
        due("triangles: in line", 0, t.triangles());
        t.add(4, 3);
        due("triangles: two side by side", 2, t.triangles());
        t.add(4, -3);
        due("triangles: on both sides of the line", 4, t.triangles());
        due("triangles: four on one circle", 2, sitesAt(0, 0, 1, 0, 1, 1, 0, 1).triangles());
        due("triangles: the whole room", 2, extremes().triangles());
        due("triangles: most", 23, fullest().triangles());
    }

    private static void promise5Triangle() {
        SiteTriangles square = sitesAt(0, 0, 2, 2, 2, 0, 0, 2);
        due("triangle: fan from 0, first", packed(0, 1, 2), square.triangle(0));
        due("triangle: fan from 0, second", packed(0, 1, 3), square.triangle(1));
        due("triangle: two only", -1, square.triangle(2));

        // The same square in every order has its fan at site 0.
        SiteTriangles turned = sitesAt(0, 0, 2, 0, 0, 2, 2, 2);
        due("triangle: turned fan, first", packed(0, 1, 3), turned.triangle(0));
        due("triangle: turned fan, second", packed(0, 2, 3), turned.triangle(1));

        // Two squares side by side: the fan of the right one starts at its own least site.
        SiteTriangles two = sitesAt(0, 0, 2, 0, 2, 2, 0, 2, 4, 2, 4, 0);
        due("triangle: squares, 0", packed(0, 1, 2), two.triangle(0));
        due("triangle: squares, 1", packed(0, 2, 3), two.triangle(1));
        due("triangle: squares, 2", packed(1, 2, 4), two.triangle(2));
        due("triangle: squares, 3", packed(1, 4, 5), two.triangle(3));

        // A circle with a site just inside of it is not empty; just outside of it, it is.
        due("triangle: site just inside", packed(0, 1, 3), sitesAt(0, 0, 10, 0, 10, 10, 1, 9).triangle(0));
        due("triangle: site just outside", packed(0, 1, 2), sitesAt(0, 0, 10, 0, 10, 10, -1, 10).triangle(0));

        for (int i : WRONG_NUMBERS) {
            due("triangle: wrong number " + i, -1, square.triangle(i));
        }
        due("triangle: last of most", true, fullest().triangle(22) > 0);
        due("triangle: after most", -1, fullest().triangle(23));
    }

    private static void promise6Beyond() {
        SiteTriangles t = sitesAt(0, 0, 2, 0, 2, 2, 0, 2, 4, 2, 4, 0);
        int[][] want = {{2, 1, -1}, {-1, -1, 0}, {-1, 3, 0}, {-1, -1, 2}};
        for (int i = 0; i < want.length; i++) {
            for (int k = 0; k < 3; k++) {
                due("beyond: " + i + ", " + k, want[i][k], t.beyond(i, k));
            }
        }
        for (int number : WRONG_NUMBERS) {
            due("beyond: wrong triangle " + number, -1, t.beyond(number, 0));
            due("beyond: wrong k " + number, -1, t.beyond(0, number));
        }
        due("beyond: k 3", -1, t.beyond(0, 3));
        due("beyond: triangle 4", -1, t.beyond(4, 0));
    }

    private static void promise7Centre() {
        dueCentre("right angle", sitesAt(0, 0, 4, 0, 0, 3), 4, 3, 2);
        dueCentre("numbered to the right", sitesAt(0, 0, 0, 3, 4, 0), 4, 3, 2);
        dueCentre("below and left", sitesAt(0, 0, -4, 0, 0, -3), -4, -3, 2);
        dueCentre("at nought", sitesAt(5, 0, 0, 5, -5, 0), 0, 0, 1);
        dueCentre("away from nought", sitesAt(100, 200, 106, 200, 100, 208), 103, 204, 1);
        dueCentre("x whole, y not", sitesAt(0, 0, 4, 0, 2, 3), 12, 5, 6);
        dueCentre("y whole, x not", sitesAt(0, 0, 0, 4, 3, 2), 5, 12, 6);
        dueCentre("far outside", sitesAt(-30000, -30000, 30000, 29999, 1, 0), -3599999999L, 3600059999L, 2);
        dueCentre("great divisor", sitesAt(-30000, -30000, 30000, 30000, 29999, -29998), -179995, 179995, 119994);

        SiteTriangles t = sitesAt(0, 0, 4, 0, 0, 3);
        due("centre: which 3", 0, t.centre(0, 3));
        due("centre: triangle 1", 0, t.centre(1, 2));
        for (int number : WRONG_NUMBERS) {
            due("centre: wrong triangle " + number, 0, t.centre(number, 2));
            due("centre: wrong which " + number, 0, t.centre(0, number));
        }
    }

    private static void promise8Joined() {
        SiteTriangles line = sitesAt(0, 0, 6, 3, 2, 1, -2, -1);
        due("joined: neighbours in line", true, line.joined(0, 2));
        due("joined: neighbours in line, backwards", true, line.joined(2, 0));
        due("joined: next in line", true, line.joined(1, 2));
        due("joined: last in line", true, line.joined(3, 0));
        due("joined: one between", false, line.joined(0, 1));
        due("joined: two between", false, line.joined(1, 3));

        SiteTriangles square = sitesAt(0, 0, 2, 0, 2, 2, 0, 2);
        due("joined: way through from 0", true, square.joined(0, 2));
        due("joined: other way through", false, square.joined(1, 3));
        due("joined: side", true, square.joined(3, 0));
        for (int a = 0; a < 4; a++) {
            due("joined: the same", false, square.joined(a, a));
            for (int number : WRONG_NUMBERS) {
                due("joined: wrong second " + number, false, square.joined(a, number));
                due("joined: wrong first " + number, false, square.joined(number, a));
            }
            due("joined: 4 is not there", false, square.joined(a, 4));
        }
        due("joined: neither there", false, square.joined(32, 33));
        due("joined: the same, not there", false, square.joined(-1, -1));
        due("joined: two sites", true, sitesAt(3, 3, -9, 30000).joined(0, 1));
        due("joined: one site", false, sitesAt(3, 3).joined(0, 0));
    }

    private static void promise9Degree() {
        SiteTriangles t = sitesAt(0, 0);
        due("degree: alone", 0, t.degree(0));
        due("degree: not there", -1, t.degree(1));
        t.add(4, 0);
        due("degree: two", 1, t.degree(0));
        t.add(2, 0);
        due("degree: end", 1, t.degree(0));
        due("degree: other end", 1, t.degree(1));
        due("degree: between", 2, t.degree(2));
        t.add(2, 2);
        due("degree: three from the top", 3, t.degree(3));
        due("degree: three from the middle", 3, t.degree(2));
        due("degree: side", 2, t.degree(0));
        due("degree: hub of all", 13, wheel().degree(0));
        due("degree: first of the rim", 3, wheel().degree(1));
        for (int number : WRONG_NUMBERS) {
            due("degree: wrong site " + number, -1, t.degree(number));
        }
    }

    private static void promise10And11Corners() {
        dueCorners("one", sitesAt(5, 5), 0);
        dueCorners("two", sitesAt(5, 5, 1, 1), 0, 1);
        dueCorners("in line", sitesAt(0, 0, 10, 10, 20, 20, 5, 5, -7, -7), 2, 4);
        dueCorners("in line, upright", sitesAt(3, 5, 3, -5, 3, 0), 0, 1);
        dueCorners("to the left", sitesAt(0, 0, 4, 0, 0, 4), 0, 1, 2);
        dueCorners("to the left, numbered to the right", sitesAt(0, 0, 0, 4, 4, 0), 0, 2, 1);
        dueCorners("site on a side", sitesAt(2, 0, 0, 0, 4, 0, 4, 4, 0, 4), 1, 2, 3, 4);
        dueCorners("site inside", sitesAt(2, 2, 0, 0, 6, 0, 6, 6, 0, 6), 1, 2, 3, 4);
        dueCorners("sites on every side", sitesAt(1, 0, 2, 1, 1, 2, 0, 1, 0, 0, 2, 2, 2, 0, 0, 2, 1, 1), 4, 6, 5, 7);
        dueCorners("the whole room", extremes(), 0, 1, 2, 3);
        SiteTriangles circle = onCircle();
        due("corners: 12 on a circle", 12, circle.corners());
        for (int k = 0; k < 12; k++) {
            due("corner: " + k + " on a circle", k == 0 ? 0 : 12 - k, circle.corner(k));
        }
        for (int number : WRONG_NUMBERS) {
            due("corner: wrong number " + number, -1, circle.corner(number));
        }
    }

    private static void promise12Nearest() {
        SiteTriangles t = sitesAt(10, 0, -10, 0, 0, 10, 0, 0);
        due("nearest: at a site", 3, t.nearest(0, 0));
        due("nearest: near", 2, t.nearest(1, 9.5));
        due("nearest: tie of all but one", 0, sitesAt(10, 0, -10, 0, 0, 10).nearest(0, 0));
        due("nearest: tie of two", 0, t.nearest(5, 0));
        due("nearest: an eighth nearer", 3, t.nearest(4.875, 0));
        due("nearest: an eighth farther", 0, t.nearest(5.125, 0));
        due("nearest: tie of later ones", 1, t.nearest(-5, 5));
        due("nearest: at the limit", 0, t.nearest(40000, -40000));
        due("nearest: at the other limit", 1, t.nearest(-40000, 0));
        dueRefused("nearest", t);
        dueRefused("nearest", new SiteTriangles());
        due("nearest: no site at the limit", -1, new SiteTriangles().nearest(-40000, 40000));
        SiteTriangles far = sitesAt(-30000, -30000, -29999, -30000);
        due("nearest: far tie", 0, far.nearest(-29999.5, 40000));
        due("nearest: far, an eighth off", 1, far.nearest(-29999.375, 40000));
    }

    private static void promise13Holder() {
        SiteTriangles t = sitesAt(0, 0, 8, 0, 8, 8, 0, 8);
        due("holder: inside first", 0, t.holder(6, 1));
        due("holder: inside second", 1, t.holder(1, 6));
        due("holder: on the shared side", 0, t.holder(4, 4));
        due("holder: an eighth beside it", 1, t.holder(4, 4.125));
        due("holder: on the hull", 0, t.holder(8, 3.625));
        due("holder: an eighth outside", -1, t.holder(8.125, 3.625));
        due("holder: at a site of both", 0, t.holder(8, 8));
        due("holder: at a site of the second", 1, t.holder(0, 8));
        due("holder: in line with a side, outside", -1, t.holder(9, 0));
        due("holder: in line with the other side", -1, t.holder(-1, -1));
        due("holder: at the limit", -1, t.holder(40000, 40000));
        due("holder: in line", -1, sitesAt(0, 0, 2, 2, 4, 4).holder(2, 2));
        due("holder: no site at the limit", -1, new SiteTriangles().holder(40000, -40000));
        dueRefused("holder", t);
        dueRefused("holder", new SiteTriangles());
        SiteTriangles wide = extremes();
        due("holder: on the long way through", 0, wide.holder(0.125, 0.125));
        due("holder: just above it", 1, wide.holder(0.125, 0.25));
    }

    private static void promise14Square() {
        SiteTriangles t = sitesAt(-30000, -30000, 3, 4);
        due("square: whole", 25, t.square(1, 0, 0));
        due("square: eighths", 25.0 / 64 + 1.0 / 64, t.square(1, 3.625, 3.875));
        due("square: none", 0, t.square(1, 3, 4));
        due("square: farthest", 9800000000.0, t.square(0, 40000, 40000));
        due("square: far with eighths", 69999.875 * 69999.875 + 1.0 / 64, t.square(0, 39999.875, -29999.875));
        due("square: at the limit", 39997.0 * 39997 + 40004.0 * 40004, t.square(1, 40000, -40000));
        due("square: no such site", -1, t.square(2, 0, 0));
        for (int number : WRONG_NUMBERS) {
            due("square: wrong site " + number, -1, t.square(number, 0, 0));
            due("square: wrong site and point " + number, -2, t.square(number, FAR, 0));
        }
        dueRefused("square", t);
        dueRefused("square", new SiteTriangles());
    }

    private static void promise15Tree() {
        SiteTriangles square = sitesAt(0, 0, 2, 2, 2, 0, 0, 2);
        dueTree("equally long ones", square, edge(0, 2), edge(0, 3), edge(1, 2));
        dueTree("from the shortest on", sitesAt(0, 0, 100, 0, 109, 0, 50, 60), edge(1, 2), edge(0, 3), edge(1, 3));
        dueTree("in line", sitesAt(0, 0, 10, 10, 20, 20, 5, 5, -7, -7), edge(0, 3), edge(1, 3), edge(0, 4), edge(1, 2));
        dueTree("one site", sitesAt(4, 4));
        dueTree("two sites", sitesAt(4, 4, -4, 9), edge(0, 1));
        dueTree("the lesser first", sitesAt(0, 10, 10, 0, 5, 0, 0, 0), edge(1, 2), edge(2, 3), edge(0, 3));
        SiteTriangles all = onCircle();
        due("tree: after the last", -1, all.tree(12));
        for (int number : WRONG_NUMBERS) {
            due("tree: wrong number " + number, -1, square.tree(number));
        }
        due("tree: last of most", true, fullest().tree(12) > 0);
        due("tree: after most", -1, fullest().tree(13));
    }

    private static void promise16Total() {
        SiteTriangles t = sitesAt(0, 0);
        due("total: one", 0, t.total());
        t.add(30, 40);
        due("total: two", 2500, t.total());
        t.add(30, 0);
        due("total: the longest left out", 900 + 1600, t.total());
        due("total: in line", 4 + 16, sitesAt(0, 0, 6, 0, 2, 0).total());
        due("total: beyond int", 2 * 3600000000L + 3600000000L, extremes().total());
        due("total: farthest two", 7200000000L, sitesAt(-30000, -30000, 30000, 30000).total());
    }

    private static void promise17Bounded() {
        due("bounded: alone", false, sitesAt(1, 1).bounded(0));
        SiteTriangles line = sitesAt(0, 0, 8, 0, 4, 0);
        for (int a = 0; a < 4; a++) {
            due("bounded: in line " + a, false, line.bounded(a));
        }
        SiteTriangles t = sitesAt(0, 0, 8, 0, 8, 8, 0, 8, 4, 0, 4, 1, 4, 4);
        for (int a = 0; a < 5; a++) {
            due("bounded: on the hull " + a, false, t.bounded(a));
        }
        due("bounded: just inside", true, t.bounded(5));
        due("bounded: inside", true, t.bounded(6));
        due("bounded: not there", false, t.bounded(7));
        for (int number : WRONG_NUMBERS) {
            due("bounded: wrong site " + number, false, t.bounded(number));
        }
    }

    /** What is answered to points that are never given is free, but that it is answered is not. */
    private static void noCallThrows() {
        int[] numbers = {Integer.MIN_VALUE, -1, 0, 13, 14, 31, 32, Integer.MAX_VALUE};
        double[] points = {Double.NaN, Double.POSITIVE_INFINITY, Double.NEGATIVE_INFINITY, Double.MAX_VALUE, Double.MIN_VALUE, 0.1};
        for (int p : numbers) {
            for (SiteTriangles t : new SiteTriangles[] {new SiteTriangles(), sitesAt(1, 1), sitesAt(0, 0, 2, 2, 4, 4), fullest()}) {
                t.triangle(p);
                t.degree(p);
                t.corner(p);
                t.tree(p);
                t.bounded(p);
                for (int q : numbers) {
                    t.beyond(p, q);
                    t.centre(p, q);
                    t.joined(p, q);
                }
                for (double far : points) {
                    t.nearest(far, 0);
                    t.nearest(0, far);
                    t.holder(far, 0);
                    t.holder(0, far);
                    t.square(p, far, 0);
                    t.square(p, 0, far);
                }
                for (int q : numbers) {
                    t.add(p, q);
                }
            }
        }
    }

    /** The example of README.md, line by line. */
    private static void readmeHolds() {
        SiteTriangles t = new SiteTriangles();
        due("README: add 0", 0, t.add(0, 0));
        due("README: add 1", 1, t.add(4, 0));
        due("README: add 2", 2, t.add(0, 3));
        due("README: add 1 again", 1, t.add(4, 0));
        due("README: triangle", 0 + 16 * 1 + 256 * 2, t.triangle(0));
        due("README: beyond", -1, t.beyond(0, 0));
        due("README: centre, x", 4, t.centre(0, 0));
        due("README: centre, y", 3, t.centre(0, 1));
        due("README: centre, d", 2, t.centre(0, 2));
        due("README: joined", true, t.joined(1, 2));
        due("README: corner", 1, t.corner(1));
        due("README: nearest", 1, t.nearest(3.5, 1));
        due("README: holder", 0, t.holder(1, 1));
        due("README: square", 0.25, t.square(2, 0.5, 3));
        due("README: tree", 0 + 16 * 2, t.tree(0));
        due("README: total", 9 + 16, t.total());
        due("README: bounded", false, t.bounded(0));
    }

    // ---- sites

    private static SiteTriangles sitesAt(int... xy) {
        SiteTriangles t = new SiteTriangles();
        for (int at = 0; at < xy.length; at += 2) {
            due("sites: put", at / 2, t.add(xy[at], xy[at + 1]));
        }
        return t;
    }

    private static SiteTriangles extremes() {
        return sitesAt(-30000, -30000, 30000, -30000, 30000, 30000, -30000, 30000);
    }

    /** 12 sites on one circle, from right to left of the top on, so numbered to the right. */
    private static SiteTriangles onCircle() {
        return sitesAt(5, 0, 4, -3, 3, -4, 0, -5, -3, -4, -4, -3, -5, 0, -4, 3, -3, 4, 0, 5, 3, 4, 4, 3);
    }

    /** Site 0 amid 13 sites on one circle round it. */
    private static SiteTriangles wheel() {
        return sitesAt(0, 0, 65, 0, 63, 16, 56, 33, 39, 52, 16, 63, -16, 63, -39, 52, -56, 33, -65, 0, -39, -52, 0, -65, 39, -52, 56, -33);
    }

    /** 14 sites, three corners, so the most triangles that there can be: 23. */
    private static SiteTriangles fullest() {
        SiteTriangles t = sitesAt(0, 0, -30000, -20000, 30000, -20000, 0, 30000);
        int[] ring = {5, 0, 4, 3, 3, 4, 0, 5, -3, 4, -4, 3, -5, 0, -3, -4, 0, -5, 3, -4};
        for (int at = 0; at < ring.length; at += 2) {
            t.add(ring[at], ring[at + 1]);
        }
        due("fullest: sites", 14, t.sites());
        return t;
    }

    private static int packed(int a, int b, int c) {
        return a + 16 * b + 256 * c;
    }

    private static int edge(int a, int b) {
        return a + 16 * b;
    }

    // ---- what is due

    private static void dueRefused(String call, SiteTriangles t) {
        double[] refused = {FAR, -FAR, 320000, -1e300};
        for (double far : refused) {
            due(call + ": x refused " + far, -2, asked(call, t, far, 0));
            due(call + ": y refused " + far, -2, asked(call, t, 0, far));
            due(call + ": both refused " + far, -2, asked(call, t, far, -far));
        }
    }

    private static double asked(String call, SiteTriangles t, double x, double y) {
        switch (call) {
            case "nearest": return t.nearest(x, y);
            case "holder": return t.holder(x, y);
            default: return t.square(0, x, y);
        }
    }

    private static void dueCentre(String what, SiteTriangles t, long x, long y, long d) {
        due("centre: " + what + ", x", x, t.centre(0, 0));
        due("centre: " + what + ", y", y, t.centre(0, 1));
        due("centre: " + what + ", d", d, t.centre(0, 2));
    }

    private static void dueCorners(String what, SiteTriangles t, int... want) {
        due("corners: " + what, want.length, t.corners());
        for (int k = 0; k < want.length; k++) {
            due("corner: " + what + ", " + k, want[k], t.corner(k));
        }
        due("corner: " + what + ", after the last", -1, t.corner(want.length));
        due("corner: " + what + ", before the first", -1, t.corner(-1));
    }

    private static void dueTree(String what, SiteTriangles t, int... want) {
        for (int k = 0; k < want.length; k++) {
            due("tree: " + what + ", " + k, want[k], t.tree(k));
        }
        due("tree: " + what + ", after the last", -1, t.tree(want.length));
    }

    private static void due(String what, long want, long got) {
        if (got != want) {
            wrong++;
            System.out.println(what + ": answered " + got + ", due is " + want);
        }
    }

    private static void due(String what, double want, double got) {
        if (got != want) {
            wrong++;
            System.out.println(what + ": answered " + got + ", due is " + want);
        }
    }

    private static void due(String what, boolean want, boolean got) {
        if (got != want) {
            wrong++;
            System.out.println(what + ": answered " + got + ", due is " + want);
        }
    }
}

import java.util.ArrayList;
import java.util.Arrays;
import java.util.List;

/**
 * Each sentence of the document that names a boundary case, in the document's order, with a test
 * of its own: the list in main tells which sentence it is, and the test's name what it looks at.
 */
public final class BoundaryTest {
    private static int wrong = 0;
    private static String sentence = "";

    /** The least step beyond the points that are taken. */
    private static final double FAR = 40000.125;
    private static final double[] REFUSED = {
        FAR, -FAR, 40001, -40001, 320000, -320000, 2147483648.0, -4294967296.0, 18446744073709551616.0, 1e300, -1e300,
    };

    public static void main(String[] args) {
        whatItIs();
        terms();
        promises1To3();
        promises4To7();
        promises8To11();
        promises12To14();
        promises15To17();
        if (wrong != 0) {
            System.exit(1);
        }
    }

    private static void whatItIs() {
        test("What it is: an object is used for at most 512 calls", BoundaryTest::the512thCallAnswers);
    }

    private static void terms() {
        test("Terms: sites are numbered in the order in which they were added", BoundaryTest::sitesAreNumberedAsAdded);
        test("Terms: at most 14", BoundaryTest::fourteenSitesAndNoMore);
        test("Terms: whole numbers x, y from -30000 to 30000", BoundaryTest::eachNumberAtItsEnds);
        test("Terms: no two the same pair", BoundaryTest::pairsThatDifferAndPairsThatDont);
        test("Terms: turn left above 0, right below 0", BoundaryTest::turnsBeyondInt);
        test("Terms: in line if it is 0", BoundaryTest::turnsOfOneNoughtAndLessOne);
        test("Terms: a circle is empty if no site lies strictly inside of it", BoundaryTest::siteInsideOnAndOutside);
        test("Terms: all sites on an empty circle, the one of least number first", BoundaryTest::fansOnOneCircle);
        test("Terms: numbered by the least, then the middle, then the greatest", BoundaryTest::orderOfTriangles);
        test("Terms: they cover the whole between the sites, side by side", BoundaryTest::trianglesCoverTheWhole);
        test("Terms: there are none if all sites are in line or less than three", BoundaryTest::noTriangles);
        test("Terms: an edge if some triangle has both as corners", BoundaryTest::edgesOfTriangles);
        test("Terms: if there are no triangles, no other site on the straight way between", BoundaryTest::edgesInLine);
        test("Terms: the length is the square of the distance", BoundaryTest::lengthsBeyondInt);
        test("Terms: of equally long ones in the order of lesser, then greater sites", BoundaryTest::equallyLongEdges);
        test("Terms: taken if it does not close a circle", BoundaryTest::edgesThatCloseACircle);
        test("Terms: a corner if not on the straight way between two other sites", BoundaryTest::onTheWayOrBeyondIt);
        test("Terms: and not strictly inside of (or on a side of) a triangle", BoundaryTest::insideOnOrOutsideOfASide);
        test("Terms: a point with one not from -40000 to 40000 is refused", BoundaryTest::pointsAtTheirEnds);
        test("Terms: the answer is -2, whatever else there is", BoundaryTest::refusedBeforeAllElse);
        test("Terms: nothing that is told of points needs rounding", BoundaryTest::pointsAreExact);
    }

    private static void promises1To3() {
        test("1: no sites", BoundaryTest::newObjectIsEmpty);
        test("2: the old one, if it is there", BoundaryTest::oldSiteAgain);
        test("2: -1 when x or y is not -30000 .. 30000", BoundaryTest::tooFarToAdd);
        test("2: -2 when it is new and there are 14", BoundaryTest::tooManyToAdd);
        test("3: how many sites there are", BoundaryTest::countOfSites);
    }

    private static void promises4To7() {
        test("4: how many triangles there are", BoundaryTest::countOfTriangles);
        test("5: the least one + 16 * the middle one + 256 * the greatest one", BoundaryTest::packedTriangles);
        test("5: -1 when there is none", BoundaryTest::noSuchTriangle);
        test("6: both other corners than its k-th one", BoundaryTest::beyondEachCorner);
        test("6: -1 when there is none", BoundaryTest::nothingBeyond);
        test("6: no triangle i", BoundaryTest::beyondNoTriangle);
        test("6: or k is not 0 .. 2", BoundaryTest::beyondNoCorner);
        test("7: in its lowest terms (no number above 1 divides all three)", BoundaryTest::centreInLowestTerms);
        test("7: d above 0", BoundaryTest::centreWithDAboveNought);
        test("7: 0 when there is no triangle i", BoundaryTest::centreOfNoTriangle);
        test("7: or which is not 0 .. 2", BoundaryTest::centreOfNoWhich);
    }

    private static void promises8To11() {
        test("8: false when one of them is not there", BoundaryTest::joinedToNone);
        test("8: or they are the same", BoundaryTest::joinedToItself);
        test("9: how many edges site a has", BoundaryTest::leastAndMostEdges);
        test("9: -1 when there is none", BoundaryTest::degreeOfNone);
        test("10: how many corners there are", BoundaryTest::countOfCorners);
        test("11: first the one with the least number, then going round to the left", BoundaryTest::cornersRound);
        test("11: if all sites are in line, the other end", BoundaryTest::endsOfALine);
        test("11: -1 when there is none", BoundaryTest::noSuchCorner);
    }

    private static void promises12To14() {
        test("12: of several the one with the least number", BoundaryTest::nearestOfSeveral);
        test("12: -1 when there is no site", BoundaryTest::nearestOfNone);
        test("12: -2 when the point is refused", BoundaryTest::nearestRefused);
        test("13: the triangle with the least number", BoundaryTest::holderOfSeveral);
        test("13: inside or on its sides", BoundaryTest::holderAtASide);
        test("13: -1 when none does", BoundaryTest::noHolder);
        test("13: -2 when the point is refused", BoundaryTest::holderRefused);
        test("14: the square of the distance", BoundaryTest::leastAndGreatestSquare);
        test("14: -1 when there is no site a", BoundaryTest::squareOfNone);
        test("14: -2 when the point is refused", BoundaryTest::squareRefused);
    }

    private static void promises15To17() {
        test("15: the lesser site + 16 * the greater one, in the order taken", BoundaryTest::packedTree);
        test("15: -1 when there is none", BoundaryTest::noSuchTreeEdge);
        test("16: the sum of the lengths of all edges of the tree", BoundaryTest::leastAndGreatTotals);
        test("17: ends on all sides", BoundaryTest::regionsThatEndAndThatDont);
        test("17: false when there is no site a", BoundaryTest::boundedOfNone);
    }

    // ---- what it is

    private static void the512thCallAnswers() {
        due("sites", 14, after511Calls().sites());
        due("triangles", 23, after511Calls().triangles());
        due("triangle", fullest().triangle(22), after511Calls().triangle(22));
        due("beyond", fullest().beyond(22, 0), after511Calls().beyond(22, 0));
        due("centre", fullest().centre(22, 1), after511Calls().centre(22, 1));
        due("joined", true, after511Calls().joined(1, 2));
        due("degree", fullest().degree(13), after511Calls().degree(13));
        due("corners", 3, after511Calls().corners());
        due("corner", 3, after511Calls().corner(2));
        due("nearest", 2, after511Calls().nearest(40000, 0.125));
        due("holder", fullest().holder(2, 2), after511Calls().holder(2, 2));
        due("square", 9.0 / 64, after511Calls().square(0, 0, 0.375));
        due("tree", fullest().tree(12), after511Calls().tree(12));
        due("total", fullest().total(), after511Calls().total());
        due("bounded", true, after511Calls().bounded(0));
        SiteTriangles t = new SiteTriangles();
        for (int call = 1; call < 512; call++) {
            due("add as call " + call, Math.min(call - 1, 12), t.add(Math.min(call - 1, 12), 0));
        }
        due("add as call 512", 13, t.add(12, 1));
    }

    /** The fullest object after 14 adds and 497 calls that it answers or refuses. */
    private static SiteTriangles after511Calls() {
        SiteTriangles t = fullest();
        for (int call = 15; call <= 511; call++) {
            switch (call % 4) {
                case 0: t.add(call, call); break;
                case 1: t.add(0, 0); break;
                case 2: t.nearest(call, FAR); break;
                default: t.centre(call % 23, 0); break;
            }
        }
        return t;
    }

    // ---- terms

    private static void sitesAreNumberedAsAdded() {
        int[] xy = {9, 9, -30000, 5, 30000, -5, 0, 0, 9, -9, -9, 9, 1, 30000, 1, -30000, 2, 0, 0, 2, -2, 0, 0, -2, 7, 3, 3, 7};
        SiteTriangles t = sitesAt(xy);
        for (int a = 0; a < 14; a++) {
            due("where site " + a + " is", 0.0, t.square(a, xy[2 * a], xy[2 * a + 1]));
        }
    }

    private static void fourteenSitesAndNoMore() {
        SiteTriangles t = inLine(13);
        due("the 14th", 13, t.add(100, 7));
        due("the 15th", -2, t.add(100, 8));
        due("the 15th again", -2, t.add(100, 8));
        due("how many", 14, t.sites());
        due("the 14th stays", 0.0, t.square(13, 100, 7));
        due("no site 14", -1.0, t.square(14, 100, 8));
    }

    private static void eachNumberAtItsEnds() {
        SiteTriangles t = new SiteTriangles();
        due("x at its lower end", 0, t.add(-30000, 1));
        due("x at its upper end", 1, t.add(30000, 2));
        due("y at its lower end", 2, t.add(3, -30000));
        due("y at its upper end", 3, t.add(4, 30000));
        due("x below", -1, t.add(-30001, 5));
        due("x above", -1, t.add(30001, 6));
        due("y below", -1, t.add(7, -30001));
        due("y above", -1, t.add(8, 30001));
        due("how many", 4, t.sites());
    }

    private static void pairsThatDifferAndPairsThatDont() {
        SiteTriangles t = sitesAt(3, 5, 5, 3, -3, 5, 3, -5, -3, -5, 3, 4, 2, 5, 3, 3, 5, 5);
        due("the same as the first", 0, t.add(3, 5));
        due("the same as the last", 8, t.add(5, 5));
        due("how many", 9, t.sites());
        // An entry that no site fills yet must not pass for a site at nought.
        due("nought on a new object", 0, new SiteTriangles().add(0, 0));
        SiteTriangles one = sitesAt(7, 7);
        due("nought after another", 1, one.add(0, 0));
        due("how many with nought", 2, one.sites());
    }

    private static void turnsBeyondInt() {
        SiteTriangles left = sitesAt(-30000, -30000, 30000, -30000, 30000, 30000);
        due("left: one triangle", 1, left.triangles());
        dueCorners("left", left, 0, 1, 2);
        SiteTriangles right = sitesAt(-30000, -30000, 30000, 30000, 30000, -30000);
        due("right: one triangle", 1, right.triangles());
        dueCorners("right", right, 0, 2, 1);
        due("right: it holds its middle", 0, right.holder(10000, -10000));
        due("right: nothing above it", -1, right.holder(-10000, 10000));
    }

    private static void turnsOfOneNoughtAndLessOne() {
        SiteTriangles one = sitesAt(-30000, -30000, 30000, 29999, -29999, -29999);
        due("turn 1: triangles", 1, one.triangles());
        dueCorners("turn 1", one, 0, 1, 2);
        SiteTriangles lessOne = sitesAt(-30000, -30000, 30000, 29999, 29999, 29998);
        due("turn -1: triangles", 1, lessOne.triangles());
        dueCorners("turn -1", lessOne, 0, 2, 1);
        SiteTriangles nought = sitesAt(-30000, -29999, 30000, 29999, 0, 0);
        due("turn 0: triangles", 0, nought.triangles());
        dueCorners("turn 0", nought, 0, 1);
    }

    private static void siteInsideOnAndOutside() {
        dueTriangles("inside, from 0", sitesAt(0, 0, 10, 0, 10, 10, 0, 9), 0x310, 0x321);
        dueTriangles("on it, from 0", sitesAt(0, 0, 10, 0, 10, 10, 0, 10), 0x210, 0x320);
        dueTriangles("outside, from 0", sitesAt(0, 0, 10, 0, 10, 10, 0, 11), 0x210, 0x320);
        dueTriangles("inside, from 10", sitesAt(10, 0, 10, 10, 0, 0, 0, 9), 0x310, 0x320);
        dueTriangles("on it, from 10", sitesAt(10, 0, 10, 10, 0, 0, 0, 10), 0x310, 0x320);
        dueTriangles("outside, from 10", sitesAt(10, 0, 10, 10, 0, 0, 0, 11), 0x210, 0x321);
        // Nearer to the circle than a millionth; products of the test go beyond 64 bits.
        dueTriangles("a hair inside", sitesAt(28219, 3707, 24262, -29124, -28362, -19985, -20639, 12625), 0x310, 0x321);
        dueTriangles("a hair outside", sitesAt(24262, -29124, -28362, -19985, -20639, 12625, 28219, 3707), 0x210, 0x320);
        dueTriangles("another hair inside", sitesAt(-102, -29836, -13781, 28054, -28132, 9689, -3071, -29518), 0x310, 0x321);
        dueTriangles("a hair outside, to the right", sitesAt(29924, -3741, -29456, 8097, 28816, -21234, -6237, 22192), 0x210, 0x310);
        dueTriangles("a hair inside, to the right", sitesAt(-29456, 8097, 28816, -21234, -6237, 22192, 29924, -3741), 0x310, 0x320);
    }

    private static void fansOnOneCircle() {
        dueTriangles("three", sitesAt(0, 0, 3, 3, 7, 0), 0x210);
        int[][] square = {{0, 0}, {2, 0}, {2, 2}, {0, 2}};
        for (int code = 0; code < 256; code++) {
            int[] order = {code & 3, code >> 2 & 3, code >> 4 & 3, code >> 6};
            if (Arrays.stream(order).distinct().count() == 4) {
                dueFan("square " + Arrays.toString(order), square[order[0]], square[order[1]], square[order[2]], square[order[3]]);
            }
        }
        dueFan("14 on a small circle", mixed(65, 16, 33, 25));
        dueFan("14 on a great circle", mixed(29725, 1635, 29680, 4920, 15275, 21804, 28757));
        // The circle's least site is 2, and 0 and 1 are not on it.
        SiteTriangles t = sitesAt(9, 9, -9, 9, 2, 0, 0, 2, 0, 0, 2, 2);
        due("a fan that is not from 0, its way through", true, t.joined(2, 3));
        due("a fan that is not from 0, the other way", false, t.joined(4, 5));
    }

    /** The 14 first of all sites on the circle round nought, in an order that is not round it. */
    private static int[][] mixed(int radius, int... legs) {
        List<int[]> sites = new ArrayList<>();
        for (int x = -radius; x <= radius; x++) {
            int y = (int) Math.round(Math.sqrt((double) radius * radius - (double) x * x));
            if ((long) x * x + (long) y * y == (long) radius * radius) {
                sites.add(new int[] {x, y});
                sites.add(new int[] {x, -y});
            }
        }
        int[][] found = new int[14][];
        for (int a = 0; a < 14; a++) {
            found[a] = sites.get((5 + a * 11) % 30);
        }
        return found;
    }

    /** All the sites are on one circle round some middle: the fan, by the angles round it. */
    private static void dueFan(String what, int[]... sites) {
        SiteTriangles t = new SiteTriangles();
        for (int a = 0; a < sites.length; a++) {
            due(what + ": put", a, t.add(sites[a][0], sites[a][1]));
        }
        double middleX = (double) t.centre(0, 0) / t.centre(0, 2);
        double middleY = (double) t.centre(0, 1) / t.centre(0, 2);
        Integer[] round = new Integer[sites.length];
        double[] angle = new double[sites.length];
        for (int a = 0; a < sites.length; a++) {
            round[a] = a;
            double turned = Math.atan2(sites[a][1] - middleY, sites[a][0] - middleX) - Math.atan2(sites[0][1] - middleY, sites[0][0] - middleX);
            angle[a] = a == 0 ? 0 : turned < 0 ? turned + 2 * Math.PI : turned;
        }
        Arrays.sort(round, (p, q) -> Double.compare(angle[p], angle[q]));
        int[] want = new int[sites.length - 2];
        for (int at = 0; at < want.length; at++) {
            int w = round[at + 1];
            int next = round[at + 2];
            want[at] = 16 * Math.min(w, next) + 256 * Math.max(w, next);
        }
        // All begin with 0, so their order is that of the middle ones, then of the greatest.
        int[] due = Arrays.stream(want).boxed().sorted((p, q) -> byCorners(p, q)).mapToInt(p -> p).toArray();
        dueTriangles(what, t, due);
    }

    private static void orderOfTriangles() {
        // The packed numbers are not in this order: 0, 1, 13 comes before 0, 2, 3.
        dueTriangles("rim round 0", wheel(), 0x210, 0xd10, 0x320, 0x430, 0x540, 0x650, 0x760, 0x870, 0x980, 0xa90, 0xba0, 0xcb0, 0xdc0);
        dueTriangles("two squares", sitesAt(0, 0, 2, 0, 2, 2, 0, 2, 4, 2, 4, 0), 0x210, 0x320, 0x421, 0x541);
        SiteTriangles t = fullest();
        for (int i = 1; i < 23; i++) {
            due("triangle " + i + " after the one before", true, byCorners(t.triangle(i - 1), t.triangle(i)) < 0);
        }
    }

    private static int byCorners(int p, int q) {
        for (int shift = 0; shift <= 8; shift += 4) {
            if ((p >> shift & 15) != (q >> shift & 15)) {
                return (p >> shift & 15) - (q >> shift & 15);
            }
        }
        return 0;
    }

    private static void trianglesCoverTheWhole() {
        dueCover("three sites", 0, 0, 5, 0, 0, 7);
        dueCover("four at the ends of the room", EXTREMES);
        dueCover("a site on a side", 0, 0, 8, 0, 8, 8, 0, 8, 4, 0);
        dueCover("fourteen, three corners", FULLEST);
        dueCover("fourteen, all but one on a circle", WHEEL);
        dueCover("nearly in line", -30000, -30000, 30000, 29999, -29999, -29999, 29999, 29998, 0, 0);
    }

    /** Sides are met from both sides or are the whole's own, and the areas sum up to the whole's. */
    private static void dueCover(String what, int... xy) {
        SiteTriangles t = sitesAt(xy);
        long parts = 0;
        for (int i = 0; i < t.triangles(); i++) {
            int p = t.triangle(i);
            parts += Math.abs(turn(xy, p & 15, p >> 4 & 15, p >> 8));
            for (int k = 0; k < 3; k++) {
                int other = t.beyond(i, k);
                boolean back = other < 0 || t.beyond(other, 0) == i || t.beyond(other, 1) == i || t.beyond(other, 2) == i;
                due(what + ": beyond " + i + ", " + k + " and back", true, back);
            }
        }
        long whole = 0;
        for (int k = 1; k + 1 < t.corners(); k++) {
            whole += turn(xy, t.corner(0), t.corner(k), t.corner(k + 1));
        }
        due(what + ": area", whole, parts);
        due(what + ": some area", true, whole > 0);
    }

    private static long turn(int[] xy, int a, int b, int c) {
        long x = xy[2 * a];
        long y = xy[2 * a + 1];
        return (xy[2 * b] - x) * (xy[2 * c + 1] - y) - (xy[2 * b + 1] - y) * (xy[2 * c] - x);
    }

    private static void noTriangles() {
        dueTriangles("no site", new SiteTriangles());
        dueTriangles("one site", sitesAt(3, 3));
        dueTriangles("two sites", sitesAt(3, 3, 4, 9));
        dueTriangles("three in line", sitesAt(3, 3, 4, 9, 2, -3));
        for (int[] step : STEPS) {
            SiteTriangles t = inLine(13, step);
            dueTriangles("13 in line", t);
            due("one more in line", 13, t.add(13 * step[0], 13 * step[1]));
            dueTriangles("14 in line", t);
            SiteTriangles off = inLine(13, step);
            due("one that is not", 13, step[0] == 0 ? off.add(1, 6 * step[1]) : off.add(6 * step[0], 6 * step[1] + 1));
            due("13 in line and one that is not", 12, off.triangles());
        }
    }

    private static void edgesOfTriangles() {
        SiteTriangles square = sitesAt(0, 0, 2, 0, 2, 2, 0, 2);
        dueEdges("square", square, 0x10, 0x20, 0x30, 0x21, 0x32);
        // A free way is no edge where there are triangles, nor is a way with a site on it.
        dueEdges("site on a side", sitesAt(0, 0, 8, 0, 4, 0, 4, 3), 0x20, 0x30, 0x21, 0x31, 0x32);
        int[] wheel = new int[26];
        for (int rim = 1; rim <= 13; rim++) {
            wheel[2 * rim - 2] = 16 * rim;
            wheel[2 * rim - 1] = rim < 13 ? rim + 16 * (rim + 1) : 1 + 16 * 13;
        }
        dueEdges("wheel", wheel(), wheel);
    }

    private static void edgesInLine() {
        dueEdges("no site", new SiteTriangles());
        dueEdges("one site", sitesAt(3, 3));
        dueEdges("two sites", sitesAt(-30000, 30000, 30000, -30000), 0x10);
        dueEdges("one between", sitesAt(-30000, 30000, 30000, -30000, 0, 0), 0x20, 0x21);
        dueEdges("one beyond", sitesAt(0, 0, 2, 1, 6, 3), 0x10, 0x21);
        dueEdges("one beyond on the other side", sitesAt(0, 0, 2, 1, -2, -1), 0x10, 0x20);
        dueEdges("beside an end", sitesAt(-30000, 7, 30000, 7, 29999, 7), 0x20, 0x21);
        for (int[] step : STEPS) {
            int[] want = new int[13];
            for (int a = 0; a < 13; a++) {
                want[a] = a + 16 * (a + 1);
            }
            dueEdges("14 in line", inLine(14, step), want);
        }
    }

    private static void lengthsBeyondInt() {
        due("just below 2^31", 2147395600L, sitesAt(-23170, 0, 23170, 0).total());
        due("at 2^31", 2147483648L, sitesAt(-16384, -16384, 16384, 16384).total());
        due("above 2^32", 4295165956L, sitesAt(-30000, 0, 30000, 26366).total());
        due("the longest", 7200000000L, sitesAt(-30000, -30000, 30000, 30000).total());
        // In 32 bits the long side would be below the short ones.
        dueTree("the two shorter ones", sitesAt(-30000, -30000, 30000, 30000, -30000, 30000), 0x20, 0x21);
        dueTree("2^31 after a short one", sitesAt(-16384, -16384, 16384, 16384, 16384, 16390), 0x21, 0x10);
    }

    private static void equallyLongEdges() {
        // By packed numbers 1, 2 (33) would come before 0, 3 (48).
        dueTree("by the lesser first", sitesAt(0, 0, 2, 2, 2, 0, 0, 2), 0x20, 0x30, 0x21);
        dueTree("by the greater then", sitesAt(0, 0, 5, 0, 0, 5, -5, 0, 0, -5), 0x10, 0x20, 0x30, 0x40);
        dueTree("the shorter before the earlier", sitesAt(0, 0, 3, 0, 3, 2, 0, 2), 0x30, 0x21, 0x10);
        dueTree("in line", sitesAt(4, 0, 2, 0, 0, 0, -2, 0), 0x10, 0x21, 0x32);
    }

    private static void edgesThatCloseACircle() {
        dueTree("the longest of three", sitesAt(0, 0, 3, 0, 0, 4), 0x10, 0x20);
        dueTree("the last of four equal sides", sitesAt(0, 0, 2, 0, 2, 2, 0, 2), 0x10, 0x30, 0x21);
        // Both ends of the last one have edges already, yet nothing is closed by it.
        dueTree("between two pairs", sitesAt(0, 0, 1, 0, 10, 1, 11, 0), 0x10, 0x32, 0x21);
        dueTree("between two pairs, the greater ones", sitesAt(0, 0, 1, 0, 11, 0, 10, 1), 0x10, 0x32, 0x31);
        dueTree("the last of a circle of four, before a longer one", sitesAt(0, 0, 10, 0, 10, 11, 0, 12, 100, 5), 0x10, 0x32, 0x21, 0x41);
        dueTree("none in line", inLine(4), 0x10, 0x21, 0x32);
    }

    private static void onTheWayOrBeyondIt() {
        dueCorners("between", sitesAt(0, 0, 4, 0, 2, 0), 0, 1);
        dueCorners("beyond", sitesAt(0, 0, 2, 0, 4, 0), 0, 2);
        dueCorners("before", sitesAt(0, 0, 2, 0, -4, 0), 1, 2);
        dueCorners("between, one below the way", sitesAt(0, 0, 4, 0, 4, 4, 2, -1), 0, 3, 1, 2);
        dueCorners("between on a side", sitesAt(2, 0, 0, 0, 4, 0, 4, 4), 1, 2, 3);
        dueCorners("in line with a side, beyond it", sitesAt(2, 0, 0, 0, 4, 4, 4, 0), 1, 3, 2);
        dueCorners("several between", sitesAt(0, 0, 30000, 0, 1, 0, 29999, 0, 15000, 0, 0, -1), 0, 5, 1);
    }

    private static void insideOnOrOutsideOfASide() {
        dueCorners("turn 1 inside", sitesAt(-30000, -30000, 30000, 29999, -30000, 30000, -29999, -29999), 0, 1, 2);
        dueCorners("on a side", sitesAt(-30000, -29999, 30000, 29999, -30000, 30000, 0, 0), 0, 1, 2);
        dueCorners("turn 1 outside", sitesAt(-30000, -30000, 30000, 29999, -30000, 30000, 29999, 29998), 0, 3, 1, 2);
        dueCorners("inside, and the least", sitesAt(1, 1, 0, 0, 3, 0, 0, 3), 1, 2, 3);
        // The triangle of sites round it need not be one of those with an empty circle.
        dueCorners("inside of a great triangle", sitesAt(FULLEST), 1, 2, 3);
        dueCorners("on sides of the whole", sitesAt(1, 0, 2, 1, 1, 2, 0, 1, 0, 0, 2, 2, 2, 0, 0, 2, 1, 1), 4, 6, 5, 7);
    }

    private static void pointsAtTheirEnds() {
        SiteTriangles t = sitesAt(EXTREMES);
        double[] ends = {40000, -40000, 39999.875, -39999.875};
        for (double end : ends) {
            due("nearest to x " + end, end < 0 ? 0 : 1, t.nearest(end, -1));
            due("nearest to y " + end, end < 0 ? 0 : 3, t.nearest(-1, end));
            due("holder at x " + end, -1, t.holder(end, 0));
            due("holder at y " + end, -1, t.holder(0, end));
            due("square at x " + end, (end + 30000) * (end + 30000), t.square(0, end, -30000));
            due("square at y " + end, (end + 30000) * (end + 30000), t.square(0, -30000, end));
        }
        for (double far : REFUSED) {
            dueRefused("one of four", sitesAt(EXTREMES), 0, far);
        }
    }

    private static void refusedBeforeAllElse() {
        for (double far : REFUSED) {
            dueRefused("no sites", new SiteTriangles(), 0, far);
            dueRefused("in line", inLine(14), 13, far);
            dueRefused("no such site", inLine(3), 3, far);
            dueRefused("a site below all", sitesAt(FULLEST), -1, far);
            dueRefused("a site above all", sitesAt(FULLEST), Integer.MAX_VALUE, far);
        }
        SiteTriangles t = sitesAt(FULLEST);
        String before = answers(t);
        dueRefused("no change", t, 0, FAR);
        due("all answers after it", before, answers(t));
    }

    private static void pointsAreExact() {
        SiteTriangles t = sitesAt(-30000, -30000, -30000, -29999);
        due("nearest, a tie far off", 0, t.nearest(40000, -29999.5));
        due("nearest, an eighth above the tie", 1, t.nearest(40000, -29999.375));
        SiteTriangles turned = sitesAt(-30000, -29999, -30000, -30000);
        due("nearest, the same tie, numbered the other way", 0, turned.nearest(40000, -29999.5));
        due("nearest, an eighth below the tie", 1, turned.nearest(40000, -29999.625));
        int[][] wide = {
            {-30000, -30000, 30000, 29999, -30000, 30000}, {30000, 29999, -30000, -30000, -30000, 30000},
            {-30000, 30000, -30000, -30000, 30000, 29999}, {-30000, 30000, 30000, 29999, -30000, -30000},
            {30000, 29999, -30000, 30000, -30000, -30000}, {-30000, -30000, -30000, 30000, 30000, 29999},
        };
        for (int[] xy : wide) {
            due("holder, turn of an eighth inside", 0, sitesAt(xy).holder(-29999.875, -29999.875));
            due("holder, turn of an eighth outside", -1, sitesAt(xy).holder(29999.875, 29998.875));
        }
        due("holder, on the long side", 0, sitesAt(-30000, -29999, 30000, 29999, -30000, 30000).holder(-15000, -14999.5));
        // In 64ths, of which none may be lost.
        due("square", (559999L * 559999 + 559993L * 559993) / 64.0, t.square(0, 39999.875, 39999.125));
    }

    // ---- promises 1 to 3

    private static void newObjectIsEmpty() {
        SiteTriangles t = new SiteTriangles();
        due("sites", 0, t.sites());
        due("triangles", 0, t.triangles());
        due("corners", 0, t.corners());
        due("total", 0, t.total());
        due("triangle", -1, t.triangle(0));
        due("beyond", -1, t.beyond(0, 0));
        due("centre", 0, t.centre(0, 2));
        due("joined", false, t.joined(0, 1));
        due("degree", -1, t.degree(0));
        due("corner", -1, t.corner(0));
        due("nearest", -1, t.nearest(0, 0));
        due("holder", -1, t.holder(0, 0));
        due("square", -1.0, t.square(0, 0, 0));
        due("tree", -1, t.tree(0));
        due("bounded", false, t.bounded(0));
        SiteTriangles used = sitesAt(FULLEST);
        due("sites of a new one beside a used one", 0, new SiteTriangles().sites());
        due("sites of the used one", 14, used.sites());
    }

    private static void oldSiteAgain() {
        int[] xy = FULLEST;
        SiteTriangles growing = new SiteTriangles();
        for (int a = 0; a < 14; a++) {
            due("new", a, growing.add(xy[2 * a], xy[2 * a + 1]));
            for (int old = 0; old <= a; old++) {
                due("old among " + (a + 1), old, growing.add(xy[2 * old], xy[2 * old + 1]));
            }
            due("how many", a + 1, growing.sites());
        }
        SiteTriangles t = sitesAt(xy);
        String before = answers(t);
        due("old first when full", 0, t.add(xy[0], xy[1]));
        due("old last when full", 13, t.add(xy[26], xy[27]));
        due("all answers after it", before, answers(t));
        due("old one of the ends of the room", 2, sitesAt(EXTREMES).add(30000, 30000));
    }

    private static void tooFarToAdd() {
        int[] far = {30001, -30001, 32768, -32768, 65536, -65536, Integer.MAX_VALUE, Integer.MIN_VALUE, Integer.MIN_VALUE + 1};
        SiteTriangles t = sitesAt(FULLEST);
        String before = answers(t);
        SiteTriangles few = sitesAt(EXTREMES);
        SiteTriangles none = new SiteTriangles();
        for (int number : far) {
            due("x " + number, -1, few.add(number, 30000));
            due("y " + number, -1, few.add(-30000, number));
            due("x and y " + number, -1, few.add(number, number));
            due("x " + number + " on a new object", -1, none.add(number, 0));
            due("y " + number + " on a new object", -1, none.add(0, number));
        }
        due("x too far when full", -1, t.add(30001, 0));
        due("y too far when full", -1, t.add(0, -30001));
        due("all answers after it when full", before, answers(t));
        due("all answers after it", answers(sitesAt(EXTREMES)), answers(few));
        due("sites after it", 0, none.sites());
        due("the next one's number", 0, none.add(0, 0));
    }

    private static void tooManyToAdd() {
        SiteTriangles t = sitesAt(FULLEST);
        String before = answers(t);
        due("a new one inside", -2, t.add(1, 1));
        due("the same new one again", -2, t.add(1, 1));
        due("a new one that would be a corner", -2, t.add(30000, 30000));
        due("all answers after it", before, answers(t));
        due("an old one after it", 13, t.add(FULLEST[26], FULLEST[27]));
        SiteTriangles almost = inLine(13);
        due("a new one when there are 13", 13, almost.add(0, 1));
        due("a new one when there are 14", -2, almost.add(0, 2));
    }

    private static void countOfSites() {
        SiteTriangles t = new SiteTriangles();
        due("none", 0, t.sites());
        for (int a = 0; a < 14; a++) {
            t.add(-30000 + a, 30000 - a * a);
            due("after the new one " + a, a + 1, t.sites());
            t.add(-30000, 30000);
            due("after an old one", a + 1, t.sites());
            t.add(30001, 0);
            due("after a refused one", a + 1, t.sites());
        }
        t.add(9, 9);
        due("after one too many", 14, t.sites());
    }

    // ---- promises 4 to 7

    private static void countOfTriangles() {
        int[] want = {0, 0, 0, 1, 3, 5, 7, 9, 11, 13, 15, 17, 19, 21, 23};
        SiteTriangles t = new SiteTriangles();
        due("none", 0, t.triangles());
        for (int a = 0; a < 14; a++) {
            t.add(INSIDE_OUT[2 * a], INSIDE_OUT[2 * a + 1]);
            due("with " + (a + 1), want[a + 1], t.triangles());
        }
        due("most on a circle", 12, sitesAt(flat(mixed(65))).triangles());
        due("both sides of a line", 4, sitesAt(0, 0, 4, 0, 8, 0, 4, 3, 4, -3).triangles());
    }

    private static void packedTriangles() {
        due("the least numbers", 0x210, sitesAt(9, 9, 3, 1, 4, 4).triangle(0));
        // The last three alone are on this side of the line of the others.
        SiteTriangles t = inLine(11, new int[] {0, 1});
        t.add(20000, 0);
        t.add(20000, 5);
        t.add(20005, 3);
        due("the greatest numbers", 0xdcb, t.triangle(t.triangles() - 1));
        due("corners numbered to the right", 0x210, sitesAt(0, 0, 0, 5, 5, 0).triangle(0));
    }

    private static void noSuchTriangle() {
        SiteTriangles[] objects = {new SiteTriangles(), inLine(14), sitesAt(0, 0, 5, 0, 0, 5), sitesAt(FULLEST)};
        int[] counts = {0, 0, 1, 23};
        for (int at = 0; at < counts.length; at++) {
            for (int i : notBelow(counts[at])) {
                due("triangle " + i + " of " + counts[at], -1, objects[at].triangle(i));
            }
            due("the last of " + counts[at], counts[at] > 0, objects[at].triangle(counts[at] - 1) >= 0);
        }
    }

    private static void beyondEachCorner() {
        SiteTriangles t = sitesAt(0, 0, 2, 0, 2, 2, 0, 2, 4, 2, 4, 0);
        int[][] want = {{2, 1, -1}, {-1, -1, 0}, {-1, 3, 0}, {-1, -1, 2}};
        for (int i = 0; i < 4; i++) {
            for (int k = 0; k < 3; k++) {
                due("beyond corner " + k + " of " + i, want[i][k], t.beyond(i, k));
            }
        }
        SiteTriangles round = wheel();
        due("beyond the middle one of 0, 1, 2", 2, round.beyond(0, 1));
        due("beyond the greatest one of 0, 1, 2", 1, round.beyond(0, 2));
        due("beyond the middle one of 0, 1, 13", 12, round.beyond(1, 1));
        due("beyond the greatest one of 0, 1, 13", 0, round.beyond(1, 2));
        due("beyond the middle one of 0, 12, 13", 1, round.beyond(12, 1));
        due("beyond the greatest one of 0, 12, 13", 11, round.beyond(12, 2));
    }

    private static void nothingBeyond() {
        SiteTriangles one = sitesAt(0, 0, 5, 0, 0, 5);
        for (int k = 0; k < 3; k++) {
            due("alone, corner " + k, -1, one.beyond(0, k));
        }
        SiteTriangles round = wheel();
        for (int i = 0; i < 13; i++) {
            due("outside of the rim, triangle " + i, -1, round.beyond(i, 0));
            due("inside of the rim, triangle " + i, true, round.beyond(i, 1) >= 0 && round.beyond(i, 2) >= 0);
        }
    }

    private static void beyondNoTriangle() {
        for (int k = 0; k < 3; k++) {
            SiteTriangles t = sitesAt(FULLEST);
            SiteTriangles none = new SiteTriangles();
            for (int i : notBelow(23)) {
                due("no triangle " + i + ", " + k, -1, t.beyond(i, k));
                due("no triangle " + i + ", " + k + " on a new object", -1, none.beyond(i, k));
            }
            due("no triangle in line", -1, inLine(14).beyond(0, k));
        }
    }

    private static void beyondNoCorner() {
        // Triangle 0 has another beyond each of its corners, so only k can be at fault.
        int[] xy = {0, 0, 4, 0, 2, 3, 2, -5, 7, 4, -3, 4};
        for (int k = 0; k < 3; k++) {
            due("beyond corner " + k, true, sitesAt(xy).beyond(0, k) > 0);
        }
        SiteTriangles t = sitesAt(xy);
        for (int k : notBelow(3)) {
            due("no corner " + k, -1, t.beyond(0, k));
        }
        due("no corner and no triangle", -1, t.beyond(-1, 3));
    }

    private static void centreInLowestTerms() {
        dueCentre("nought", sitesAt(5, 0, 0, 5, -5, 0), 0, 0, 1);
        dueCentre("whole", sitesAt(100, 200, 106, 200, 100, 208), 103, 204, 1);
        dueCentre("x and d alone share 2", sitesAt(0, 0, 4, 0, 0, 3), 4, 3, 2);
        dueCentre("y and d alone share 2", sitesAt(0, 0, 3, 0, 0, 4), 3, 4, 2);
        dueCentre("x and d alone share 6", sitesAt(0, 0, 4, 0, 2, 3), 12, 5, 6);
        dueCentre("x and y alone share 3", sitesAt(0, 0, 3, 0, 0, 3), 3, 3, 2);
        dueCentre("x nought, y not whole", sitesAt(-2, 0, 2, 0, 0, 3), 0, 5, 6);
        dueCentre("far outside", sitesAt(-30000, -30000, 30000, 29999, -29999, -29999), 7199700003L, -7199820001L, 2);
        dueCentre("far outside and whole", sitesAt(-30000, -29999, 30000, 29999, -29999, -29998), 1799880002L, -1799940000L, 1);
        dueCentre("the widest", sitesAt(-30000, -30000, 30000, -30000, 30000, 30000), 0, 0, 1);
    }

    private static void centreWithDAboveNought() {
        dueCentre("to the left", sitesAt(0, 0, 4, 0, 0, 3), 4, 3, 2);
        dueCentre("to the right", sitesAt(0, 0, 0, 3, 4, 0), 4, 3, 2);
        dueCentre("to the left, below nought", sitesAt(0, 0, -4, 0, 0, -3), -4, -3, 2);
        dueCentre("to the right, below nought", sitesAt(0, 0, 0, -3, -4, 0), -4, -3, 2);
        SiteTriangles t = sitesAt(FULLEST);
        for (int i = 0; i < 23; i++) {
            due("d of triangle " + i, true, t.centre(i, 2) > 0);
        }
    }

    private static void centreOfNoTriangle() {
        for (int which = 0; which < 3; which++) {
            SiteTriangles t = sitesAt(FULLEST);
            SiteTriangles none = new SiteTriangles();
            for (int i : notBelow(23)) {
                due("no triangle " + i + ", " + which, 0, t.centre(i, which));
                due("no triangle " + i + ", " + which + " on a new object", 0, none.centre(i, which));
            }
            due("no triangle in line", 0, inLine(14).centre(0, which));
        }
    }

    private static void centreOfNoWhich() {
        SiteTriangles t = sitesAt(0, 0, 4, 0, 0, 3);
        for (int which : notBelow(3)) {
            due("which " + which, 0, t.centre(0, which));
        }
        due("which 0", 4, t.centre(0, 0));
        due("which 2", 2, t.centre(0, 2));
    }

    // ---- promises 8 to 11

    private static void joinedToNone() {
        for (int a = 0; a < 4; a++) {
            SiteTriangles t = sitesAt(0, 0, 6, 0, 0, 6, 2, 2);
            SiteTriangles full = inLine(14);
            for (int b : notBelow(14)) {
                due(a + " and " + b, false, t.joined(a, b));
                due(b + " and " + a, false, t.joined(b, a));
                due(a + " and " + b + " of 14", false, full.joined(a, b));
                due(b + " and " + a + " of 14", false, full.joined(b, a));
            }
            for (int b = 4; b < 14; b++) {
                due(a + " and " + b + ", not yet there", false, t.joined(a, b));
            }
        }
        SiteTriangles none = new SiteTriangles();
        for (int a = -2; a < 15; a++) {
            due("none there: " + a, false, none.joined(a, 0) || none.joined(0, a) || none.joined(a, a + 1));
        }
    }

    private static void joinedToItself() {
        SiteTriangles t = sitesAt(FULLEST);
        SiteTriangles line = inLine(14);
        for (int a = 0; a < 14; a++) {
            due(a + " of a full object", false, t.joined(a, a));
            due(a + " in line", false, line.joined(a, a));
        }
        due("one site", false, sitesAt(3, 3).joined(0, 0));
        due("neither there", false, t.joined(14, 14));
        due("neither there, below", false, t.joined(-1, -1));
    }

    private static void leastAndMostEdges() {
        due("alone", 0, sitesAt(3, 3).degree(0));
        due("one of two", 1, sitesAt(3, 3, 4, 4).degree(1));
        due("the end of a line", 1, inLine(14).degree(13));
        due("amid a line", 2, inLine(14).degree(12));
        due("most", 13, wheel().degree(0));
        due("most, the last site", 13, sitesAt(hubLast()).degree(13));
        due("the last of the rim", 3, wheel().degree(13));
        due("all on a circle", 13, sitesAt(flat(mixed(65))).degree(0));
    }

    private static int[] hubLast() {
        // The two numbers beyond the end are noughts: the hub.
        return Arrays.copyOfRange(WHEEL, 2, 30);
    }

    private static void degreeOfNone() {
        SiteTriangles[] objects = {new SiteTriangles(), sitesAt(3, 3), sitesAt(0, 0, 6, 0, 0, 6), sitesAt(FULLEST)};
        int[] counts = {0, 1, 3, 14};
        for (int at = 0; at < counts.length; at++) {
            for (int a : notBelow(counts[at])) {
                due("site " + a + " of " + counts[at], -1, objects[at].degree(a));
            }
        }
    }

    private static void countOfCorners() {
        SiteTriangles circle = new SiteTriangles();
        due("no site", 0, circle.corners());
        int[] xy = flat(mixed(65));
        for (int a = 0; a < 14; a++) {
            circle.add(xy[2 * a], xy[2 * a + 1]);
            due((a + 1) + " on a circle", a + 1, circle.corners());
        }
        for (int n = 2; n <= 14; n++) {
            due(n + " in line", 2, inLine(n).corners());
        }
        SiteTriangles few = sitesAt(Arrays.copyOf(xy, 22));
        due("11 on a circle", 11, few.corners());
        few.add(-30000, -20000);
        few.add(30000, -20000);
        few.add(0, 30000);
        due("11 on a circle and three round it", 3, few.corners());
        due("three round 11 others", 3, sitesAt(FULLEST).corners());
    }

    private static void cornersRound() {
        dueCorners("one", sitesAt(5, 5), 0);
        dueCorners("two", sitesAt(5, 5, 1, 1), 0, 1);
        dueCorners("three to the left", sitesAt(0, 0, 4, 0, 0, 4), 0, 1, 2);
        dueCorners("three to the right", sitesAt(0, 0, 0, 4, 4, 0), 0, 2, 1);
        dueCorners("0 and 1 are inside", sitesAt(2, 2, 3, 3, 9, 9, 0, 9, 9, 0, 0, 0), 2, 3, 5, 4);
        dueCorners("0 is on a side", sitesAt(4, 0, 8, 8, 8, 0, 0, 8, 0, 0), 1, 3, 4, 2);
        dueCorners("0 is no corner any more", sitesAt(0, 0, 5, 1, 1, 5, -9, -9), 1, 2, 3);
        dueCorners("0 is inside of seven", sitesAt(26, -13, 39, 52, -16, 63, 63, 16, -63, -16, -39, -52, 16, -63, 52, -39), 1, 2, 4, 5, 6, 7, 3);
        dueCorners("0 is on their circle", sitesAt(65, 0, 39, 52, -16, 63, 63, 16, -63, -16, -39, -52, 16, -63, 52, -39), 0, 3, 1, 2, 4, 5, 6, 7);
    }

    private static void endsOfALine() {
        dueCorners("0 is an end", sitesAt(0, 0, 5, 5, 9, 9), 0, 2);
        dueCorners("0 and 1 are no ends", sitesAt(0, 0, 10, 10, 20, 20, 5, 5, -7, -7), 2, 4);
        dueCorners("the ends are the last", sitesAt(0, 0, 0, 1, 0, -1, 0, 30000, 0, -30000), 3, 4);
        for (int[] step : STEPS) {
            dueCorners("14 in line", inLine(14, step), 0, 13);
        }
        SiteTriangles t = sitesAt(0, 0, 10, 10, 5, 5);
        t.add(5, 6);
        dueCorners("in line no more", t, 0, 1, 3);
    }

    private static void noSuchCorner() {
        SiteTriangles[] objects = {new SiteTriangles(), sitesAt(3, 3), inLine(14), sitesAt(FULLEST), sitesAt(flat(mixed(65)))};
        int[] counts = {0, 1, 2, 3, 14};
        for (int at = 0; at < counts.length; at++) {
            for (int k : notBelow(counts[at])) {
                due("corner " + k + " of " + counts[at], -1, objects[at].corner(k));
            }
            due("the last of " + counts[at], counts[at] > 0, objects[at].corner(counts[at] - 1) >= 0);
        }
    }

    // ---- promises 12 to 14

    private static void nearestOfSeveral() {
        due("all of 14", 0, sitesAt(flat(mixed(65))).nearest(0, 0));
        due("two of three", 0, sitesAt(10, 0, 0, 30, -10, 0).nearest(0, 0));
        due("the later two", 1, sitesAt(0, 30, 10, 0, -10, 0).nearest(0, 0));
        due("the last two", 2, sitesAt(0, 30, 30, 0, 10, 0, -10, 0).nearest(0, 0));
        due("a later one an eighth nearer", 1, sitesAt(10, 0, -10, 0).nearest(-0.125, 0));
        due("an earlier one an eighth nearer", 0, sitesAt(10, 0, -10, 0).nearest(0.125, 0));
        due("at the last of 14", 13, inLine(14).nearest(13, 26));
    }

    private static void nearestOfNone() {
        SiteTriangles t = new SiteTriangles();
        double[] ends = {0, 40000, -40000, 0.125};
        for (double x : ends) {
            for (double y : ends) {
                due("at " + x + ", " + y, -1, t.nearest(x, y));
            }
        }
        t.add(30001, 0);
        due("after a refused add", -1, t.nearest(0, 0));
        t.add(-30000, -30000);
        due("with one site, far from it", 0, t.nearest(40000, 40000));
    }

    private static void nearestRefused() {
        for (double far : REFUSED) {
            due("x " + far, -2, sitesAt(FULLEST).nearest(far, 0));
            due("y " + far, -2, sitesAt(FULLEST).nearest(0, far));
            due("both " + far, -2, sitesAt(FULLEST).nearest(far, far));
            due("both ways " + far, -2, sitesAt(FULLEST).nearest(-far, far));
            due("x " + far + " on a new object", -2, new SiteTriangles().nearest(far, 0));
            due("y " + far + " on a new object", -2, new SiteTriangles().nearest(0, far));
        }
    }

    private static void holderOfSeveral() {
        SiteTriangles t = sitesAt(0, 0, 8, 0, 8, 8, 0, 8);
        due("on the side between 0 and 1", 0, t.holder(4, 4));
        due("at a corner of both", 0, t.holder(8, 8));
        due("at a corner of the later", 1, t.holder(0, 8));
        SiteTriangles round = wheel();
        due("at the corner of all 13", 0, round.holder(0, 0));
        due("on the side between 0 and 1 of 13", 0, round.holder(32.5, 0));
        due("on the side between 1 and 12", 1, round.holder(28, -16.5));
        due("on the side between 11 and 12", 11, round.holder(19.5, -26));
        due("inside of 1 alone", 1, round.holder(60, -10));
        due("inside of 12 alone", 12, round.holder(31.5, -28));
    }

    private static void holderAtASide() {
        SiteTriangles left = sitesAt(0, 0, 8, 0, 0, 8);
        SiteTriangles right = sitesAt(0, 0, 0, 8, 8, 0);
        double[][] held = {{0, 0}, {8, 0}, {0, 8}, {4, 0}, {0, 4}, {4, 4}, {0.125, 7.875}, {0.125, 0.125}, {7.75, 0.125}, {2, 3}};
        double[][] missed = {{-0.125, 0}, {0, -0.125}, {8.125, 0}, {0, 8.125}, {4, 4.125}, {4.125, 4}, {4, -0.125}, {-0.125, 4}, {9, -1}, {-1, 9}, {-1, -1}};
        for (double[] p : held) {
            due("held at " + p[0] + ", " + p[1], 0, left.holder(p[0], p[1]));
            due("held at " + p[0] + ", " + p[1] + ", to the right", 0, right.holder(p[0], p[1]));
        }
        for (double[] p : missed) {
            due("missed at " + p[0] + ", " + p[1], -1, left.holder(p[0], p[1]));
            due("missed at " + p[0] + ", " + p[1] + ", to the right", -1, right.holder(p[0], p[1]));
        }
    }

    private static void noHolder() {
        due("no site", -1, new SiteTriangles().holder(0, 0));
        due("at the one site", -1, sitesAt(3, 3).holder(3, 3));
        due("between two sites", -1, sitesAt(0, 0, 4, 4).holder(2, 2));
        due("at a site in line", -1, inLine(14).holder(3, 6));
        due("between sites in line", -1, inLine(14).holder(3.5, 7));
        due("outside of the ends of the room", -1, sitesAt(EXTREMES).holder(30000.125, 0));
        due("at the ends of the room", 0, sitesAt(EXTREMES).holder(30000, 0));
        due("in line with a side", -1, sitesAt(EXTREMES).holder(40000, -30000));
    }

    private static void holderRefused() {
        for (double far : REFUSED) {
            due("x " + far, -2, sitesAt(FULLEST).holder(far, 0));
            due("y " + far, -2, sitesAt(FULLEST).holder(0, far));
            due("both " + far, -2, sitesAt(FULLEST).holder(far, far));
            due("both ways " + far, -2, sitesAt(FULLEST).holder(-far, far));
            due("x " + far + " in line", -2, inLine(14).holder(far, 0));
            due("y " + far + " on a new object", -2, new SiteTriangles().holder(0, far));
        }
    }

    private static void leastAndGreatestSquare() {
        SiteTriangles t = sitesAt(-30000, -30000, 3, 4);
        due("nought", 0.0, t.square(1, 3, 4));
        due("least", 1.0 / 64, t.square(1, 3.125, 4));
        due("least both ways", 2.0 / 64, t.square(1, 2.875, 4.125));
        due("greatest", 9800000000.0, t.square(0, 40000, 40000));
        due("greatest from the other end", 9800000000.0, sitesAt(30000, 30000).square(0, -40000, -40000));
    }

    private static void squareOfNone() {
        SiteTriangles[] objects = {new SiteTriangles(), sitesAt(3, 3), sitesAt(FULLEST)};
        int[] counts = {0, 1, 14};
        for (int at = 0; at < counts.length; at++) {
            for (int a : notBelow(counts[at])) {
                due("site " + a + " of " + counts[at], -1.0, objects[at].square(a, 40000, -40000));
            }
        }
    }

    private static void squareRefused() {
        for (double far : REFUSED) {
            for (int a : new int[] {0, 13, 14, -1, Integer.MIN_VALUE}) {
                SiteTriangles t = sitesAt(FULLEST);
                due("site " + a + ", x " + far, -2.0, t.square(a, far, 0));
                due("site " + a + ", y " + far, -2.0, t.square(a, 0, far));
                due("site " + a + ", both " + far, -2.0, t.square(a, far, far));
                due("site " + a + ", both ways " + far, -2.0, t.square(a, -far, far));
                due("site " + a + " of none, x " + far, -2.0, new SiteTriangles().square(a, far, 0));
            }
        }
    }

    // ---- promises 15 to 17

    private static void packedTree() {
        dueTree("two, the later below", sitesAt(4, 4, -4, -9), 0x10);
        dueTree("the greatest numbers", inLine(14), 0x10, 0x21, 0x32, 0x43, 0x54, 0x65, 0x76, 0x87, 0x98, 0xa9, 0xba, 0xcb, 0xdc);
        dueTree("from the shortest on", sitesAt(0, 0, 100, 0, 109, 0, 50, 60), 0x21, 0x30, 0x31);
        dueTree("the last ones first", sitesAt(0, 0, 9, 0, 17, 0, 24, 0, 30, 0), 0x43, 0x32, 0x21, 0x10);
    }

    private static void noSuchTreeEdge() {
        SiteTriangles[] objects = {new SiteTriangles(), sitesAt(3, 3), sitesAt(3, 3, 4, 4), sitesAt(0, 0, 5, 0, 0, 5), inLine(14), sitesAt(FULLEST)};
        int[] counts = {0, 0, 1, 2, 13, 13};
        for (int at = 0; at < counts.length; at++) {
            for (int k : notBelow(counts[at])) {
                due("edge " + k + " of " + counts[at], -1, objects[at].tree(k));
            }
            due("the last of " + counts[at], counts[at] > 0, objects[at].tree(counts[at] - 1) >= 0);
        }
    }

    private static void leastAndGreatTotals() {
        due("no site", 0, new SiteTriangles().total());
        due("one site", 0, sitesAt(-30000, 30000).total());
        due("two sites side by side", 1, sitesAt(0, 0, 0, 1).total());
        due("two farthest", 7200000000L, sitesAt(-30000, -30000, 30000, 30000).total());
        due("the ends of the room", 10800000000L, sitesAt(EXTREMES).total());
        SiteTriangles t = sitesAt(0, 0, 30000, 0);
        t.add(10000, 0);
        due("less with one more between", 500000000L, t.total());
        t.add(10000, 0);
        t.add(30001, 0);
        due("the same after an old and a refused one", 500000000L, t.total());
        due("14 in line", 13 * 5, inLine(14).total());
    }

    private static void regionsThatEndAndThatDont() {
        due("alone", false, sitesAt(3, 3).bounded(0));
        dueUnbounded("two", sitesAt(3, 3, 4, 4), 2);
        dueUnbounded("three in line", sitesAt(0, 0, 8, 0, 4, 0), 3);
        for (int[] step : STEPS) {
            dueUnbounded("14 in line", inLine(14, step), 14);
        }
        dueUnbounded("corners", sitesAt(EXTREMES), 4);
        dueUnbounded("all on a circle", sitesAt(flat(mixed(65))), 14);
        due("on a side", false, sitesAt(-30000, -29999, 30000, 29999, -30000, 30000, 0, 0).bounded(3));
        due("turn 1 inside", true, sitesAt(-30000, -30000, 30000, 29999, -30000, 30000, -29999, -29999).bounded(3));
        due("turn 1 outside", false, sitesAt(-30000, -30000, 30000, 29999, -30000, 30000, 29999, 29998).bounded(3));
        due("amid the room", true, sitesAt(-30000, -30000, 30000, -30000, 30000, 30000, -30000, 30000, 0, 0).bounded(4));
        SiteTriangles t = wheel();
        due("the hub", true, t.bounded(0));
        due("the last of the rim", false, t.bounded(13));
        SiteTriangles three = sitesAt(1, 1, 0, 0, 9, 0);
        due("not yet", false, three.bounded(0));
        three.add(0, 9);
        due("by one more", true, three.bounded(0));
    }

    private static void boundedOfNone() {
        SiteTriangles[] objects = {new SiteTriangles(), sitesAt(3, 3), sitesAt(0, 0, 6, 0, 0, 6, 1, 1), sitesAt(FULLEST)};
        int[] counts = {0, 1, 4, 14};
        for (int at = 0; at < counts.length; at++) {
            for (int a : notBelow(counts[at])) {
                due("site " + a + " of " + counts[at], false, objects[at].bounded(a));
            }
        }
        // A site at nought would be bounded here, but there is none.
        SiteTriangles round = sitesAt(Arrays.copyOfRange(WHEEL, 2, 28));
        for (int a : notBelow(13)) {
            due("site " + a + " of 13 round nought", false, round.bounded(a));
        }
    }

    // ---- sites

    private static final int[] EXTREMES = {-30000, -30000, 30000, -30000, 30000, 30000, -30000, 30000};

    /** 14 sites, of which three are corners, so that there are 23 triangles, the most there can be. */
    private static final int[] FULLEST = {
        0, 0, -30000, -20000, 30000, -20000, 0, 30000,
        5, 0, 4, 3, 3, 4, 0, 5, -3, 4, -4, 3, -5, 0, -3, -4, 0, -5, 3, -4,
    };

    /** Three corners, then one site after the other inside, each off all sides there are. */
    private static final int[] INSIDE_OUT = {
        -30000, -20000, 30000, -20000, 0, 30000,
        0, 0, 5, 1, 4, 7, 3, 19, -6, 4, -14, 3, -35, 2, -3, -41, 1, -75, 9, -400, 1000, 77,
    };

    /** Site 0 amid 13 sites that stand on one circle round it in their order. */
    private static final int[] WHEEL = {
        0, 0, 65, 0, 63, 16, 56, 33, 39, 52, 16, 63, -16, 63, -39, 52, -56, 33, -65, 0, -39, -52, 0, -65, 39, -52, 56, -33,
    };

    /** Lines up, down, slanted, and each way. */
    private static final int[][] STEPS = {{1, 0}, {-1, 0}, {0, 1}, {0, -1}, {1, 2}, {-3, 1}, {2300, -2300}, {-2300, -2299}};

    private static SiteTriangles fullest() {
        return sitesAt(FULLEST);
    }

    private static SiteTriangles wheel() {
        return sitesAt(WHEEL);
    }

    private static SiteTriangles inLine(int count) {
        return inLine(count, new int[] {1, 2});
    }

    private static SiteTriangles inLine(int count, int[] step) {
        SiteTriangles t = new SiteTriangles();
        for (int a = 0; a < count; a++) {
            due("put in line", a, t.add(a * step[0], a * step[1]));
        }
        return t;
    }

    private static SiteTriangles sitesAt(int... xy) {
        SiteTriangles t = new SiteTriangles();
        for (int at = 0; at < xy.length; at += 2) {
            due("put", at / 2, t.add(xy[at], xy[at + 1]));
        }
        return t;
    }

    private static int[] flat(int[][] sites) {
        return Arrays.stream(sites).flatMapToInt(Arrays::stream).toArray();
    }

    /** Numbers of nothing where there are count of them, some of which wrap round in four or five bits. */
    private static int[] notBelow(int count) {
        return new int[] {
            -1, -2, -16, -31, -32, -64, -256, Integer.MIN_VALUE, Integer.MIN_VALUE + 1, Integer.MIN_VALUE + 2,
            count, count + 1, count + 2, count + 14, count + 16, 32, 33, 34, 35, 64, 65, 128, 256, 512, 4096, 65536, 1 << 30, Integer.MAX_VALUE - 1, Integer.MAX_VALUE,
        };
    }

    /** All that depends on the sites, but for what can be told from the rest. */
    private static String answers(SiteTriangles t) {
        StringBuilder all = new StringBuilder();
        all.append(t.sites()).append(' ').append(t.triangles()).append(' ').append(t.corners()).append(' ').append(t.total());
        for (int i = 0; i < 24; i++) {
            all.append(' ').append(t.triangle(i)).append(' ').append(t.beyond(i, i % 3)).append(' ').append(t.centre(i, i % 3));
        }
        for (int a = 0; a < 15; a++) {
            all.append(' ').append(t.degree(a)).append(' ').append(t.corner(a)).append(' ').append(t.tree(a));
            all.append(' ').append(t.bounded(a)).append(' ').append(t.square(a, 0, 0));
        }
        return all.toString();
    }

    // ---- what is due

    private static void test(String text, Runnable body) {
        sentence = text;
        try {
            body.run();
        } catch (RuntimeException thrown) {
            report("a call threw " + thrown);
        }
    }

    /** In hexadecimal numbers the digits are, from the right, the least, middle and greatest one. */
    private static void dueTriangles(String what, SiteTriangles t, int... want) {
        due(what + ": triangles", want.length, t.triangles());
        for (int i = 0; i < want.length; i++) {
            due(what + ": triangle " + i, want[i], t.triangle(i));
        }
        due(what + ": after the last triangle", -1, t.triangle(want.length));
    }

    /** The edges that are due, each as the lesser site + 16 * the greater one, and no others. */
    private static void dueEdges(String what, SiteTriangles t, int... want) {
        int[] degrees = new int[14];
        for (int a = 0; a < t.sites(); a++) {
            for (int b = a + 1; b < t.sites(); b++) {
                int edge = a + 16 * b;
                boolean wanted = Arrays.stream(want).anyMatch(e -> e == edge);
                due(what + ": joined " + a + ", " + b, wanted, t.joined(a, b));
                due(what + ": joined " + b + ", " + a, wanted, t.joined(b, a));
                degrees[a] += wanted ? 1 : 0;
                degrees[b] += wanted ? 1 : 0;
            }
        }
        for (int a = 0; a < t.sites(); a++) {
            due(what + ": degree of " + a, degrees[a], t.degree(a));
        }
    }

    private static void dueCentre(String what, SiteTriangles t, long x, long y, long d) {
        due(what + ": x", x, t.centre(0, 0));
        due(what + ": y", y, t.centre(0, 1));
        due(what + ": d", d, t.centre(0, 2));
    }

    private static void dueCorners(String what, SiteTriangles t, int... want) {
        due(what + ": corners", want.length, t.corners());
        for (int k = 0; k < want.length; k++) {
            due(what + ": corner " + k, want[k], t.corner(k));
        }
        due(what + ": after the last corner", -1, t.corner(want.length));
    }

    private static void dueTree(String what, SiteTriangles t, int... want) {
        for (int k = 0; k < want.length; k++) {
            due(what + ": tree " + k, want[k], t.tree(k));
        }
        due(what + ": after the last of the tree", -1, t.tree(want.length));
    }

    private static void dueUnbounded(String what, SiteTriangles t, int count) {
        for (int a = 0; a < count; a++) {
            due(what + ": bounded " + a, false, t.bounded(a));
        }
    }

    private static void dueRefused(String what, SiteTriangles t, int a, double far) {
        due(what + ": nearest, x " + far, -2, t.nearest(far, 0));
        due(what + ": nearest, y " + far, -2, t.nearest(0, far));
        due(what + ": holder, x " + far, -2, t.holder(far, 0));
        due(what + ": holder, y " + far, -2, t.holder(0, far));
        due(what + ": square of " + a + ", x " + far, -2.0, t.square(a, far, 0));
        due(what + ": square of " + a + ", y " + far, -2.0, t.square(a, 0, far));
    }

    private static void due(String what, Object want, Object got) {
        if (!want.equals(got)) {
            report(what + " answered " + got + ", due is " + want);
        }
    }

    private static void due(String what, long want, long got) {
        if (got != want) {
            report(what + " answered " + got + ", due is " + want);
        }
    }

    private static void due(String what, double want, double got) {
        if (got != want) {
            report(what + " answered " + got + ", due is " + want);
        }
    }

    private static void report(String fault) {
        wrong++;
        System.out.println(sentence + " | " + fault);
    }
}

import java.util.Random;

/**
 * The edges that the document names for a QUERY and one WINDOW, or two QUERIES (promises 17 to 19, 24,
 * 26, 31 and "DISTANCE", "BOUNDS", "LOOKED AT", "WAY" and "LEAN" of "Terms"), sentence by sentence.
 */
public final class EdgeFitTest {
    private static final int LEAST = Integer.MIN_VALUE;
    private static final int MOST = Integer.MAX_VALUE;

    private interface Call {
        int of(WarpDesk desk, int query, int s);
    }

    public static void main(String[] args) {
        noSuchQueryOrWindow();
        distanceOfTwoReadings();
        distanceAtTheEdgeOfTheBand();
        distanceWithTheWidestBands();
        distancePlainAndSquare();
        distanceOfTheGreatestReadings();
        distanceOfRowsEachAtItsLevel();
        distanceIsTheLeastOfAllWays();
        boundEnds();
        boundOverAndBackAtTheEnvelope();
        boundOverAndBackAtTheEdgeOfTheBand();
        boundsAreNoMoreThanTheDistance();
        boundOfNoSuchWhat();
        lookByEnds();
        lookByOverAndBack();
        lookByLate();
        lookByLast();
        lookWithAnyLimit();
        lookLaysCellsOfTheBand();
        lookOfNoSuchOnes();
        wayOfAlikeOnes();
        wayTiesAndEdges();
        wayIsALegalOne();
        wayOfNoSuchPlace();
        alikeOfTwoQueries();
        alikeOfNoSuchOnes();
        leanOfWays();
        leanOfNoSuchWhat();
        Due.end();
    }

    private static String row(int... readings) {
        StringBuilder text = new StringBuilder();
        for (int reading : readings) {
            text.append(' ').append(reading);
        }
        return text.toString();
    }

    private static WarpDesk pair(String query, String window) {
        return Due.desk("series " + window + "; query a " + query + ";");
    }

    // ---- which QUERIES and WINDOWS there are

    /** WINDOWS of the QUERY 0: 0, 1, 5, 6; of the QUERY 1 (three READINGS): 0, 5. */
    private static void noSuchQueryOrWindow() {
        Call[] calls = {(d, q, s) -> d.distance(q, s), (d, q, s) -> d.bound(q, s, 0), (d, q, s) -> d.bound(q, s, 1),
            (d, q, s) -> d.bound(q, s, 2), (d, q, s) -> d.look(q, s, 5, 0), (d, q, s) -> d.look(q, s, 5, 1),
            (d, q, s) -> d.look(q, s, MOST, 1), (d, q, s) -> d.way(q, s, -1), (d, q, s) -> d.way(q, s, 0),
            (d, q, s) -> d.lean(q, s, 0), (d, q, s) -> d.lean(q, s, 1), (d, q, s) -> d.rank(q, s)};
        for (int c = 0; c < calls.length; c++) {
            Due.says("17, 18, 19, 24, 31, 33: NONE: no such ones; call " + c);
            WarpDesk desk = Due.desk("series 1 2 3 gap gap 4 5 6; query a 1 2; query b 1 2 3;");
            for (int s = -2; s <= 9; s++) {
                boolean isOfTwo = s == 0 || s == 1 || s == 5 || s == 6;
                boolean isOfThree = s == 0 || s == 5;
                Due.is("WINDOW " + s + " of two is there", calls[c].of(desk, 0, s) >= 0, isOfTwo);
                Due.is("WINDOW " + s + " of three is there", calls[c].of(desk, 1, s) >= 0, isOfThree);
                if (!isOfTwo) {
                    Due.is("WINDOW " + s, calls[c].of(desk, 0, s), -1);
                }
                if (!isOfThree) {
                    Due.is("WINDOW " + s, calls[c].of(desk, 1, s), -1);
                }
            }
            for (int wrong : new int[] {-1, 2, 5, MOST, LEAST}) {
                Due.is("QUERY " + wrong, calls[c].of(desk, wrong, 0), -1);
            }
            for (int wrong : new int[] {8, 160, 256, -256, MOST, MOST - 1, LEAST}) {
                Due.is("WINDOW " + wrong, calls[c].of(desk, 0, wrong), -1);
                Due.is("QUERY and WINDOW " + wrong, calls[c].of(desk, wrong, wrong), -1);
            }
            Due.is("no QUERY told", calls[c].of(Due.desk("series 1 2 3;"), 0, 0), -1);
            Due.is("no SERIES told", calls[c].of(Due.desk("query a 1 2;"), 0, 0), -1);
            Due.is("a SERIES one short", calls[c].of(Due.desk("series 1 2; query a 1 2 3;"), 0, 0), -1);
            Due.is("a SERIES just long enough", calls[c].of(Due.desk("series 1 2 3; query a 1 2 3;"), 0, 0) >= 0, true);
            WarpDesk full = Due.desk("series" + " 1".repeat(160) + "; query a" + " 2".repeat(16) + ";");
            Due.is("the last WINDOW of 160", calls[c].of(full, 0, 144) >= 0, true);
            Due.is("behind the last WINDOW of 160", calls[c].of(full, 0, 145), -1);
        }
    }

    // ---- promise 17

    private static void distanceOfTwoReadings() {
        Due.says("DISTANCE of two rows of the least length, 2");
        WarpDesk desk = pair("1 5", "4 3");
        for (int band = 0; band <= 15; band++) {
            desk.set(0, band);
            Due.is("band " + band, desk.distance(0, 0), 5);
        }
        desk.set(2, 1);
        Due.is("square", desk.distance(0, 0), 9 + 4);
    }

    private static void distanceAtTheEdgeOfTheBand() {
        Due.says("over places (i, j) with i and j no more than BAND apart");
        for (int by = 1; by <= 13; by++) {
            int[] one = new int[16];
            int[] other = new int[16];
            one[1] = 9;
            other[1 + by] = 9;
            WarpDesk later = pair(row(one), row(other));
            WarpDesk sooner = pair(row(other), row(one));
            for (int band = 0; band <= 15; band++) {
                later.set(0, band);
                sooner.set(0, band);
                Due.is("later by " + by + ", band " + band, later.distance(0, 0), band >= by ? 0 : 18);
                Due.is("sooner by " + by + ", band " + band, sooner.distance(0, 0), band >= by ? 0 : 18);
            }
        }
    }

    private static void distanceWithTheWidestBands() {
        Due.says("BAND 0 .. 15 on rows of the greatest length, 16");
        // The first READING of the one fits fifteen of the other, its last fifteen fit the other's last.
        WarpDesk low = pair("0" + " 9".repeat(15), "0" + " 0".repeat(14) + " 9");
        WarpDesk high = pair("0" + " 0".repeat(14) + " 9", "0" + " 9".repeat(15));
        for (int band = 0; band <= 15; band++) {
            low.set(0, band);
            high.set(0, band);
            int due = 9 * Math.max(0, 14 - band);
            Due.is("band " + band, low.distance(0, 0), due);
            Due.is("turned over, band " + band, high.distance(0, 0), due);
        }
    }

    private static void distancePlainAndSquare() {
        Due.says("COST: what the one is more than the other, or less (plain), that multiplied by itself (square)");
        int[] ones = {3, 7, -3, -7, 0, 1};
        int[] others = {7, 3, -7, -3, 0, 0};
        for (int i = 0; i < ones.length; i++) {
            WarpDesk desk = pair("0 " + ones[i], "0 " + others[i]);
            int by = Math.abs(ones[i] - others[i]);
            Due.is("plain", desk.distance(0, 0), by);
            desk.set(2, 1);
            Due.is("square", desk.distance(0, 0), by * by);
        }
    }

    private static void distanceOfTheGreatestReadings() {
        Due.says("READINGS -999 .. 999 at each LEVEL and COST");
        // Of level none 16 * 1998; of mean, first and range as worked out below.
        WarpDesk desk = pair("999" + " -999".repeat(15), "-999" + " 999".repeat(15));
        desk.set(0, 0);
        int[] plain = {16 * 1998, 1873 + 1874 + 15 * (125 + 124), 15 * 3996, 16 * 1000};
        long[] square = {16L * 1998 * 1998, 0, 15L * 3996 * 3996, 16L * 1000 * 1000};
        // Sums -14 * 999 and 14 * 999; means, rounded down: -875 and 874.
        square[1] = (1874L + 1873) * (1874 + 1873) + 15L * (124 + 125) * (124 + 125);
        for (int level = 0; level < 4; level++) {
            desk.set(1, level);
            desk.set(2, 0);
            Due.is("plain at level " + level, desk.distance(0, 0), plain[level]);
            desk.set(2, 1);
            Due.is("square at level " + level, desk.distance(0, 0), square[level]);
        }
        desk.set(1, 2);
        for (int band = 0; band <= 15; band++) {
            desk.set(0, band);
            Due.is("first, square, band " + band, desk.distance(0, 0), square[2]);
        }
    }

    private static void atLevel(int level, String one, String other, int due) {
        WarpDesk desk = Due.desk("series " + other + "; query a " + one + "; query b " + other + "; band 0;");
        desk.set(1, level);
        Due.is("QUERY and WINDOW, level " + level + ": " + one + " and " + other, desk.distance(0, 0), due);
        Due.is("two QUERIES, level " + level + ": " + one + " and " + other, desk.alike(0, 1), due);
        Due.is("turned over, level " + level + ": " + one + " and " + other, desk.alike(1, 0), due);
        Due.is("itself", desk.distance(1, 0), 0);
    }

    private static void distanceOfRowsEachAtItsLevel() {
        Due.says("DISTANCE of two rows of one length n, each brought to its LEVEL");
        atLevel(0, "1 2", "11 12", 20);
        // mean: (1 0) and (1 0); (0 1 1) and (0 1 1); (0 1) and (1 0).
        atLevel(1, "-1 -2", "1 0", 0);
        atLevel(1, "-1 0 0", "5 6 6", 0);
        atLevel(1, "3 4", "-3 -4", 2);
        // first: (0 2 -2) and (0 2 -2); (0 -1998) and (0 1998).
        atLevel(2, "5 7 3", "-1 1 -3", 0);
        atLevel(2, "999 -999", "-999 999", 3996);
        // range: (0 0) and (0 0); (0 0) and (0 1000); (0 333 1000) twice; (0 333 1000) and (0 666 1000).
        atLevel(3, "7 7", "0 0", 0);
        atLevel(3, "7 7", "3 4", 1000);
        atLevel(3, "0 1 3", "10 12 16", 0);
        atLevel(3, "0 1 3", "0 2 3", 333);
    }

    /** Goes every way for itself, without a table. */
    private static long leastWay(int[] one, int[] other, int i, int j, int band, boolean isSquare) {
        if (i < 0 || j < 0 || Math.abs(i - j) > band) {
            return Long.MAX_VALUE / 2;
        }
        long by = Math.abs(one[i] - other[j]);
        long cost = isSquare ? by * by : by;
        if (i == 0 && j == 0) {
            return cost;
        }
        long both = leastWay(one, other, i - 1, j - 1, band, isSquare);
        long above = leastWay(one, other, i - 1, j, band, isSquare);
        long beside = leastWay(one, other, i, j - 1, band, isSquare);
        return cost + Math.min(both, Math.min(above, beside));
    }

    private static int[] levelled(WarpDesk desk, int s, int n) {
        int[] row = new int[n];
        for (int i = 0; i < n; i++) {
            row[i] = desk.level(s, n, i);
        }
        return row;
    }

    private static void distanceIsTheLeastOfAllWays() {
        Due.says("of all ways from place (0, 0) to (n - 1, n - 1) the least of the COSTS of all its places, added");
        Random random = new Random(17);
        for (int run = 0; run < 120; run++) {
            int n = 2 + run % 5;
            int[] one = random.ints(n, -9, 10).toArray();
            int[] other = random.ints(n, -9, 10).toArray();
            // The QUERY's own READINGS stand in the SERIES too, so that level() shows them.
            WarpDesk desk = Due.desk("series" + row(one) + " gap" + row(other) + "; query a" + row(one) + ";");
            for (int level = 0; level < 4; level++) {
                desk.set(1, level);
                int[] left = levelled(desk, 0, n);
                int[] right = levelled(desk, n + 1, n);
                for (int band = 0; band <= n; band++) {
                    desk.set(0, band);
                    for (int cost = 0; cost < 2; cost++) {
                        desk.set(2, cost);
                        long due = leastWay(left, right, n - 1, n - 1, band, cost == 1);
                        Due.is("run " + run + " level " + level + " band " + band, desk.distance(0, n + 1), due);
                    }
                }
            }
        }
    }

    // ---- promise 18

    private static void bounds(WarpDesk desk, int ends, int over, int back) {
        Due.is("ends", desk.bound(0, 0, 0), ends);
        Due.is("over", desk.bound(0, 0, 1), over);
        Due.is("back", desk.bound(0, 0, 2), back);
    }

    private static void boundEnds() {
        Due.says("ENDS: COST of both first ones and of both last ones, added");
        WarpDesk two = pair("1 5", "4 3");
        Due.is("of two", two.bound(0, 0, 0), 3 + 2);
        two.set(2, 1);
        Due.is("of two, square", two.bound(0, 0, 0), 9 + 4);
        WarpDesk three = pair("1 100 5", "4 -100 3");
        Due.is("what is between is none of it", three.bound(0, 0, 0), 5);
        WarpDesk long16 = pair("1" + " 0".repeat(14) + " 5", "4" + " 0".repeat(14) + " 3");
        Due.is("of sixteen", long16.bound(0, 0, 0), 5);
        long16.set(1, 2);
        Due.is("at their LEVELS", long16.bound(0, 0, 0), Math.abs((5 - 1) - (3 - 4)));
    }

    private static void boundOverAndBackAtTheEnvelope() {
        Due.says("OVER: the COST of it and the greatest (if it is above that), or the least (if below)");
        // The QUERY's envelope is -2 .. 3 at each place, the WINDOW's is around one value.
        int[] values = {-5, -4, -3, -2, -1, 2, 3, 4, 5, 6};
        int[] outside = {3, 2, 1, 0, 0, 0, 0, 1, 2, 3};
        for (int i = 0; i < values.length; i++) {
            WarpDesk desk = pair("-2 3 -2", row(values[i], values[i], values[i]));
            desk.set(0, 1);
            Due.is("over of " + values[i], desk.bound(0, 0, 1), 3 * outside[i]);
            desk.set(2, 1);
            Due.is("over of " + values[i] + ", square", desk.bound(0, 0, 1), 3 * outside[i] * outside[i]);
        }
        Due.says("BACK: likewise each place of the QUERY and the WINDOW's greatest and least");
        for (int i = 0; i < values.length; i++) {
            WarpDesk desk = pair(row(values[i], values[i], values[i]), "-2 3 -2");
            desk.set(0, 1);
            Due.is("back of " + values[i], desk.bound(0, 0, 2), 3 * outside[i]);
            desk.set(2, 1);
            Due.is("back of " + values[i] + ", square", desk.bound(0, 0, 2), 3 * outside[i] * outside[i]);
        }
        WarpDesk mixed = pair("0 0 0", "5 0 -4");
        bounds(mixed, 9, 9, 0);
        WarpDesk turned = pair("5 0 -4", "0 0 0");
        bounds(turned, 9, 0, 9);
        Due.says("BOUNDS of a QUERY and a WINDOW of its length, at their LEVELS");
        mixed.set(1, 2);
        // first: (0 0 0) and (0 -5 -9).
        bounds(mixed, 9, 14, 0);
        mixed.set(1, 3);
        // range: (0 0 0) and (1000 444 0).
        bounds(mixed, 1000, 1444, 0);
    }

    private static void boundOverAndBackAtTheEdgeOfTheBand() {
        Due.says("of the QUERY at places no more than BAND apart");
        for (int by = 0; by <= 15; by++) {
            int[] high = new int[16];
            high[by] = 9;
            int[] first = new int[16];
            first[0] = 9;
            // The 9 at place 0 needs the 9 at place by.
            WarpDesk over = pair(row(high), row(first));
            WarpDesk back = pair(row(first), row(high));
            int[] last = new int[16];
            last[15] = 9;
            int[] low = new int[16];
            low[15 - by] = 9;
            WarpDesk end = pair(row(low), row(last));
            for (int band = 0; band <= 15; band++) {
                over.set(0, band);
                back.set(0, band);
                end.set(0, band);
                // With a BAND of 0 the 9 that is needed has no 9 either.
                int due = band >= by ? 0 : band == 0 ? 18 : 9;
                Due.is("over, by " + by + ", band " + band, over.bound(0, 0, 1), due);
                Due.is("back, by " + by + ", band " + band, back.bound(0, 0, 2), due);
                Due.is("the other's, by " + by + ", band " + band, over.bound(0, 0, 2), due);
                Due.is("from the end, by " + by + ", band " + band, end.bound(0, 0, 1), due);
            }
        }
    }

    private static void boundsAreNoMoreThanTheDistance() {
        Due.says("None is more than the DISTANCE");
        Random random = new Random(18);
        for (int run = 0; run < 300; run++) {
            int n = 2 + run % 15;
            WarpDesk desk = pair(row(random.ints(n, -999, 1000).toArray()), row(random.ints(n, -999, 1000).toArray()));
            desk.set(0, random.nextInt(16));
            desk.set(1, random.nextInt(4));
            desk.set(2, random.nextInt(2));
            int distance = desk.distance(0, 0);
            for (int what = 0; what < 3; what++) {
                int bound = desk.bound(0, 0, what);
                Due.is("bound " + what + " of run " + run, bound >= 0 && bound <= distance, true);
            }
        }
    }

    private static void boundOfNoSuchWhat() {
        Due.says("18: what 0 ENDS, 1 OVER, 2 BACK. NONE: no such ones");
        WarpDesk desk = pair("1 2", "3 4");
        for (int what : new int[] {-1, -2, 3, 4, MOST, LEAST}) {
            Due.is("what " + what, desk.bound(0, 0, what), -1);
        }
        bounds(desk, 4, 3, 3);
    }

    // ---- promise 19

    private static void look(WarpDesk desk, int limit, int how, int cells, int row) {
        Due.is("limit " + limit + ": how", desk.look(0, 0, limit, 0), how);
        Due.is("limit " + limit + ": cells", desk.look(0, 0, limit, 1), cells);
        Due.is("limit " + limit + ": row", desk.look(0, 0, limit, 2), row);
    }

    private static void lookByEnds() {
        Due.says("ENDS is LIMIT or more: it is passed by ENDS");
        // ENDS 7, OVER 3, BACK 3, DISTANCE 7.
        WarpDesk desk = pair("0 0 0", "3 0 4");
        desk.set(0, 1);
        Due.is("ends", desk.bound(0, 0, 0), 7);
        look(desk, 0, 1, 0, -2);
        look(desk, 6, 1, 0, -2);
        look(desk, 7, 1, 0, -2);
        look(desk, 8, 0, 7, -2);
    }

    private static void lookByOverAndBack() {
        Due.says("else OVER likewise: by OVER; else BACK: by BACK");
        // ENDS 0, OVER 5, BACK 0.
        WarpDesk over = pair("0 0 0", "0 5 0");
        bounds(over, 0, 5, 0);
        look(over, 0, 1, 0, -2);
        look(over, 1, 2, 0, -2);
        look(over, 5, 2, 0, -2);
        look(over, 6, 0, 9, -2);
        // ENDS 0, OVER 0, BACK 5.
        WarpDesk back = pair("0 5 0", "0 0 0");
        bounds(back, 0, 0, 5);
        look(back, 0, 1, 0, -2);
        look(back, 1, 3, 0, -2);
        look(back, 5, 3, 0, -2);
        look(back, 6, 0, 9, -2);
        Due.says("of several that pass it the first is told");
        WarpDesk all = pair("0 0", "4 4");
        bounds(all, 8, 8, 8);
        look(all, 8, 1, 0, -2);
        look(all, 9, 0, 4, -2);
        WarpDesk both = pair("0 0 0", "1 9 1");
        both.set(0, 0);
        bounds(both, 2, 11, 11);
        look(both, 2, 1, 0, -2);
        look(both, 3, 2, 0, -2);
        look(both, 11, 2, 0, -2);
        look(both, 12, 0, 3, -2);
    }

    /**
     * BAND 1, rows (0 9 0 9 0) and (0 0 9 9 0): each 9 has a 9 beside it, yet the way costs 9. The table:
     * 0 0 / 9 9 0 / 9 9 9 / 18 9 9 / 18 9.
     */
    private static void lookByLate() {
        Due.says("if the least of a row is LIMIT or more, it is broken off behind that row: by LATE");
        WarpDesk desk = pair("0 9 0 9 0", "0 0 9 9 0");
        desk.set(0, 1);
        bounds(desk, 0, 0, 0);
        Due.is("distance", desk.distance(0, 0), 9);
        look(desk, 1, 4, 2 + 3 + 3, 2);
        look(desk, 8, 4, 2 + 3 + 3, 2);
        look(desk, 9, 4, 2 + 3 + 3, 2);
        look(desk, 10, 0, 13, -2);
        Due.says("CELLS: places of the table that were laid (the row behind which it is broken off, too)");
        // Behind the row 1: 0 10 / 5 5 10 / 5 5.
        WarpDesk second = pair("0 5 10", "0 10 10");
        second.set(0, 1);
        bounds(second, 0, 0, 0);
        Due.is("distance", second.distance(0, 0), 5);
        look(second, 1, 4, 5, 1);
        look(second, 5, 4, 5, 1);
        look(second, 6, 0, 7, -2);
        // Behind the last row: 0 4 / 0 4 13 / 5 4.
        WarpDesk last = pair("0 0 9", "0 4 9");
        last.set(0, 1);
        bounds(last, 0, 0, 0);
        Due.is("distance", last.distance(0, 0), 4);
        look(last, 1, 4, 7, 2);
        look(last, 4, 4, 7, 2);
        look(last, 5, 0, 7, -2);
    }

    private static void lookByLast() {
        Due.says("else, if the DISTANCE is not less, by LAST");
        // BAND 1: 0 2 / 8 6 2 / 6 8: the last row's least is 6, the DISTANCE is 8.
        WarpDesk desk = pair("0 8 2", "0 2 8");
        desk.set(0, 1);
        bounds(desk, 6, 0, 0);
        Due.is("distance", desk.distance(0, 0), 8);
        look(desk, 6, 1, 0, -2);
        look(desk, 7, 5, 7, -2);
        look(desk, 8, 5, 7, -2);
        look(desk, 9, 0, 7, -2);
    }

    private static void lookWithAnyLimit() {
        Due.says("19: under a LIMIT (0 or more)");
        WarpDesk same = pair("1 2 3", "1 2 3");
        look(same, 0, 1, 0, -2);
        look(same, 1, 0, 9, -2);
        look(same, MOST, 0, 9, -2);
        for (int limit : new int[] {-1, -2, LEAST}) {
            look(same, limit, -1, -1, -1);
        }
        WarpDesk far = pair("999 -999", "-999 999");
        far.set(2, 1);
        look(far, 2 * 1998 * 1998, 1, 0, -2);
        look(far, 2 * 1998 * 1998 + 1, 0, 4, -2);
        look(far, MOST, 0, 4, -2);
    }

    private static void lookLaysCellsOfTheBand() {
        Due.says("the table is laid, row by row (a row: a place of the QUERY; within the BAND)");
        for (int n = 2; n <= 16; n++) {
            WarpDesk desk = pair("1" + " 1".repeat(n - 1), "1" + " 1".repeat(n - 1));
            for (int band = 0; band <= 15; band++) {
                desk.set(0, band);
                int cells = 0;
                for (int i = 0; i < n; i++) {
                    cells += Math.min(n - 1, i + band) - Math.max(0, i - band) + 1;
                }
                Due.is("cells of " + n + ", band " + band, desk.look(0, 0, 1, 1), cells);
            }
        }
    }

    private static void lookOfNoSuchOnes() {
        Due.says("19: what 0 .. 2; NONE: no such ones");
        WarpDesk desk = pair("1 2", "3 4");
        for (int what : new int[] {-1, -2, 3, 4, MOST, LEAST}) {
            Due.is("what " + what, desk.look(0, 0, 5, what), -1);
            Due.is("what " + what + ", limit 0", desk.look(0, 0, 0, what), -1);
        }
    }

    // ---- promise 24

    private static void ways(String query, String window, int band, int... due) {
        WarpDesk desk = pair(query, window);
        desk.set(0, band);
        Due.is("places of " + query + " and " + window, desk.way(0, 0, -1), due.length);
        for (int i = 0; i < due.length; i++) {
            Due.is("place " + i + " of " + query + " and " + window, desk.way(0, 0, i), due[i]);
        }
        Due.is("behind the last", desk.way(0, 0, due.length), -1);
    }

    private static void wayOfAlikeOnes() {
        Due.says("WAY: from (0, 0) on; a place is 100 * i + j");
        for (int n = 2; n <= 16; n++) {
            WarpDesk desk = pair("1" + " 1".repeat(n - 1), "1" + " 1".repeat(n - 1));
            for (int band : new int[] {0, 1, 15}) {
                desk.set(0, band);
                Due.is("places of " + n, desk.way(0, 0, -1), n);
                Due.is("the first", desk.way(0, 0, 0), 0);
                Due.is("the second", desk.way(0, 0, 1), 101);
                Due.is("the last", desk.way(0, 0, n - 1), 101 * (n - 1));
                Due.is("behind the last", desk.way(0, 0, n), -1);
            }
        }
    }

    private static void wayTiesAndEdges() {
        Due.says("of the three ahead of it that are there the one to which the least comes, of alike ones both less, then i less, then j less");
        // Table 0 5 / 5 0: only the least counts.
        ways("0 5", "0 5", 1, 0, 101);
        // (0 0 5) and (0 5 5): i less along the first column, then both.
        ways("0 0 5", "0 5 5", 2, 0, 100, 201, 202);
        // (0 5 5) and (0 0 5): j less along the first row.
        ways("0 5 5", "0 0 5", 2, 0, 1, 102, 202);
        // (5 0 10) and (5 10 0): i less and j less are alike, both less is more: i less.
        ways("5 0 10", "5 10 0", 2, 0, 1, 102, 202);
        // All three alike: both less.
        ways("3 3 3", "3 3 3", 2, 0, 101, 202);
        // Both less and i less alike (5), j less more: (0 5 5) and (5 5 5).
        ways("0 5 5", "5 5 5", 1, 0, 101, 202);
        // Beside the BAND 0 only both less is there.
        ways("0 0 5", "0 5 5", 0, 0, 101, 202);
        // (0 0 0 9) and (0 9 9 9), BAND 1: i less would leave the BAND at (3, 1).
        ways("0 0 0 9", "0 9 9 9", 1, 0, 100, 201, 302, 303);
        ways("0 0 0 9", "0 9 9 9", 2, 0, 100, 200, 301, 302, 303);
        ways("0 9 9 9", "0 0 0 9", 2, 0, 1, 2, 103, 203, 303);
    }

    private static void wayIsALegalOne() {
        Due.says("WAY: places of a least DISTANCE, by steps of 1, no more than BAND apart");
        Random random = new Random(24);
        for (int run = 0; run < 150; run++) {
            int n = 2 + run % 15;
            int[] one = random.ints(n, -9, 10).toArray();
            int[] other = random.ints(n, -9, 10).toArray();
            WarpDesk desk = pair(row(one), row(other));
            int band = random.nextInt(16);
            desk.set(0, band);
            int places = desk.way(0, 0, -1);
            int sum = 0;
            int i = -1;
            int j = -1;
            int widest = 0;
            int inBoth = 0;
            for (int k = 0; k < places; k++) {
                int place = desk.way(0, 0, k);
                int byI = place / 100 - i;
                int byJ = place % 100 - j;
                boolean isStep = byI >= 0 && byI <= 1 && byJ >= 0 && byJ <= 1 && byI + byJ > 0;
                Due.is("run " + run + ": a step", isStep && (k > 0 || place == 0), true);
                inBoth += k > 0 && byI + byJ == 2 ? 1 : 0;
                i = place / 100;
                j = place % 100;
                Due.is("run " + run + ": within the BAND", Math.abs(i - j) <= band, true);
                widest = Math.max(widest, Math.abs(i - j));
                sum += Math.abs(one[i] - other[j]);
            }
            Due.is("run " + run + ": the last place", 100 * i + j, 101 * (n - 1));
            Due.is("run " + run + ": its COSTS", sum, desk.distance(0, 0));
            Due.is("run " + run + ": its lean", desk.lean(0, 0, 0), widest);
            Due.is("run " + run + ": its steps in both", desk.lean(0, 0, 1), inBoth);
        }
    }

    private static void wayOfNoSuchPlace() {
        Due.says("24: how many places (i NONE), else the i-th; NONE: no such ones");
        WarpDesk desk = pair("0 0 5", "0 5 5");
        for (int i : new int[] {-2, -3, 4, 5, 30, 31, 32, MOST, LEAST}) {
            Due.is("place " + i, desk.way(0, 0, i), -1);
        }
        Due.is("how many", desk.way(0, 0, WarpDesk.NONE), 4);
        Due.is("the last", desk.way(0, 0, 3), 202);
        // The longest: along the first row to its end but one, then down the last column.
        WarpDesk longest = pair("0" + " 9".repeat(15), "0" + " 0".repeat(14) + " 9");
        longest.set(0, 14);
        Due.is("how many", longest.way(0, 0, -1), 30);
        for (int i = 0; i < 15; i++) {
            Due.is("place " + i, longest.way(0, 0, i), i);
            Due.is("place " + (15 + i), longest.way(0, 0, 15 + i), 100 * (i + 1) + 15);
        }
        Due.is("place 30", longest.way(0, 0, 30), -1);
        longest.set(0, 15);
        Due.is("how many with a BAND of 15", longest.way(0, 0, -1), 30);
    }

    // ---- promise 26

    private static void alikeOfTwoQueries() {
        Due.says("26: DISTANCE of two QUERIES; -2: of unlike lengths");
        String q16 = " 1".repeat(16);
        WarpDesk desk = Due.desk("query a 0 9 0; query b 0 0 9; query c 1 2; query d" + q16 + "; query e 4 4;");
        int[][] due = {{0, 9, -2, -2, -2}, {9, 0, -2, -2, -2}, {-2, -2, 0, -2, 5}, {-2, -2, -2, 0, -2}, {-2, -2, 5, -2, 0}};
        for (int q = 0; q < 5; q++) {
            for (int other = 0; other < 5; other++) {
                Due.is("alike " + q + " " + other, desk.alike(q, other), due[q][other]);
            }
        }
        desk.set(0, 0);
        Due.is("band 0", desk.alike(0, 1), 18);
        desk.set(2, 1);
        Due.is("square", desk.alike(0, 1), 162);
        desk.set(1, 3);
        Due.is("range", desk.alike(2, 4), 1000 * 1000);
        desk.set(1, 1);
        // mean, rounded down: (1 2) is (0 1), (4 4) is (0 0).
        Due.is("mean", desk.alike(2, 4), 1);
        Due.is("without a SERIES", desk.count(0), 0);
    }

    private static void alikeOfNoSuchOnes() {
        Due.says("26: NONE: no such ones");
        WarpDesk desk = Due.desk("query a 0 9 0; query b 0 0;");
        for (int wrong : new int[] {-1, 2, 3, 5, MOST, LEAST}) {
            for (int other : new int[] {0, 1, -1, 2}) {
                Due.is("alike " + wrong + " " + other, desk.alike(wrong, other), -1);
                Due.is("alike " + other + " " + wrong, desk.alike(other, wrong), -1);
            }
        }
        Due.is("alike 0 1", desk.alike(0, 1), -2);
        Due.is("of no QUERIES", new WarpDesk().alike(0, 0), -1);
    }

    // ---- promise 31

    private static void leans(String query, String window, int band, int most, int steps) {
        WarpDesk desk = pair(query, window);
        desk.set(0, band);
        Due.is("lean of " + query + " and " + window, desk.lean(0, 0, 0), most);
        Due.is("steps of " + query + " and " + window, desk.lean(0, 0, 1), steps);
    }

    private static void leanOfWays() {
        Due.says("LEAN of a WAY: the most by which i and j differ on it; how many steps of it go in both");
        leans("1 2", "3 4", 0, 0, 1);
        leans("0 0 5", "0 5 5", 2, 1, 1);
        leans("0 5 5", "0 0 5", 2, 1, 1);
        leans("0 0 0 9", "0 9 9 9", 2, 2, 1);
        leans("0 9 9 9", "0 0 0 9", 2, 2, 1);
        leans("0 0 0 9", "0 9 9 9", 1, 1, 2);
        leans("0 0 0 9", "0 9 9 9", 0, 0, 3);
        leans("0" + " 9".repeat(15), "0" + " 0".repeat(14) + " 9", 15, 14, 1);
        leans("0" + " 0".repeat(14) + " 9", "0" + " 9".repeat(15), 15, 14, 1);
        leans("3" + " 3".repeat(15), "3" + " 3".repeat(15), 15, 0, 15);
    }

    private static void leanOfNoSuchWhat() {
        Due.says("31: what 0 the most, 1 how many steps; NONE: no such ones");
        WarpDesk desk = pair("1 2", "3 4");
        for (int what : new int[] {-1, -2, 2, 3, MOST, LEAST}) {
            Due.is("what " + what, desk.lean(0, 0, what), -1);
        }
    }
}

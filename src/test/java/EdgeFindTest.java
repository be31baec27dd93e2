import java.util.Random;

/**
 * The edges that the document names for all WINDOWS of a QUERY and for all QUERIES (promises 20 to 23,
 * 25, 30, 32 to 36, 39 and what "Terms" says of them), sentence by sentence.
 */
public final class EdgeFindTest {
    private static final int LEAST = Integer.MIN_VALUE;
    private static final int MOST = Integer.MAX_VALUE;

    private interface Call {
        int of(WarpDesk desk, int query);
    }

    public static void main(String[] args) {
        noSuchQuery();
        noWindow();
        noSuchWhat();
        oneWindow();
        bestOfAlikeOnesTheFirst();
        bestAtTheEdgesOfTheSeries();
        searchCountsEachWayOfPassing();
        searchTakesAlikeOnesForPassed();
        searchIsALookAtEachWindow();
        matchesAreApart();
        matchesApartOnBothSides();
        matchesAtTheGreatestApart();
        matchesTillThereIsNone();
        matchIndexEdges();
        withinAtItsLimit();
        coverAtItsLimit();
        coverOfOverlappingMatches();
        limitsBelow0();
        needsEachBand();
        needsOfAlikeOnes();
        needsIsTheLeastBand();
        needsWithNone();
        whoseOfAlikeOnesTheFirst();
        whoseOfNoSuchLength();
        rankAndKthOfAlikeOnes();
        kthIndexEdges();
        slackAddsAllWindows();
        slackWraps();
        turnsOfFallsAndRises();
        turnsPassOverAlikeOnes();
        firedAtItsLimit();
        firedByTheNewestWindow();
        firedWithALimitBelow0();
        bandCountsInEachCall();
        levelAndCostCountInEachCall();
        inAFullSeries();
        nothingOfACallAheadCounts();
        asksChangeNothing();
        Due.end();
    }

    /** DISTANCES of the QUERY 0: 9, 4, 2, 4, none, none, 4, 2, 9, none. The QUERY 1 has no WINDOW. */
    private static WarpDesk zeros() {
        return Due.desk("series 6 3 1 1 3 gap 3 1 1 8; query a 0 0; query b 0 0 0 0 0 0; apart 2;");
    }

    /** READINGS of one or more bytes each; the WINDOWS of the QUERY (0 0) are at the sums of two. */
    private static WarpDesk of(String series) {
        return Due.desk("series " + series + "; query a 0 0;");
    }

    // ---- which QUERIES there are

    private static final Call[] CALLS = {(d, q) -> d.best(q, 0), (d, q) -> d.best(q, 1), (d, q) -> d.search(q, 0),
        (d, q) -> d.search(q, 8), (d, q) -> d.match(q, 0, 0), (d, q) -> d.match(q, 0, 1), (d, q) -> d.within(q, 5),
        (d, q) -> d.cover(q, 5), (d, q) -> d.kth(q, 0, 0), (d, q) -> d.kth(q, 0, 1), (d, q) -> d.slack(q),
        (d, q) -> d.turns(q), (d, q) -> d.needs(q, 0), (d, q) -> d.rank(q, 0)};

    private static void noSuchQuery() {
        for (int c = 0; c < CALLS.length; c++) {
            Due.says("20 to 23, 25, 30, 33 to 36: NONE: no such QUERY; call " + c);
            WarpDesk desk = Due.desk("series 1 2 3; query a 1 2; query b 2 3;");
            for (int q : new int[] {-1, -2, 2, 3, 5, MOST, LEAST}) {
                Due.is("QUERY " + q, CALLS[c].of(desk, q), -1);
            }
            Due.is("QUERY 0 is there", CALLS[c].of(desk, 0) != -1, true);
            Due.is("QUERY 1 is there", CALLS[c].of(desk, 1) != -1, true);
            Due.is("no QUERY told", CALLS[c].of(Due.desk("series 1 2 3;"), 0), -1);
            Due.is("a new object", CALLS[c].of(new WarpDesk(), 0), -1);
            WarpDesk five = Due.desk("series 1 2 3;query a 1 1;query b 1 1;query c 1 1;query d 1 1;query e 1 1;");
            Due.is("QUERY 4 of five is there", CALLS[c].of(five, 4) != -1, true);
            Due.is("QUERY 5 of five", CALLS[c].of(five, 5), -1);
        }
    }

    private static void noWindow() {
        Due.says("20: -2: there is none; 22, 34: -2: not so many; 21, 23, 30, 35, 36: none is 0; 25, 33: NONE");
        int[] due = {-2, -2, 0, 0, -2, -2, 0, 0, -2, -2, 0, 0, -1, -1};
        String[] series = {"", "series 1;", "series 1 2;", "series gap gap gap;", "series 1 2 gap 3 4;", "series gap 1 2 gap;"};
        for (String text : series) {
            WarpDesk desk = Due.desk(text + "query a 1 2 3;");
            for (int c = 0; c < CALLS.length; c++) {
                Due.is("call " + c + " of " + text, CALLS[c].of(desk, 0), due[c]);
            }
        }
        WarpDesk dropped = Due.desk("series 1 2 3; query a 1 2 3;");
        dropped.drop(1);
        for (int c = 0; c < CALLS.length; c++) {
            Due.is("call " + c + " after a drop", CALLS[c].of(dropped, 0), due[c]);
        }
    }

    private static void noSuchWhat() {
        Due.says("20, 21, 22, 34: NONE for others, no such ones");
        // The QUERY 1 has no WINDOW: what is wrong is told all the same.
        for (int q = 0; q < 2; q++) {
            for (int what : new int[] {-1, -2, 2, 3, MOST, LEAST}) {
                Due.is("best " + q + " " + what, zeros().best(q, what), -1);
                Due.is("match " + q + " 0 " + what, zeros().match(q, 0, what), -1);
                Due.is("kth " + q + " 0 " + what, zeros().kth(q, 0, what), -1);
                Due.is("match " + q + " 99 " + what, zeros().match(q, 99, what), -1);
                Due.is("kth " + q + " 99 " + what, zeros().kth(q, 99, what), -1);
            }
            for (int what : new int[] {-1, -2, 9, 10, MOST, LEAST}) {
                Due.is("search " + q + " " + what, zeros().search(q, what), -1);
            }
        }
    }

    private static void oneWindow() {
        Due.says("a SERIES of just one WINDOW");
        for (int n : new int[] {2, 16}) {
            WarpDesk desk = Due.desk("series gap" + " 3".repeat(n) + " gap; query a" + " 1".repeat(n) + ";");
            int[] due = {1, 2 * n, 1, 0, 1, 2 * n, n == 2 ? 1 : 0, n == 2 ? 2 : 0, 1, 2 * n, 0, 0, -1, -1};
            for (int c = 0; c < CALLS.length; c++) {
                Due.is("call " + c + " of " + n, CALLS[c].of(desk, 0), due[c]);
            }
            Due.is("rank", desk.rank(0, 1), 0);
            Due.is("needs", desk.needs(0, 1), 0);
        }
    }

    // ---- promise 20

    private static void bestOfAlikeOnesTheFirst() {
        Due.says("BEST: the WINDOW of the least DISTANCE, of alike ones the first");
        Due.is("two alike", zeros().best(0, 0), 2);
        Due.is("their distance", zeros().best(0, 1), 2);
        Due.is("all alike", of("3 3 3 3").best(0, 0), 0);
        Due.is("the last is less", of("3 3 3 2").best(0, 0), 2);
        Due.is("the last is alike", of("9 3 3 9 3 3").best(0, 0), 1);
        Due.is("behind a GAP", of("9 9 gap 1 1").best(0, 0), 3);
        // (0 2 8) is at 8, and would be passed by LAST with a LIMIT of 7 or 8.
        int[] ends = {-5, -6, -7};
        int[] windows = {0, 0, 4};
        for (int i = 0; i < ends.length; i++) {
            WarpDesk desk = limited("0 8 2", "0 8 " + ends[i], "0 2 8");
            Due.is("beside a later one, end " + ends[i], desk.best(0, 0), windows[i]);
            Due.is("its distance", desk.best(0, 1), Math.min(8, 2 - ends[i]));
        }
    }

    private static void bestAtTheEdgesOfTheSeries() {
        Due.says("BEST: the first and the last WINDOW that there can be");
        String query = "; query a 7" + " 0".repeat(15) + ";";
        WarpDesk first = Due.desk("series 7" + " 0".repeat(15) + " 5".repeat(144) + query);
        Due.is("first", first.best(0, 0), 0);
        WarpDesk last = Due.desk("series" + " 5".repeat(144) + " 7" + " 0".repeat(15) + query);
        Due.is("last", last.best(0, 0), 144);
        Due.is("its distance", last.best(0, 1), 0);
        Due.is("windows", last.search(0, 0), 145);
        Due.is("its rank", last.rank(0, 144), 0);
        Due.is("kth", last.kth(0, 0, 0), 144);
        Due.is("the last match", last.match(0, 0, 0), 144);
        last.drop(1);
        Due.is("after a drop", last.best(0, 0), 143);
        last.drop(143);
        Due.is("all else dropped", last.best(0, 0), 0);
        last.drop(1);
        Due.is("itself dropped", last.best(0, 0), -2);
    }

    // ---- promise 21

    private static void tally(WarpDesk desk, int... due) {
        for (int what = 0; what < due.length; what++) {
            Due.is("search " + what, desk.search(0, what), due[what]);
        }
    }

    /** The pairs of EdgeFitTest behind a WINDOW that is at just the DISTANCE that is the LIMIT. */
    private static WarpDesk limited(String query, String first, String second) {
        return Due.desk("series " + first + " gap " + second + "; query a " + query + "; band 1;");
    }

    private static void searchCountsEachWayOfPassing() {
        Due.says("21: what 0 WINDOWS, 1 ENDS, 2 OVER, 3 BACK, 4 LATE, 5 LAST, 6 CELLS, 7 how many counted, 8 rows laid of those LATE");
        // (0 8 2) and (0 2 8): ENDS 6, last row's least 6, DISTANCE 8.
        tally(limited("0 8 2", "0 8 8", "0 2 8"), 2, 1, 0, 0, 0, 0, 7, 1, 0);
        tally(limited("0 8 2", "0 8 9", "0 2 8"), 2, 0, 0, 0, 0, 1, 14, 1, 0);
        tally(limited("0 8 2", "0 8 10", "0 2 8"), 2, 0, 0, 0, 0, 1, 14, 1, 0);
        tally(limited("0 8 2", "0 8 11", "0 2 8"), 2, 0, 0, 0, 0, 0, 14, 2, 0);
        // (0 0 0) and (0 5 0): OVER 5.
        tally(limited("0 0 0", "0 0 5", "0 5 0"), 2, 0, 1, 0, 0, 0, 7, 1, 0);
        tally(limited("0 0 0", "0 0 6", "0 5 0"), 2, 0, 0, 0, 0, 0, 14, 2, 0);
        // (0 5 0) and (0 0 0): BACK 5.
        tally(limited("0 5 0", "0 5 5", "0 0 0"), 2, 0, 0, 1, 0, 0, 7, 1, 0);
        tally(limited("0 5 0", "0 5 6", "0 0 0"), 2, 0, 0, 0, 0, 0, 14, 2, 0);
        // (0 5 10) and (0 10 10): broken off behind the row 1, five places laid, two rows.
        tally(limited("0 5 10", "0 5 5", "0 10 10"), 2, 0, 0, 0, 1, 0, 12, 1, 2);
        tally(limited("0 5 10", "0 5 4", "0 10 10"), 2, 0, 0, 0, 0, 0, 14, 2, 0);
        // (0 0 9) and (0 4 9): behind the last row, seven places, three rows.
        tally(limited("0 0 9", "0 0 5", "0 4 9"), 2, 0, 0, 0, 1, 0, 14, 1, 3);
        tally(limited("0 0 9", "0 0 4", "0 4 9"), 2, 0, 0, 0, 0, 0, 14, 2, 0);
    }

    private static void searchTakesAlikeOnesForPassed() {
        Due.says("a DISTANCE counts if it is less; LIMIT: none for the first, then the least DISTANCE so far");
        tally(of("0 0 0 0"), 3, 2, 0, 0, 0, 0, 4, 1, 0);
        tally(of("3 3 3 3"), 3, 2, 0, 0, 0, 0, 4, 1, 0);
        tally(of("9 8 7 6"), 3, 0, 0, 0, 0, 0, 12, 3, 0);
        tally(of("6 7 8 9"), 3, 2, 0, 0, 0, 0, 4, 1, 0);
        Due.says("none for the first: it counts, however far it is");
        WarpDesk far = Due.desk("series 999" + " -999".repeat(15) + "; query a -999" + " 999".repeat(15)
            + "; level first; cost square; band 0;");
        tally(far, 1, 0, 0, 0, 0, 0, 16, 1, 0);
    }

    private static void searchIsALookAtEachWindow() {
        Due.says("A SEARCH of a QUERY: its WINDOWS from the left, each LOOKED AT");
        Random random = new Random(21);
        for (int run = 0; run < 60; run++) {
            StringBuilder text = new StringBuilder("series");
            for (int i = 0; i < 40; i++) {
                text.append(random.nextInt(20) == 0 ? " gap" : " " + random.nextInt(20));
            }
            text.append("; query a");
            int n = 2 + random.nextInt(6);
            for (int i = 0; i < n; i++) {
                text.append(' ').append(random.nextInt(20));
            }
            WarpDesk desk = Due.desk(text + "; band " + random.nextInt(5) + ";");
            int[] due = new int[9];
            int limit = MOST;
            for (int s = 0; s < 40; s++) {
                int how = desk.look(0, s, limit, 0);
                if (how < 0) {
                    continue;
                }
                due[0]++;
                due[how == 0 ? 7 : how]++;
                due[6] += desk.look(0, s, limit, 1);
                due[8] += how == 4 ? desk.look(0, s, limit, 2) + 1 : 0;
                limit = how == 0 ? desk.distance(0, s) : limit;
            }
            tally(desk, due);
        }
    }

    // ---- promises 22, 23 and 30

    private static void matches(WarpDesk desk, int... windows) {
        for (int i = 0; i < windows.length; i++) {
            Due.is("match " + i, desk.match(0, i, 0), windows[i]);
            Due.is("its distance", desk.match(0, i, 1), desk.distance(0, windows[i]));
        }
        Due.is("no more", desk.match(0, windows.length, 0), -2);
        Due.is("no more", desk.match(0, windows.length, 1), -2);
        Due.is("how many", desk.within(0, MOST), windows.length);
    }

    private static void matchesAreApart() {
        Due.says("MATCHES: again and again the WINDOW of the least DISTANCE, of alike ones the first");
        WarpDesk desk = zeros();
        matches(desk, 2, 7, 0);
        desk.set(3, 1);
        matches(desk, 2, 7, 1, 3, 6, 0, 8);
        desk.set(3, 3);
        matches(desk, 2, 7);
        desk.set(3, 5);
        matches(desk, 2, 7);
        desk.set(3, 6);
        matches(desk, 2, 8);
        desk.set(3, 7);
        matches(desk, 2);
        Due.says("not the most of them: the best one first");
        WarpDesk middle = of("4 4 0 0 4 4");
        middle.set(3, 3);
        matches(middle, 2);
        middle.set(3, 2);
        matches(middle, 2, 0, 4);
    }

    private static void matchesApartOnBothSides() {
        Due.says("which begins APART or more places from each one that is a MATCH already");
        // The best one stands at 10, all else is alike.
        WarpDesk desk = of("9 9 9 9 9 9 9 9 9 9 1 1 9 9 9 9 9 9 9 9 9 9");
        for (int apart = 1; apart <= 12; apart++) {
            desk.set(3, apart);
            boolean isLeft = apart <= 10;
            Due.is("the best, apart " + apart, desk.match(0, 0, 0), 10);
            for (int i = 1; desk.match(0, i, 0) >= 0; i++) {
                int by = Math.abs(desk.match(0, i, 0) - 10);
                Due.is("apart " + apart + ": " + i, by >= apart, true);
            }
            Due.is("within, apart " + apart, desk.within(0, MOST) > 1, isLeft);
        }
        desk.set(3, 10);
        matches(desk, 10, 0, 20);
        desk.set(3, 9);
        matches(desk, 10, 0, 19);
        desk.set(3, 11);
        matches(desk, 10);
    }

    private static void matchesAtTheGreatestApart() {
        Due.says("APART 1 .. 99 in a SERIES of 160");
        WarpDesk desk = Due.desk("series" + " 1".repeat(160) + "; query a 1 1; apart 99;");
        matches(desk, 0, 99);
        desk.set(3, 98);
        matches(desk, 0, 98);
        desk.set(3, 80);
        matches(desk, 0, 80);
        desk.set(3, 79);
        matches(desk, 0, 79, 158);
        WarpDesk just = Due.desk("series" + " 1".repeat(101) + "; query a 1 1; apart 99;");
        matches(just, 0, 99);
        just.drop(1);
        matches(just, 0);
    }

    private static void matchesTillThereIsNone() {
        Due.says("till there is none");
        WarpDesk desk = Due.desk("series" + " 1".repeat(160) + "; query a 1 1; apart 1;");
        Due.is("how many", desk.within(0, 0), 159);
        Due.is("the last", desk.match(0, 158, 0), 158);
        Due.is("its distance", desk.match(0, 158, 1), 0);
        Due.is("no more", desk.match(0, 159, 0), -2);
        Due.is("no more", desk.match(0, 160, 1), -2);
        Due.is("cover", desk.cover(0, 0), 160);
        Due.is("kth", desk.kth(0, 158, 0), 158);
        Due.is("no more", desk.kth(0, 159, 0), -2);
        Due.is("rank", desk.rank(0, 158), 158);
    }

    private static void matchIndexEdges() {
        Due.says("22: the i-th; -2: not so many. NONE: no such ones");
        WarpDesk desk = zeros();
        for (int what = 0; what < 2; what++) {
            for (int i : new int[] {3, 4, 159, 160, 161, MOST}) {
                Due.is("match " + i, desk.match(0, i, what), -2);
            }
            for (int i : new int[] {-1, -2, LEAST}) {
                Due.is("match " + i, desk.match(0, i, what), -1);
                Due.is("match " + i + " without a WINDOW", desk.match(1, i, what), -1);
            }
        }
    }

    private static void withinAtItsLimit() {
        Due.says("23: MATCHES at a DISTANCE no more than a limit: how many");
        WarpDesk desk = zeros();
        // 2, 2 and 9.
        int[] limits = {0, 1, 2, 3, 8, 9, 10, MOST};
        int[] many = {0, 0, 2, 2, 2, 3, 3, 3};
        for (int i = 0; i < limits.length; i++) {
            Due.is("within " + limits[i], desk.within(0, limits[i]), many[i]);
            Due.is("without a WINDOW", desk.within(1, limits[i]), 0);
        }
        Due.is("at 0", of("0 0").within(0, 0), 1);
    }

    private static void coverAtItsLimit() {
        Due.says("COVER: how many places of the SERIES are in its MATCHES at a DISTANCE no more than it");
        WarpDesk desk = zeros();
        int[] limits = {0, 1, 2, 3, 8, 9, 10, MOST};
        int[] places = {0, 0, 4, 4, 4, 6, 6, 6};
        for (int i = 0; i < limits.length; i++) {
            Due.is("cover " + limits[i], desk.cover(0, limits[i]), places[i]);
            Due.is("without a WINDOW", desk.cover(1, limits[i]), 0);
        }
        Due.is("at 0", of("0 0").cover(0, 0), 2);
    }

    private static void coverOfOverlappingMatches() {
        Due.says("COVER: a place in two MATCHES is one place");
        String series = "series" + " 1".repeat(12) + "; query a 1 1 1 1; apart ";
        // APART 1: from 0 to 8; 2: 0 2 4 6 8; 3: 0 3 6; 4: 0 4 8; 5: 0 5; .. 8: 0 8; 9: 0.
        int[] starts = {9, 5, 3, 3, 2, 2, 2, 2, 1, 1};
        int[] covered = {12, 12, 10, 12, 8, 8, 8, 8, 4, 4};
        for (int apart = 1; apart <= 10; apart++) {
            WarpDesk desk = Due.desk(series + apart + ";");
            Due.is("within, apart " + apart, desk.within(0, 0), starts[apart - 1]);
            Due.is("cover, apart " + apart, desk.cover(0, 0), covered[apart - 1]);
        }
    }

    private static void limitsBelow0() {
        Due.says("23, 30: NONE: a limit below 0");
        for (int limit : new int[] {-1, -2, LEAST}) {
            for (int q = -1; q <= 2; q++) {
                Due.is("within " + q + " " + limit, zeros().within(q, limit), -1);
                Due.is("cover " + q + " " + limit, zeros().cover(q, limit), -1);
            }
        }
    }

    // ---- promise 25

    /** With a BAND b the one WINDOW is at 9 * (14 - b) (0 from 14 on), the other at x with each BAND. */
    private static WarpDesk bands(int x, boolean isBentFirst) {
        String bent = "0" + " 0".repeat(14) + " 9";
        String steady = -x + " 9".repeat(15);
        return Due.desk("series " + (isBentFirst ? bent + " gap " + steady : steady + " gap " + bent)
            + "; query a 0" + " 9".repeat(15) + "; band 3;");
    }

    private static void needsEachBand() {
        Due.says("NEEDS: the least BAND (0 .. 15) with which a WINDOW is BEST");
        for (int band = 0; band <= 14; band++) {
            WarpDesk desk = bands(9 * (14 - band) + 1, false);
            Due.is("needs " + band, desk.needs(0, 17), band);
            Due.is("the other", desk.needs(0, 0), band == 0 ? -2 : 0);
            Due.is("BAND is as it was", desk.count(3), 3);
            Due.is("nothing was done", desk.count(9), 0);
        }
    }

    private static void needsOfAlikeOnes() {
        Due.says("NEEDS: BEST, of alike ones the first");
        for (int band = 1; band <= 14; band++) {
            // Alike with this BAND: the first is BEST.
            Due.is("bent first, alike with " + band, bands(9 * (14 - band), true).needs(0, 0), band);
            // Alike with the BAND below: the first is BEST there, the bent one with this.
            Due.is("bent last, alike with " + (band - 1), bands(9 * (15 - band), false).needs(0, 17), band);
        }
        Due.is("bent last, alike from 14 on", bands(0, false).needs(0, 17), -2);
        Due.is("bent first, alike from 14 on", bands(0, true).needs(0, 0), 14);
        Due.is("the other one", bands(0, true).needs(0, 17), 0);
    }

    private static void needsIsTheLeastBand() {
        Due.says("NEEDS: whatever BAND is set, and be it BEST with no other");
        for (int set = 0; set <= 15; set++) {
            WarpDesk desk = bands(30, false);
            desk.set(0, set);
            // 9 * (14 - 11) = 27 is less than 30, 9 * (14 - 10) = 36 is not.
            Due.is("needs with " + set, desk.needs(0, 17), 11);
            Due.is("needs with " + set, desk.needs(0, 0), 0);
            Due.is("best with " + set, desk.best(0, 0), set >= 11 ? 17 : 0);
        }
        Due.says("NEEDS at the LEVEL and COST that are set");
        WarpDesk level = Due.desk("series 5 5 9 gap 0 0 1; query a 5 5 6;");
        Due.is("none: 3", level.needs(0, 0), 0);
        Due.is("none: 15", level.needs(0, 4), -2);
        level.set(1, 2);
        Due.is("first: 3", level.needs(0, 0), -2);
        Due.is("first: 0", level.needs(0, 4), 0);
        WarpDesk cost = Due.desk("series 0 3 gap 2 2; query a 0 0;");
        Due.is("plain: 3", cost.needs(0, 0), 0);
        Due.is("plain: 4", cost.needs(0, 3), -2);
        cost.set(2, 1);
        Due.is("square: 9", cost.needs(0, 0), -2);
        Due.is("square: 8", cost.needs(0, 3), 0);
    }

    private static void needsWithNone() {
        Due.says("25: -2: with none; NONE: no such ones");
        WarpDesk desk = Due.desk("series 1 2 gap 3 4 5; query a 1 2; query b 9 9 9;");
        Due.is("always", desk.needs(0, 0), 0);
        Due.is("never", desk.needs(0, 3), -2);
        Due.is("never", desk.needs(0, 4), -2);
        Due.is("the only one", desk.needs(1, 3), 0);
        for (int s : new int[] {-1, 1, 2, 5, 6, MOST, LEAST}) {
            Due.is("WINDOW " + s, desk.needs(0, s), -1);
        }
        for (int q : new int[] {-1, 2, MOST, LEAST}) {
            Due.is("QUERY " + q, desk.needs(q, 0), -1);
        }
    }

    // ---- promise 32

    private static void whoseOfAlikeOnesTheFirst() {
        Due.says("WHOSE: the QUERY of that length at the least DISTANCE, of alike ones the first");
        WarpDesk desk = Due.desk("series 1 1 9 9 5 5 5; query a 0 0; query b 2 2; query c 9 9; query d 5 5 5; query e 2 2;");
        int[] due = {0, 1, 2, 2, 1, 1};
        // (1 9): 10, 8, 8, none, 8; (9 5): 14, 10, 4; (5 5): 10, 6, 8.
        for (int s = 0; s < due.length; s++) {
            Due.is("whose " + s + " 2", desk.whose(s, 2), due[s]);
        }
        Due.is("the only one of three", desk.whose(0, 3), 3);
        Due.is("the only one of three", desk.whose(4, 3), 3);
        WarpDesk long16 = Due.desk("series" + " 1".repeat(16) + "; query a 1 1; query b" + " 999".repeat(16) + ";");
        Due.is("of sixteen", long16.whose(0, 16), 1);
        Due.is("of fifteen", long16.whose(0, 15), -2);
        Due.is("of two", long16.whose(14, 2), 0);
    }

    private static void whoseOfNoSuchLength() {
        Due.says("32: -2: there is no QUERY of that length; NONE: no such ones");
        WarpDesk desk = Due.desk("series 1 2 3 gap 4 5; query a 1 2;");
        Due.is("of three", desk.whose(0, 3), -2);
        Due.is("of two", desk.whose(0, 2), 0);
        Due.is("the last of two", desk.whose(4, 2), 0);
        Due.is("without a QUERY", Due.desk("series 1 2;").whose(0, 2), -2);
        for (int s : new int[] {-1, 2, 3, 5, 6, 160, MOST, LEAST}) {
            Due.is("WINDOW " + s, desk.whose(s, 2), -1);
        }
        for (int n : new int[] {0, -1, 4, 7, 160, 161, MOST, LEAST}) {
            Due.is("length " + n, desk.whose(0, n), -1);
        }
        Due.is("of no SERIES", Due.desk("query a 1 2;").whose(0, 2), -1);
        Due.is("greatest ints", desk.whose(MOST, MOST), -1);
    }

    // ---- promises 33 and 34

    private static void rankAndKthOfAlikeOnes() {
        Due.says("RANK: how many WINDOWS of the QUERY are at a less DISTANCE, or at the same and begin ahead of it");
        int[] byRank = {2, 7, 1, 3, 6, 0, 8};
        int[] distances = {2, 2, 4, 4, 4, 9, 9};
        WarpDesk desk = zeros();
        for (int k = 0; k < byRank.length; k++) {
            Due.is("rank of " + byRank[k], desk.rank(0, byRank[k]), k);
            Due.is("kth " + k, desk.kth(0, k, 0), byRank[k]);
            Due.is("its distance", desk.kth(0, k, 1), distances[k]);
        }
        for (int s : new int[] {-1, 4, 5, 9, 10}) {
            Due.is("rank of " + s, desk.rank(0, s), -1);
        }
        WarpDesk alike = of("3 3 3 3 3");
        for (int s = 0; s < 4; s++) {
            Due.is("rank of alike ones", alike.rank(0, s), s);
            Due.is("kth of alike ones", alike.kth(0, s, 0), s);
            Due.is("kth of alike ones", alike.kth(0, s, 1), 6);
        }
    }

    private static void kthIndexEdges() {
        Due.says("34: -2: not so many; NONE: no such ones");
        WarpDesk desk = zeros();
        for (int what = 0; what < 2; what++) {
            for (int k : new int[] {7, 8, 159, 160, MOST}) {
                Due.is("kth " + k, desk.kth(0, k, what), -2);
            }
            for (int k : new int[] {-1, -2, LEAST}) {
                Due.is("kth " + k, desk.kth(0, k, what), -1);
                Due.is("kth " + k + " without a WINDOW", desk.kth(1, k, what), -1);
            }
        }
    }

    // ---- promises 35 and 36

    private static void slackAddsAllWindows() {
        Due.says("SLACK: by how much the DISTANCES are more than the greatest of ENDS, OVER, BACK, added");
        // DISTANCE 8, ENDS 6; DISTANCE 4, all 0; DISTANCE 5, OVER 5.
        Due.is("less by ENDS", limited("0 8 2", "gap", "0 2 8").slack(0), 2);
        Due.is("less by none", limited("0 0 9", "gap", "0 4 9").slack(0), 4);
        Due.is("OVER is all", limited("0 0 0", "gap", "0 5 0").slack(0), 0);
        Due.is("BACK is all", limited("0 5 0", "gap", "0 0 0").slack(0), 0);
        Due.is("of two WINDOWS", limited("0 0 9", "0 4 9", "0 4 9").slack(0), 8);
        WarpDesk desk = limited("0 0 9", "0 4 9", "0 4 9");
        desk.set(2, 1);
        // square: 0 16 / 0 16 97 / 25 16.
        Due.is("square", desk.slack(0), 32);
        desk.set(0, 0);
        Due.is("with a BAND of 0 none", desk.slack(0), 0);
    }

    private static void slackWraps() {
        Due.says("SLACK: added (32 bits that wrap)");
        wrapped("+-+--", "++++----", 0, 2, 1);
        wrapped("+++---", "+---", 2, 1, 1);
        wrapped("++++----", "+-", 2, 4, 2);
        // A sum just below what wraps, for the other side.
        wrapped("++--", "+-", 0, 1, 0);
    }

    private static void wrapped(String query, String series, int level, int band, int times) {
        StringBuilder text = new StringBuilder("query a");
        for (int i = 0; i < 16; i++) {
            text.append(query.charAt(i % query.length()) == '+' ? " 999" : " -999");
        }
        text.append("; cost square; series");
        for (int i = 0; i < 160; i++) {
            text.append(series.charAt(i % series.length()) == '+' ? " 999" : " -999");
        }
        String whole = text + ";";
        long sum = 0;
        WarpDesk desk = null;
        for (int s = 0; s < 145; s++) {
            if (s % 50 == 0) {
                desk = Due.desk(whole);
                desk.set(1, level);
                desk.set(0, band);
            }
            long bound = Math.max(desk.bound(0, s, 0), Math.max(desk.bound(0, s, 1), desk.bound(0, s, 2)));
            sum += desk.distance(0, s) - bound;
        }
        Due.is("how far it goes", sum > MOST ? sum > 0xFFFFFFFFL ? 2 : 1 : 0, times);
        Due.is("slack of " + sum, desk.slack(0), (int) sum);
    }

    private static void turns(String series, int due) {
        Due.is("turns of " + series, of(series).turns(0), due);
    }

    private static void turnsOfFallsAndRises() {
        Due.says("TURNS: how often, from WINDOW to WINDOW, the DISTANCE was falling and then rises");
        turns("5", 0);
        turns("5 5", 0);
        turns("5 5 5", 0);
        turns("9 5 1", 0);
        turns("1 5 9", 0);
        // 10 6 10; 6 10 6; 10 6 10 6; 10 6 10 6 10.
        turns("9 1 5 5", 1);
        turns("5 1 9 9 1 1", 0);
        turns("9 1 5 5 1", 1);
        turns("9 1 5 5 1 9", 2);
        turns("9 1 1 9 1 1 9 1 1 9", 3);
        // 10 3 7 14; 14 10 3 7 14; 10 3 7 14 10 12 19.
        turns("9 1 2 5 9", 1);
        turns("5 9 1 2 5 9", 1);
        turns("9 1 2 5 9 1 11 8", 2);
        turns("1 9 9 1", 0);
    }

    private static void turnsPassOverAlikeOnes() {
        Due.says("TURNS: (alike ones are passed over)");
        turns("9 1 1 1 1 1 9", 1);
        turns("9 1 9 1 9 1 9", 0);
        turns("9 9 9 1 1 1 9", 1);
        turns("9 9 9", 0);
        turns("1 1 1 9 9 9 1 1 1", 0);
        Due.says("TURNS: from WINDOW to WINDOW, a GAP between them or not");
        turns("9 9 gap 1 1 gap 9 9", 1);
        turns("9 9 gap 1 1 gap 1 1 gap 9 9", 1);
        turns("1 1 gap 9 9 gap 1 1", 0);
        turns("9 9 gap 1 gap 1 1 gap 5", 0);
    }

    // ---- promise 39

    private static void firedAtItsLimit() {
        Due.says("FIRED: at a DISTANCE no more than it");
        WarpDesk desk = Due.desk("series 9 0 0; query a 0 0; query b 1 0; query c 3 4; query d 0 0 0; query e 9 0 1;");
        // 0, 1, 7, 9, 1.
        int[] limits = {0, 1, 6, 7, 8, 9, 10, MOST};
        int[] bits = {1, 19, 19, 23, 23, 31, 31, 31};
        for (int i = 0; i < limits.length; i++) {
            Due.is("fired " + limits[i], desk.fired(limits[i]), bits[i]);
        }
    }

    private static void firedByTheNewestWindow() {
        Due.says("FIRED: QUERIES whose WINDOW that ends with the newest READING is there (a GAP the newest: none)");
        WarpDesk desk = Due.desk("query a 1 1; query b 1 1 1;");
        Due.is("no SERIES", desk.fired(MOST), 0);
        desk.push(1);
        Due.is("one READING", desk.fired(MOST), 0);
        desk.push(1);
        Due.is("two", desk.fired(MOST), 1);
        Due.is("two", desk.fired(0), 1);
        desk.push(1);
        Due.is("three", desk.fired(0), 3);
        desk.gap();
        Due.is("a GAP the newest", desk.fired(MOST), 0);
        desk.push(1);
        Due.is("one behind a GAP", desk.fired(MOST), 0);
        desk.push(1);
        Due.is("two behind a GAP", desk.fired(0), 1);
        desk.push(1);
        Due.is("three behind a GAP", desk.fired(0), 3);
        desk.push(2);
        Due.is("the newest is another", desk.fired(0), 0);
        Due.is("the newest is another", desk.fired(1), 3);
        desk.undo();
        Due.is("undone", desk.fired(0), 3);
        desk.drop(5);
        Due.is("two are left", desk.fired(0), 1);
        Due.is("without QUERIES", Due.desk("series 1 1;").fired(MOST), 0);
        Due.is("a new object", new WarpDesk().fired(0), 0);
        WarpDesk full = Due.desk("series" + " 3".repeat(144) + " 1".repeat(16) + "; query a" + " 1".repeat(16) + ";");
        Due.is("the last sixteen of 160", full.fired(0), 1);
    }

    private static void firedWithALimitBelow0() {
        Due.says("39: NONE: a LIMIT below 0");
        for (int limit : new int[] {-1, -2, LEAST}) {
            Due.is("fired " + limit, zeros().fired(limit), -1);
            Due.is("fired " + limit, new WarpDesk().fired(limit), -1);
        }
    }

    // ---- what is set counts in each call

    /** Two WINDOWS and how far they are: all calls that rank them. */
    private static void ranked(WarpDesk desk, int better, int less, int worse, int more) {
        Due.is("best", desk.best(0, 0), better);
        Due.is("best's distance", desk.best(0, 1), less);
        matches(desk, better, worse);
        Due.is("match's distance", desk.match(0, 0, 1), less);
        Due.is("next match's distance", desk.match(0, 1, 1), more);
        Due.is("within", desk.within(0, less), 1);
        Due.is("within just less than the other", desk.within(0, more - 1), 1);
        Due.is("within both", desk.within(0, more), 2);
        int n = Math.abs(better - worse) - 1;
        Due.is("cover", desk.cover(0, less), n);
        Due.is("cover of both", desk.cover(0, more), 2 * n);
        Due.is("kth 0", desk.kth(0, 0, 0), better);
        Due.is("kth 0's distance", desk.kth(0, 0, 1), less);
        Due.is("kth 1", desk.kth(0, 1, 0), worse);
        Due.is("kth 1's distance", desk.kth(0, 1, 1), more);
        Due.is("rank", desk.rank(0, better), 0);
        Due.is("rank", desk.rank(0, worse), 1);
        Due.is("counted", desk.search(0, 7), better < worse ? 1 : 2);
    }

    private static void bandCountsInEachCall() {
        Due.says("DISTANCE over places no more than BAND apart: in each call");
        WarpDesk desk = Due.desk("series 0 8 1 0 gap 0 0 9 0; query a 0 9 0 0; query b 0 0 8 2; apart 1; band 1;");
        ranked(desk, 5, 0, 0, 2);
        Due.is("whose", desk.whose(5, 4), 0);
        Due.is("fired", desk.fired(2), 1);
        desk.set(0, 0);
        ranked(desk, 0, 2, 5, 18);
        Due.is("whose", desk.whose(5, 4), 1);
        Due.is("fired", desk.fired(3), 2);
        WarpDesk three = Due.desk("series 0 8 1 0 gap 0 0 9 0 gap 0 8 1 0; query a 0 9 0 0; band 1;");
        Due.is("turns of 2 0 2", three.turns(0), 1);
        // (0 8 1 0) is at 2, and its BACK is 1.
        Due.is("slack", three.slack(0), 1 + 0 + 1);
        three.set(0, 0);
        Due.is("turns of 2 18 2", three.turns(0), 0);
        Due.is("slack", three.slack(0), 0);
    }

    private static void levelAndCostCountInEachCall() {
        Due.says("each brought to its LEVEL: in each call");
        WarpDesk level = Due.desk("series 5 5 9 gap 0 0 1; query a 5 5 6; query b 1 0 0; apart 1;");
        ranked(level, 0, 3, 4, 15);
        Due.is("whose", level.whose(4, 3), 1);
        Due.is("fired", level.fired(2), 2);
        level.set(1, 2);
        ranked(level, 4, 0, 0, 3);
        Due.is("whose", level.whose(4, 3), 0);
        Due.is("fired", level.fired(0), 1);
        Due.says("COST plain, square: in each call");
        WarpDesk cost = Due.desk("series 0 3 gap 2 2; query a 0 0; query b 2 5; apart 1;");
        ranked(cost, 0, 3, 3, 4);
        Due.is("whose", cost.whose(3, 2), 1);
        Due.is("fired", cost.fired(3), 2);
        cost.set(2, 1);
        ranked(cost, 3, 8, 0, 9);
        Due.is("whose", cost.whose(3, 2), 0);
        Due.is("fired", cost.fired(8), 1);
    }

    private static void inAFullSeries() {
        Due.says("all WINDOWS of a SERIES of 160");
        // Sums of two: 10 all along, 6 and 2 and 6 around the places 20, 100 and 157.
        int[] lows = {20, 100, 157};
        StringBuilder text = new StringBuilder();
        for (int i = 0; i < 160; i++) {
            boolean isLow = i == 20 || i == 21 || i == 100 || i == 101 || i == 157 || i == 158;
            text.append(isLow ? " 1" : " 5");
        }
        WarpDesk desk = of(text.toString());
        Due.is("turns", desk.turns(0), 3);
        for (int k = 0; k < 3; k++) {
            Due.is("kth " + k, desk.kth(0, k, 0), lows[k]);
            Due.is("rank of " + lows[k], desk.rank(0, lows[k]), k);
            Due.is("match " + k, desk.match(0, k, 0), lows[k]);
        }
        Due.is("within 2", desk.within(0, 2), 3);
        Due.is("cover 2", desk.cover(0, 2), 6);
        Due.is("the last one's rank", desk.rank(0, 156), 7);
        Due.is("the last of all", desk.kth(0, 158, 0), 155);
        Due.is("search: WINDOWS", desk.search(0, 0), 159);
        Due.is("search: counted", desk.search(0, 7), 3);
    }

    private static void nothingOfACallAheadCounts() {
        Due.says("an answer is by what stands, not by what was asked ahead of it");
        StringBuilder text = new StringBuilder("series");
        for (int i = 0; i < 100; i++) {
            text.append(i == 50 || i == 51 ? " 0" : " 9");
        }
        WarpDesk desk = Due.desk(text + "; query a 0 0; query b" + " 9".repeat(16) + "; apart 1;");
        Due.is("cover of all", desk.cover(0, MOST), 100);
        Due.is("cover of one", desk.cover(0, 0), 2);
        Due.is("cover by another QUERY", desk.cover(1, 0), 98);
        Due.is("cover of one", desk.cover(0, 0), 2);
        Due.is("matches of all", desk.within(0, MOST), 99);
        Due.is("matches of the other", desk.within(1, 0), 35 + 33);
        desk.set(3, 99);
        Due.is("matches with another APART", desk.within(0, MOST), 1);
        Due.is("no second match", desk.match(0, 1, 0), -2);
        Due.is("search", desk.search(0, 0), 99);
        Due.is("search of the other", desk.search(1, 0), 85);
        Due.is("search again", desk.search(0, 7), 3);
        Due.is("search again", desk.search(0, 7), 3);
        Due.is("the longer way", desk.way(1, 0, -1), 16);
        Due.is("the shorter way", desk.way(0, 0, -1), 2);
        Due.is("behind its end", desk.way(0, 0, 2), -1);
        desk.drop(100);
        Due.is("best of nothing", desk.best(0, 0), -2);
        Due.is("matches of nothing", desk.within(0, MOST), 0);
        Due.is("cover of nothing", desk.cover(0, MOST), 0);
        Due.is("kth of nothing", desk.kth(0, 0, 1), -2);
        Due.is("turns of nothing", desk.turns(0), 0);
        Due.is("search of nothing", desk.search(0, 6), 0);
    }

    // ---- what is asked changes nothing

    private static void asksChangeNothing() {
        Due.says("Nothing is promised beyond the answers and state changes described above");
        Twins.nothingHappens("all that is asked", Twins::busyWithTape, desk -> {
            for (int q = -1; q < 3; q++) {
                for (Call call : CALLS) {
                    call.of(desk, q);
                }
                desk.distance(q, 0);
                desk.bound(q, 0, 1);
                desk.look(q, 0, 5, 1);
                desk.way(q, 0, -1);
                desk.lean(q, 0, 0);
                desk.alike(q, 1);
                desk.query(q, 0);
                desk.near(q, 2, 0);
                desk.pair(q, 0);
                desk.odd(q, 0);
                desk.whose(0, q);
                desk.window(0, q, 0);
                desk.level(0, q, 0);
                desk.flat(q);
                desk.whole(q);
                desk.fired(q);
                desk.count(q);
                desk.at(q);
                desk.place();
                desk.cause();
            }
            return 0;
        }, 0);
    }
}

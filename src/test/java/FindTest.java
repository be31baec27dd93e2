/** Promises 20 to 23, 25, 27 to 30, 32 to 36 and 39: what is found among many WINDOWS. */
public final class FindTest {
    private static final int LEAST = Integer.MIN_VALUE;
    private static final int MOST = Integer.MAX_VALUE;

    public static void main(String[] args) {
        promise20Best();
        promise21Search();
        promise21EachBound();
        promise22Match();
        promise23Within();
        promise25Needs();
        promise27Near();
        promise28Pair();
        promise29Odd();
        promise30Cover();
        promise32Whose();
        promise33Rank();
        promise34Kth();
        promise35Slack();
        promise36Turns();
        promise39Fired();
        Due.end();
    }

    /** DISTANCES of the QUERY 0: 6, 3, 2, 3, none, none, 1, 4. The QUERY 1 has no WINDOW. */
    private static WarpDesk zeros() {
        return Due.desk("series 5 1 2 0 3 gap 1 0 4; query a 0 0; query b 0 0 0 0 0 0; apart 2;");
    }

    private static void promise20Best() {
        WarpDesk desk = zeros();
        Due.is("best", desk.best(0, 0), 6);
        Due.is("its distance", desk.best(0, 1), 1);
        Due.is("what 2", desk.best(0, 2), -1);
        Due.is("what -1", desk.best(0, -1), -1);
        Due.is("no window", desk.best(1, 0), -2);
        Due.is("no window", desk.best(1, 1), -2);
        Due.is("no window, what 2", desk.best(1, 2), -1);
        Due.is("no such query", desk.best(2, 0), -1);
        Due.is("greatest ints", desk.best(MOST, MOST), -1);
        desk.drop(6);
        Due.is("after a drop", desk.best(0, 0), 0);
        Due.is("of alike ones the first", Due.desk("series 1 2 1 2; query a 1 2;").best(0, 0), 0);
    }

    private static void promise21Search() {
        WarpDesk desk = zeros();
        int[] tally = {6, 2, 0, 0, 0, 0, 16, 4, 0, -1};
        for (int what = 0; what < tally.length; what++) {
            Due.is("search " + what, desk.search(0, what), tally[what]);
            Due.is("search of no window " + what, desk.search(1, what), what < 9 ? 0 : -1);
            Due.is("no such query " + what, desk.search(2, what), -1);
        }
        Due.is("what -1", desk.search(0, -1), -1);
        Due.is("least ints", desk.search(LEAST, LEAST), -1);
    }

    private static void promise21EachBound() {
        // The tables stand in FitTest: a DISTANCE so far, then a WINDOW that is passed in each way.
        String query = "; query b 3 -2 9 1; band 1;";
        // (3 + d, -2, 9, 1) is at the DISTANCE d: LIMIT d for (0, 5, 0, 0), whose ENDS are 4, OVER 1, BACK 7.
        int[] limits = {4, 7, 8, 10, 11, 12};
        int[] ways = {1, 3, 4, 4, 5, 7};
        int[] rows = {0, 0, 3, 4, 0, 0};
        int[] cells = {0, 0, 8, 10, 10, 10};
        for (int i = 0; i < limits.length; i++) {
            WarpDesk desk = Due.desk("series 3 -2 9 " + (1 + limits[i]) + " gap 0 5 0 0" + query);
            Due.is("distance of the first", desk.distance(0, 0), limits[i]);
            Due.is("windows", desk.search(0, 0), 2);
            for (int what = 1; what <= 5; what++) {
                Due.is("limit " + limits[i] + ", " + what, desk.search(0, what), what == ways[i] ? 1 : 0);
            }
            Due.is("limit " + limits[i] + ", cells", desk.search(0, 6), 10 + cells[i]);
            Due.is("limit " + limits[i] + ", counted", desk.search(0, 7), ways[i] == 7 ? 2 : 1);
            Due.is("limit " + limits[i] + ", rows", desk.search(0, 8), rows[i]);
        }
        WarpDesk over = Due.desk("series 0 5 0 7 gap 3 -2 9 1; query a 0 5 0 0; band 1;");
        Due.is("by over", over.search(0, 2), 1);
    }

    private static void matches(WarpDesk desk, int... windowsAndDistances) {
        int size = windowsAndDistances.length / 2;
        for (int i = 0; i < size; i++) {
            Due.is("match " + i, desk.match(0, i, 0), windowsAndDistances[2 * i]);
            Due.is("match's distance " + i, desk.match(0, i, 1), windowsAndDistances[2 * i + 1]);
        }
        Due.is("no more", desk.match(0, size, 0), -2);
        Due.is("no more", desk.match(0, size, 1), -2);
        Due.is("no more", desk.match(0, MOST, 0), -2);
    }

    private static void promise22Match() {
        WarpDesk desk = zeros();
        matches(desk, 6, 1, 2, 2, 0, 6);
        desk.set(3, 1);
        matches(desk, 6, 1, 2, 2, 1, 3, 3, 3, 7, 4, 0, 6);
        desk.set(3, 6);
        matches(desk, 6, 1, 0, 6);
        desk.set(3, 7);
        matches(desk, 6, 1);
        Due.is("match -1", desk.match(0, -1, 0), -1);
        Due.is("what 2", desk.match(0, 0, 2), -1);
        Due.is("what -1", desk.match(0, 0, -1), -1);
        Due.is("no window", desk.match(1, 0, 0), -2);
        Due.is("no such query", desk.match(2, 0, 0), -1);
        Due.is("least ints", desk.match(LEAST, LEAST, LEAST), -1);
    }

    private static void promise23Within() {
        WarpDesk desk = zeros();
        int[] limits = {0, 1, 2, 5, 6, MOST};
        int[] due = {0, 1, 2, 2, 3, 3};
        for (int i = 0; i < limits.length; i++) {
            Due.is("within " + limits[i], desk.within(0, limits[i]), due[i]);
        }
        desk.set(3, 1);
        Due.is("within 3, apart 1", desk.within(0, 3), 4);
        Due.is("limit -1", desk.within(0, -1), -1);
        Due.is("no window", desk.within(1, 5), 0);
        Due.is("no such query", desk.within(2, 5), -1);
        Due.is("query -1", desk.within(-1, 5), -1);
    }

    private static void promise25Needs() {
        WarpDesk desk = Due.desk("series 0 0 5 0 gap 0 4 0 0 gap 9 9 9 9; query a 0 5 0 0; band 7;");
        Due.is("best with band 1", desk.needs(0, 0), 1);
        Due.is("best with band 0", desk.needs(0, 5), 0);
        Due.is("never best", desk.needs(0, 10), -2);
        Due.is("over a gap", desk.needs(0, 1), -1);
        Due.is("no such query", desk.needs(1, 0), -1);
        Due.is("window -1", desk.needs(0, -1), -1);
        Due.is("greatest ints", desk.needs(MOST, MOST), -1);
        Due.is("band is as it was", desk.count(3), 7);
        String zeros = " 0".repeat(14);
        WarpDesk wide = Due.desk("series 9" + zeros + " 9 gap 0" + zeros + " 9; query a 9" + " 9".repeat(14)
            + " 9; band 0;");
        Due.is("with every band", wide.needs(0, 0), 0);
    }

    /** WINDOWS of 2: (1 2), (2 9), (9 9), (9 1), (1 3), (3 7). */
    private static WarpDesk stretches() {
        return Due.desk("series 1 2 9 9 1 3 7;");
    }

    private static void promise27Near() {
        WarpDesk desk = stretches();
        int[] windows = {4, 5, 5, 0, 0, 1};
        int[] distances = {1, 3, 8, 9, 1, 3};
        for (int s = 0; s < windows.length; s++) {
            Due.is("near " + s, desk.near(s, 2, 0), windows[s]);
            Due.is("near's distance " + s, desk.near(s, 2, 1), distances[s]);
        }
        Due.is("what 2", desk.near(0, 2, 2), -1);
        Due.is("what -1", desk.near(0, 2, -1), -1);
        Due.is("no window", desk.near(6, 2, 0), -1);
        Due.is("window -1", desk.near(-1, 2, 0), -1);
        Due.is("length 1", desk.near(0, 1, 0), -1);
        Due.is("none far enough", desk.near(0, 4, 0), -2);
        Due.is("none far enough", desk.near(0, 4, 1), -2);
        Due.is("just far enough", desk.near(0, 3, 0), 4);
        Due.is("greatest ints", desk.near(MOST, MOST, MOST), -1);
        Due.is("of alike ones the first", Due.desk("series 1 1 0 0 2 2 1 1 1;").near(0, 2, 0), 6);
        WarpDesk longer = Due.desk("series" + " 1 2".repeat(20) + ";");
        Due.is("length 16", longer.near(0, 16, 0), 16);
        Due.is("length 17", longer.near(0, 17, 0), -1);
    }

    private static void promise28Pair() {
        WarpDesk desk = stretches();
        int[] due = {0, 4, 1, -1};
        for (int what = 0; what < due.length; what++) {
            Due.is("pair " + what, desk.pair(2, what), due[what]);
            Due.is("no two " + what, desk.pair(4, what), what < 3 ? -2 : -1);
            Due.is("length 1, " + what, desk.pair(1, what), -1);
            Due.is("length 17, " + what, desk.pair(17, what), -1);
        }
        Due.is("what -1", desk.pair(2, -1), -1);
        Due.is("greatest ints", desk.pair(MOST, MOST), -1);
        WarpDesk tied = Due.desk("series 9 1 2 5 1 2 1 2;");
        Due.is("lesser of alike ones", tied.pair(2, 0), 1);
        Due.is("greater of alike ones", tied.pair(2, 1), 4);
        Due.is("distance of alike ones", tied.pair(2, 2), 0);
        Due.is("length 16", Due.desk("series" + " 1 2".repeat(16) + ";").pair(16, 1), 16);
    }

    private static void promise29Odd() {
        WarpDesk desk = stretches();
        Due.is("odd", desk.odd(2, 0), 3);
        Due.is("its near's distance", desk.odd(2, 1), 9);
        Due.is("what 2", desk.odd(2, 2), -1);
        Due.is("what -1", desk.odd(2, -1), -1);
        Due.is("none has one", desk.odd(4, 0), -2);
        Due.is("none has one", desk.odd(4, 1), -2);
        Due.is("length 1", desk.odd(1, 0), -1);
        Due.is("length 17", desk.odd(17, 0), -1);
        Due.is("least ints", desk.odd(LEAST, LEAST), -1);
        Due.is("of alike ones the first", Due.desk("series 1 1 1 1 1;").odd(2, 0), 0);
        Due.is("at no distance", Due.desk("series 1 1 1 1 1;").odd(2, 1), 0);
        Due.is("which has one", Due.desk("series 1 2 3 gap 4 5 6;").odd(3, 0), 0);
    }

    private static void promise30Cover() {
        WarpDesk desk = zeros();
        int[] limits = {0, 1, 2, 5, 6, MOST};
        int[] due = {0, 2, 4, 4, 6, 6};
        for (int i = 0; i < limits.length; i++) {
            Due.is("cover " + limits[i], desk.cover(0, limits[i]), due[i]);
        }
        desk.set(3, 1);
        Due.is("cover 3, apart 1", desk.cover(0, 3), 6);
        Due.is("cover of all", desk.cover(0, MOST), 8);
        Due.is("limit -1", desk.cover(0, -1), -1);
        Due.is("no window", desk.cover(1, 5), 0);
        Due.is("no such query", desk.cover(2, 5), -1);
    }

    private static void promise32Whose() {
        WarpDesk desk = Due.desk("series 1 0 gap 1 1 1; query a 0 0; query b 1 1; query c 0 0;");
        Due.is("of alike ones the first", desk.whose(0, 2), 0);
        Due.is("the second", desk.whose(3, 2), 1);
        Due.is("no query of that length", desk.whose(3, 3), -2);
        Due.is("no query of length 1", desk.whose(0, 1), -2);
        Due.is("over a gap", desk.whose(1, 2), -1);
        Due.is("no length", desk.whose(0, 0), -1);
        Due.is("beyond the end", desk.whose(5, 2), -1);
        Due.is("window -1", desk.whose(-1, 2), -1);
        Due.is("greatest ints", desk.whose(MOST, MOST), -1);
    }

    private static final int[] BY_RANK = {6, 2, 1, 3, 7, 0};
    private static final int[] DISTANCES_BY_RANK = {1, 2, 3, 3, 4, 6};

    private static void promise33Rank() {
        WarpDesk desk = zeros();
        for (int rank = 0; rank < BY_RANK.length; rank++) {
            Due.is("rank of " + BY_RANK[rank], desk.rank(0, BY_RANK[rank]), rank);
        }
        Due.is("over a gap", desk.rank(0, 4), -1);
        Due.is("beyond the end", desk.rank(0, 8), -1);
        Due.is("window -1", desk.rank(0, -1), -1);
        Due.is("no such query", desk.rank(2, 0), -1);
        Due.is("least ints", desk.rank(LEAST, LEAST), -1);
    }

    private static void promise34Kth() {
        WarpDesk desk = zeros();
        for (int k = 0; k < BY_RANK.length; k++) {
            Due.is("kth " + k, desk.kth(0, k, 0), BY_RANK[k]);
            Due.is("kth's distance " + k, desk.kth(0, k, 1), DISTANCES_BY_RANK[k]);
        }
        Due.is("not so many", desk.kth(0, 6, 0), -2);
        Due.is("not so many", desk.kth(0, 6, 1), -2);
        Due.is("not so many", desk.kth(0, MOST, 1), -2);
        Due.is("no window", desk.kth(1, 0, 0), -2);
        Due.is("kth -1", desk.kth(0, -1, 0), -1);
        Due.is("what 2", desk.kth(0, 0, 2), -1);
        Due.is("what -1", desk.kth(0, 0, -1), -1);
        Due.is("no such query", desk.kth(2, 0, 0), -1);
    }

    private static void promise35Slack() {
        // DISTANCE 11 and bounds 4, 7, 1 (FitTest); the other WINDOW is the QUERY itself.
        WarpDesk desk = Due.desk("series 3 -2 9 1 gap 0 5 0 0; query a 0 5 0 0; query b 3 -2 9 1; query c 1 1; band 1;");
        Due.is("slack of a", desk.slack(0), 4);
        Due.is("slack of b", desk.slack(1), 4);
        Due.is("slack of two readings", desk.slack(2), 0);
        Due.is("no such query", desk.slack(3), -1);
        Due.is("query -1", desk.slack(-1), -1);
        desk.drop(9);
        Due.is("no window", desk.slack(0), 0);
    }

    private static void promise36Turns() {
        Due.is("two turns", zeros().turns(0), 2);
        Due.is("no window", zeros().turns(1), 0);
        Due.is("no such query", zeros().turns(2), -1);
        Due.is("query -1", zeros().turns(-1), -1);
        Due.is("alike ones", Due.desk("series 3 0 0 0 0 5; query a 0 0;").turns(0), 1);
        Due.is("rising alone", Due.desk("series 0 1 2 3; query a 0 0;").turns(0), 0);
        Due.is("falling alone", Due.desk("series 3 2 1 0; query a 0 0;").turns(0), 0);
        Due.is("rising, then falling", Due.desk("series 0 0 5 0 0; query a 0 0;").turns(0), 0);
        Due.is("over a gap", Due.desk("series 4 1 1 gap 3 3; query a 0 0;").turns(0), 1);
    }

    private static void promise39Fired() {
        WarpDesk desk = Due.desk("series 0 0 1 2; query a 1 2; query b 0 1 3; query c 9 9; query d 0 0 0 1 2;");
        Due.is("fired 0", desk.fired(0), 1);
        Due.is("fired 1", desk.fired(1), 3);
        Due.is("fired 14", desk.fired(14), 3);
        Due.is("fired 15", desk.fired(15), 7);
        Due.is("fired by all", desk.fired(MOST), 7);
        Due.is("fired -1", desk.fired(-1), -1);
        Due.is("fired by the least int", desk.fired(LEAST), -1);
        desk.gap();
        Due.is("a gap the newest", desk.fired(MOST), 0);
        desk.push(1);
        Due.is("one behind a gap", desk.fired(MOST), 0);
        desk.push(2);
        Due.is("two behind a gap", desk.fired(MOST), 5);
    }
}

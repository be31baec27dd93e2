/** Promises 16 to 19, 24, 26 and 31: two rows at their LEVEL, how far apart and by which way. */
public final class FitTest {
    private static final int LEAST = Integer.MIN_VALUE;
    private static final int MOST = Integer.MAX_VALUE;

    public static void main(String[] args) {
        promise16Level();
        promise17Distance();
        promise17Levels();
        promise18Bound();
        promise19Look();
        promise19Wrong();
        promise24Way();
        promise26Alike();
        promise31Lean();
        Due.end();
    }

    /** The table of a and the WINDOW 0 is worked out by hand; b and the WINDOW 5 turn it over. */
    private static WarpDesk worked() {
        return Due.desk("series 3 -2 9 1 gap 0 5 0 0; query a 0 5 0 0; query b 3 -2 9 1; query c 1 2; band 1;");
    }

    private static void levels(WarpDesk desk, int s, int n, int... due) {
        for (int i = 0; i < due.length; i++) {
            Due.is("level " + desk.count(4) + " of " + s + " " + n + " " + i, desk.level(s, n, i), due[i]);
        }
    }

    private static void promise16Level() {
        WarpDesk desk = Due.desk("series 1 2 4 gap -1 -2 gap 5 5 gap -999 999 -998;");
        levels(desk, 0, 3, 1, 2, 4, -1000000);
        desk.set(1, 1);
        levels(desk, 0, 3, -1, 0, 2, -1000000);
        levels(desk, 4, 2, 1, 0, -1000000);
        desk.set(1, 2);
        levels(desk, 0, 3, 0, 1, 3, -1000000);
        levels(desk, 4, 2, 0, -1);
        desk.set(1, 3);
        levels(desk, 0, 3, 0, 333, 1000, -1000000);
        levels(desk, 7, 2, 0, 0);
        levels(desk, 10, 3, 0, 1000, 0);
        levels(desk, 11, 2, 1000, 0);
        Due.is("level -1", desk.level(0, 3, -1), -1000000);
        Due.is("over a gap", desk.level(2, 2, 0), -1000000);
        Due.is("length 1", desk.level(0, 1, 0), -1000000);
        Due.is("before the first", desk.level(-1, 2, 0), -1000000);
        Due.is("least ints", desk.level(LEAST, LEAST, LEAST), -1000000);
        Due.is("greatest ints", desk.level(MOST, MOST, MOST), -1000000);
        WarpDesk longer = Due.desk("series" + " 1 2".repeat(9) + ";");
        Due.is("length 16", longer.level(0, 16, 15), 2);
        Due.is("length 17", longer.level(0, 17, 0), -1000000);
    }

    private static void promise17Distance() {
        WarpDesk desk = Due.desk("series 0 0 5 0 gap 1; query a 0 5 0 0; band 0;");
        Due.is("band 0", desk.distance(0, 0), 10);
        desk.set(2, 1);
        Due.is("band 0, square", desk.distance(0, 0), 50);
        desk.set(0, 1);
        Due.is("band 1", desk.distance(0, 0), 0);
        WarpDesk two = worked();
        Due.is("worked", two.distance(0, 0), 11);
        Due.is("turned over", two.distance(1, 5), 11);
        Due.is("itself", two.distance(0, 5), 0);
        Due.is("over a gap", two.distance(0, 1), -1);
        Due.is("at a gap", two.distance(2, 4), -1);
        Due.is("beyond the end", two.distance(0, 6), -1);
        Due.is("no such query", two.distance(3, 0), -1);
        Due.is("query -1", two.distance(-1, 0), -1);
        Due.is("window -1", two.distance(0, -1), -1);
        Due.is("least ints", two.distance(LEAST, LEAST), -1);
        Due.is("greatest ints", two.distance(MOST, MOST), -1);
    }

    private static void promise17Levels() {
        WarpDesk desk = Due.desk("series 0 0 5 0; query a 10 15 10 10; query b 0 100 0 0; band 1;");
        Due.is("none", desk.distance(0, 0), 10 + 15 + 5 + 10);
        desk.set(1, 1);
        Due.is("mean: 1 and 11", desk.distance(0, 0), 0);
        desk.set(1, 2);
        Due.is("first", desk.distance(0, 0), 0);
        Due.is("first, b", desk.distance(1, 0), 95);
        desk.set(1, 3);
        Due.is("range, b", desk.distance(1, 0), 0);
        // The greatest that can be: 31 places would be, but the diagonal is cheaper.
        WarpDesk far = Due.desk("series" + " 999 -999".repeat(8) + "; query a" + " -999 999".repeat(8)
            + "; cost square; band 0;");
        Due.is("far", far.distance(0, 0), 16 * 1998 * 1998);
    }

    private static void promise18Bound() {
        WarpDesk desk = worked();
        int[] a = {4, 7, 1, -1};
        int[] b = {4, 1, 7, -1};
        for (int what = 0; what < a.length; what++) {
            Due.is("bound of a, " + what, desk.bound(0, 0, what), a[what]);
            Due.is("bound of b, " + what, desk.bound(1, 5, what), b[what]);
            Due.is("bound of itself, " + what, desk.bound(0, 5, what), what < 3 ? 0 : -1);
            Due.is("bound over a gap, " + what, desk.bound(0, 2, what), -1);
        }
        desk.set(2, 1);
        int[] squares = {10, 21, 1};
        for (int what = 0; what < squares.length; what++) {
            Due.is("square bound of a, " + what, desk.bound(0, 0, what), squares[what]);
        }
        desk.set(2, 0);
        desk.set(0, 0);
        Due.is("band 0: over", desk.bound(0, 0, 1), 3 + 7 + 9 + 1);
        Due.is("band 0: back", desk.bound(0, 0, 2), 3 + 7 + 9 + 1);
        Due.is("what -1", desk.bound(0, 0, -1), -1);
        Due.is("no such query", desk.bound(3, 0, 0), -1);
        Due.is("greatest ints", desk.bound(MOST, MOST, MOST), -1);
    }

    private static void looks(WarpDesk desk, int query, int s, int limit, int... due) {
        for (int what = 0; what < due.length; what++) {
            Due.is("look " + query + " " + s + " " + limit + " " + what, desk.look(query, s, limit, what), due[what]);
        }
    }

    private static void promise19Look() {
        WarpDesk desk = worked();
        looks(desk, 0, 0, 0, 1, 0, -2);
        looks(desk, 0, 0, 4, 1, 0, -2);
        looks(desk, 0, 0, 5, 2, 0, -2);
        looks(desk, 0, 0, 7, 2, 0, -2);
        looks(desk, 0, 0, 8, 4, 10, 3);
        looks(desk, 0, 0, 11, 4, 10, 3);
        looks(desk, 0, 0, 12, 0, 10, -2);
        looks(desk, 1, 5, 4, 1, 0, -2);
        looks(desk, 1, 5, 5, 3, 0, -2);
        looks(desk, 1, 5, 7, 3, 0, -2);
        looks(desk, 1, 5, 8, 4, 8, 2);
        looks(desk, 1, 5, 9, 4, 8, 2);
        looks(desk, 1, 5, 10, 4, 10, 3);
        looks(desk, 1, 5, 11, 5, 10, -2);
        looks(desk, 1, 5, 12, 0, 10, -2);
        looks(desk, 1, 5, MOST, 0, 10, -2);
        looks(desk, 0, 5, 0, 1, 0, -2);
        looks(desk, 0, 5, 1, 0, 10, -2);
        desk.set(0, 15);
        looks(desk, 0, 5, 1, 0, 16, -2);
        desk.set(0, 0);
        looks(desk, 0, 5, 1, 0, 4, -2);
    }

    private static void promise19Wrong() {
        WarpDesk desk = worked();
        Due.is("limit -1", desk.look(0, 0, -1, 0), -1);
        Due.is("what 3", desk.look(0, 0, 5, 3), -1);
        Due.is("what -1", desk.look(0, 0, 5, -1), -1);
        Due.is("no such query", desk.look(3, 0, 5, 0), -1);
        Due.is("no such window", desk.look(0, 1, 5, 0), -1);
        Due.is("least ints", desk.look(LEAST, LEAST, LEAST, LEAST), -1);
        Due.is("greatest ints", desk.look(MOST, MOST, MOST, MOST), -1);
    }

    private static void ways(WarpDesk desk, int query, int s, int... due) {
        Due.is("way of " + query + " " + s, desk.way(query, s, -1), due.length);
        for (int i = 0; i < due.length; i++) {
            Due.is("way of " + query + " " + s + " " + i, desk.way(query, s, i), due[i]);
        }
        Due.is("way beyond its end", desk.way(query, s, due.length), -1);
        Due.is("way -2", desk.way(query, s, -2), -1);
        Due.is("way of the least int", desk.way(query, s, LEAST), -1);
        Due.is("way of the greatest int", desk.way(query, s, MOST), -1);
    }

    private static void promise24Way() {
        WarpDesk desk = worked();
        ways(desk, 0, 0, 0, 1, 102, 203, 303);
        ways(desk, 1, 5, 0, 100, 201, 302, 303);
        ways(desk, 0, 5, 0, 101, 202, 303);
        desk.set(0, 0);
        ways(desk, 0, 0, 0, 101, 202, 303);
        Due.is("over a gap", desk.way(0, 1, -1), -1);
        Due.is("no such query", desk.way(3, 0, 0), -1);
        // Both less costs 10 here, i less and j less 5 each: i less is taken.
        ways(Due.desk("series 5 10 0; query a 5 0 10; band 2;"), 0, 0, 0, 1, 102, 202);
        // All alike: both less is taken.
        ways(Due.desk("series 7 7 7; query a 7 7 7; band 2;"), 0, 0, 0, 101, 202);
        WarpDesk longest = Due.desk("series" + " 0".repeat(15) + " 9; query a 0" + " 9".repeat(15) + "; band 15;");
        Due.is("the longest way", longest.way(0, 0, -1), 30);
        Due.is("its last place", longest.way(0, 0, 29), 1515);
        Due.is("ahead of its corner", longest.way(0, 0, 14), 14);
        Due.is("behind its corner", longest.way(0, 0, 15), 115);
    }

    private static void promise26Alike() {
        WarpDesk desk = worked();
        Due.is("a and b", desk.alike(0, 1), 11);
        Due.is("b and a", desk.alike(1, 0), 11);
        Due.is("a and a", desk.alike(0, 0), 0);
        Due.is("a and c", desk.alike(0, 2), -2);
        Due.is("a and none", desk.alike(0, 3), -1);
        Due.is("none and a", desk.alike(-1, 0), -1);
        Due.is("greatest ints", desk.alike(MOST, MOST), -1);
        desk.set(0, 0);
        Due.is("band 0", desk.alike(0, 1), 20);
        WarpDesk level = Due.desk("query a 1 2; query b 11 12;");
        Due.is("none", level.alike(0, 1), 20);
        level.set(1, 2);
        Due.is("first", level.alike(0, 1), 0);
    }

    private static void leans(WarpDesk desk, int query, int s, int most, int inBoth) {
        Due.is("lean of " + query + " " + s, desk.lean(query, s, 0), most);
        Due.is("steps in both of " + query + " " + s, desk.lean(query, s, 1), inBoth);
    }

    private static void promise31Lean() {
        WarpDesk desk = worked();
        leans(desk, 0, 0, 1, 2);
        leans(desk, 1, 5, 1, 2);
        leans(desk, 0, 5, 0, 3);
        Due.is("what 2", desk.lean(0, 0, 2), -1);
        Due.is("what -1", desk.lean(0, 0, -1), -1);
        Due.is("over a gap", desk.lean(0, 3, 0), -1);
        Due.is("no such query", desk.lean(3, 0, 0), -1);
        leans(Due.desk("series" + " 0".repeat(15) + " 9; query a 0" + " 9".repeat(15) + "; band 15;"), 0, 0, 14, 1);
    }
}

import java.util.Arrays;

/**
 * The edges that the document names for one WINDOW, its LEVEL, rows without a GAP and counts
 * (promises 15, 16, 37, 38, 42 and "WINDOW" and "LEVEL" of "Terms"), sentence by sentence.
 */
public final class EdgeWindowTest {
    private static final int LEAST = Integer.MIN_VALUE;
    private static final int MOST = Integer.MAX_VALUE;
    private static final int OTHER = -1000000;

    public static void main(String[] args) {
        windowOfEachLength();
        windowAmongOthers();
        windowOverAGap();
        windowForOthers();
        windowRoundsItsMeanDown();
        windowOfTheGreatestReadings();
        levelNone();
        levelMeanRoundsDown();
        levelFirst();
        levelRange();
        levelRangeOfAlikeOnes();
        levelAmongOthers();
        levelOfEachLength();
        levelForOthers();
        flatOfEachLength();
        flatOfNoSuchLength();
        wholeFindsTheLongest();
        wholeWithoutReadings();
        wholeForOthers();
        countOfPlacesAndGaps();
        countOfQueriesAndSettings();
        countOfReadingsBesideGaps();
        countOfBytesThingsAndSlots();
        countOfSumGreatestAndLeast();
        countForOthers();
        Due.end();
    }

    private static String numbers(int from, int to) {
        StringBuilder text = new StringBuilder();
        for (int value = from; value <= to; value++) {
            text.append(' ').append(value);
        }
        return text.toString();
    }

    // ---- promise 15

    private static void windowOfEachLength() {
        Due.says("15: of a WINDOW of a length n (1 .. 160): its sum, its least, its greatest READING, its mean");
        WarpDesk desk = Due.desk("series" + numbers(-80, 79) + ";");
        for (int n : new int[] {1, 2, 3, 16, 17, 80, 159, 160}) {
            for (int s : new int[] {0, 1, 160 - n, 161 - n}) {
                boolean isThere = s + n <= 160;
                int low = s - 80;
                int high = low + n - 1;
                int sum = (low + high) * n / 2;
                Due.is("sum of " + s + " " + n, desk.window(s, n, 0), isThere ? sum : OTHER);
                Due.is("least of " + s + " " + n, desk.window(s, n, 1), isThere ? low : OTHER);
                Due.is("greatest of " + s + " " + n, desk.window(s, n, 2), isThere ? high : OTHER);
                Due.is("mean of " + s + " " + n, desk.window(s, n, 3), isThere ? Math.floorDiv(low + high, 2) : OTHER);
            }
        }
    }

    private static void windowAmongOthers() {
        Due.says("15: of a WINDOW, not of what is beside it");
        String[] rows = {"9 8 7 6 5 4", "4 5 6 7 8 9", "0 5 5 5 0", "9 5 5 5 9", "-9 -5 -6 -5 -9", "1 -1 1 -1 1"};
        for (String text : rows) {
            WarpDesk desk = Due.desk("series " + text + ";");
            int[] row = Arrays.stream(text.split(" ")).mapToInt(Integer::parseInt).toArray();
            for (int s = 0; s < row.length; s++) {
                int sum = 0;
                int least = 1000;
                int greatest = -1000;
                for (int n = 1; s + n <= row.length; n++) {
                    int newest = row[s + n - 1];
                    sum += newest;
                    least = Math.min(least, newest);
                    greatest = Math.max(greatest, newest);
                    Due.is("sum of " + s + " " + n + " of " + text, desk.window(s, n, 0), sum);
                    Due.is("least of " + s + " " + n + " of " + text, desk.window(s, n, 1), least);
                    Due.is("greatest of " + s + " " + n + " of " + text, desk.window(s, n, 2), greatest);
                    Due.is("mean of " + s + " " + n + " of " + text, desk.window(s, n, 3), Math.floorDiv(sum, n));
                }
            }
        }
    }

    private static void windowOverAGap() {
        Due.says("A WINDOW: so many READINGS one behind the other, no GAP among them");
        WarpDesk desk = Due.desk("series 1 2 gap 4 8 16 gap;");
        int[][] due = {{1, 3, OTHER, OTHER}, {2, OTHER, OTHER, OTHER}, {OTHER, OTHER, OTHER, OTHER},
            {4, 12, 28, OTHER}, {8, 24, OTHER, OTHER}, {16, OTHER, OTHER, OTHER}, {OTHER, OTHER, OTHER, OTHER}};
        for (int s = 0; s < 7; s++) {
            for (int n = 1; n <= 4; n++) {
                Due.is("window " + s + " " + n, desk.window(s, n, 0), due[s][n - 1]);
            }
        }
        desk.mend(2);
        Due.is("over a mended GAP", desk.window(0, 6, 0), 34);
        desk.undo();
        Due.is("over the GAP again", desk.window(0, 6, 0), OTHER);
        desk.drop(3);
        Due.is("its number is the place of its first one", desk.window(0, 3, 0), 28);
    }

    private static void windowForOthers() {
        Due.says("15: -1000000 for others");
        WarpDesk desk = Due.desk("series 1 2 3;");
        for (int n : new int[] {0, -1, 4, 160, 161, MOST, LEAST}) {
            Due.is("length " + n, desk.window(0, n, 0), OTHER);
        }
        for (int s : new int[] {-1, 3, 4, 160, MOST, LEAST}) {
            Due.is("place " + s, desk.window(s, 1, 0), OTHER);
        }
        for (int what : new int[] {-1, 4, 5, MOST, LEAST}) {
            Due.is("what " + what, desk.window(0, 3, what), OTHER);
        }
        Due.is("greatest place and length", desk.window(MOST, MOST, 0), OTHER);
        Due.is("a place and length that wrap", desk.window(MOST, 2, 0), OTHER);
        Due.is("a place below and a length above", desk.window(-3, 6, 0), OTHER);
        WarpDesk full = Due.desk("series" + " 1".repeat(160) + ";");
        Due.is("160 of 160", full.window(0, 160, 0), 160);
        Due.is("161 of 160", full.window(0, 161, 0), OTHER);
        Due.is("160 from 1", full.window(1, 160, 0), OTHER);
        for (int what = 0; what < 4; what++) {
            Due.is("of no SERIES", new WarpDesk().window(0, 1, what), OTHER);
            Due.is("of no length", full.window(0, 0, what), OTHER);
        }
    }

    private static void windowRoundsItsMeanDown() {
        Due.says("15: its mean, rounded down");
        int[][] rows = {{1, 2}, {-1, -2}, {-1, 0}, {0, 1}, {1, 1, 0}, {-1, -1, 0}, {-1, 0, 0}, {0, 0, 1}, {-3, -3, -3}, {2, 2, 2}};
        int[] due = {1, -2, -1, 0, 0, -1, -1, 0, -3, 2};
        for (int i = 0; i < rows.length; i++) {
            WarpDesk desk = new WarpDesk();
            for (int reading : rows[i]) {
                desk.push(reading);
            }
            Due.is("mean " + i, desk.window(0, rows[i].length, 3), due[i]);
        }
    }

    private static void windowOfTheGreatestReadings() {
        Due.says("15: 160 READINGS of 999 or of -999");
        for (int reading : new int[] {999, -999}) {
            WarpDesk desk = Due.desk("series" + (" " + reading).repeat(160) + ";");
            Due.is("sum", desk.window(0, 160, 0), 160 * reading);
            for (int what = 1; what < 4; what++) {
                Due.is("what " + what, desk.window(0, 160, what), reading);
            }
        }
    }

    // ---- promise 16

    private static WarpDesk at(int level, String readings) {
        WarpDesk desk = Due.desk("series " + readings + ";");
        desk.set(1, level);
        return desk;
    }

    private static void levels(int level, String readings, int... due) {
        WarpDesk desk = at(level, readings);
        for (int i = 0; i < due.length; i++) {
            Due.is("level " + level + " of " + readings + ": " + i, desk.level(0, due.length, i), due[i]);
        }
    }

    private static void levelNone() {
        Due.says("LEVEL none: as they are");
        levels(0, "999 -999", 999, -999);
        levels(0, "3 0 -3", 3, 0, -3);
    }

    private static void levelMeanRoundsDown() {
        Due.says("LEVEL mean: each less their sum by how many they are, rounded down (towards below)");
        levels(1, "1 3", -1, 1);
        levels(1, "1 2", 0, 1);
        levels(1, "-1 -2", 1, 0);
        levels(1, "0 -1", 1, 0);
        levels(1, "-1 0 0", 0, 1, 1);
        levels(1, "1 0 0", 1, 0, 0);
        levels(1, "1 1 0", 1, 1, 0);
        levels(1, "5 5 5", 0, 0, 0);
        levels(1, "999 -999", 999, -999);
        levels(1, "-999 -999 -999 999", -499, -499, -499, 1499);
        levels(1, "-999 -999 -998", 0, 0, 1);
        levels(1, "999 999 998", 1, 1, 0);
    }

    private static void levelFirst() {
        Due.says("LEVEL first: each less the first one");
        levels(2, "5 7 5 3", 0, 2, 0, -2);
        levels(2, "999 -999", 0, -1998);
        levels(2, "-999 999 -999", 0, 1998, 0);
        levels(2, "0 1", 0, 1);
    }

    private static void levelRange() {
        Due.says("LEVEL range: 1,000 times what each is more than the least, by what the greatest is more than that, rounded down");
        levels(3, "0 1", 0, 1000);
        levels(3, "1 0", 1000, 0);
        levels(3, "0 1 3", 0, 333, 1000);
        levels(3, "0 2 3", 0, 666, 1000);
        levels(3, "-3 -2 0", 0, 333, 1000);
        levels(3, "-999 999 0", 0, 1000, 500);
        levels(3, "-999 -998 998 999", 0, 0, 999, 1000);
        levels(3, "10 17 13", 0, 1000, 428);
    }

    private static void levelRangeOfAlikeOnes() {
        Due.says("LEVEL range: (0, if they are all alike)");
        levels(3, "7 7", 0, 0);
        levels(3, "0 0", 0, 0);
        levels(3, "-999" + " -999".repeat(15), new int[16]);
        levels(3, "999 999 999", 0, 0, 0);
    }

    private static void levelAmongOthers() {
        Due.says("LEVEL of a row of READINGS, not of what is beside it");
        WarpDesk alone = Due.desk("series 3 -4 8 5;");
        WarpDesk among = Due.desk("series -999 999 3 -4 8 5 999 -999;");
        for (int level = 0; level < 4; level++) {
            alone.set(1, level);
            among.set(1, level);
            for (int n = 2; n <= 4; n++) {
                for (int i = 0; i < n; i++) {
                    Due.is("level " + level + " of " + n + ": " + i, among.level(2, n, i), alone.level(0, n, i));
                    Due.is("level " + level + " of the last " + n + ": " + i, among.level(6 - n, n, i), alone.level(4 - n, n, i));
                }
            }
        }
    }

    private static void levelOfEachLength() {
        Due.says("16: a place of a WINDOW of a length n (2 .. 16) at its LEVEL");
        WarpDesk desk = Due.desk("series" + numbers(1, 160) + "; level first;");
        for (int n = 0; n <= 18; n++) {
            boolean isLength = n >= 2 && n <= 16;
            Due.is("first of " + n, desk.level(0, n, 0), isLength ? 0 : OTHER);
            Due.is("last of " + n, desk.level(160 - n, n, n - 1), isLength ? n - 1 : OTHER);
            Due.is("behind the last of " + n, desk.level(0, n, n), OTHER);
            Due.is("before the first of " + n, desk.level(0, n, -1), OTHER);
            Due.is("a WINDOW beyond the end of " + n, desk.level(161 - n, n, 0), OTHER);
        }
    }

    private static void levelForOthers() {
        Due.says("16: -1000000: no such ones");
        WarpDesk desk = Due.desk("series 1 2 gap 4 5 6; level mean;");
        Due.is("a WINDOW", desk.level(0, 2, 1), 1);
        Due.is("over a GAP", desk.level(1, 2, 0), OTHER);
        Due.is("at a GAP", desk.level(2, 2, 0), OTHER);
        Due.is("over a GAP", desk.level(0, 6, 0), OTHER);
        Due.is("a WINDOW", desk.level(3, 3, 2), 1);
        for (int s : new int[] {-1, 5, 6, 160, MOST, LEAST}) {
            Due.is("place " + s, desk.level(s, 2, 0), OTHER);
        }
        for (int n : new int[] {-1, 0, 1, 17, MOST, LEAST}) {
            Due.is("length " + n, desk.level(3, n, 0), OTHER);
        }
        for (int i : new int[] {-1, 2, 16, MOST, LEAST}) {
            Due.is("i " + i, desk.level(0, 2, i), OTHER);
        }
        Due.is("of no SERIES", new WarpDesk().level(0, 2, 0), OTHER);
    }

    // ---- promises 37 and 38

    private static void flatOfEachLength() {
        Due.says("37: how many WINDOWS of a length n (1 .. 160) have READINGS that are all alike");
        WarpDesk alike = Due.desk("series" + " -9".repeat(160) + ";");
        for (int n = 1; n <= 160; n++) {
            Due.is("flat " + n, alike.flat(n), 161 - n);
        }
        WarpDesk mixed = Due.desk("series 0 0 gap 0 0 0 1 1 -1 gap gap;");
        int[] due = {8, 4, 1, 0};
        for (int n = 1; n <= due.length; n++) {
            Due.is("flat " + n, mixed.flat(n), due[n - 1]);
        }
        Due.is("of gaps alone", Due.desk("series gap gap gap;").flat(1), 0);
        Due.is("of gaps alone", Due.desk("series gap gap gap;").flat(2), 0);
        Due.is("of no SERIES", new WarpDesk().flat(1), 0);
        Due.is("of no SERIES", new WarpDesk().flat(160), 0);
        WarpDesk ends = Due.desk("series 5" + " 4".repeat(158) + " 5;");
        Due.is("all but the ends", ends.flat(158), 1);
        Due.is("with an end", ends.flat(159), 0);
    }

    private static void flatOfNoSuchLength() {
        Due.says("37: NONE: no such length");
        WarpDesk desk = Due.desk("series 1 1;");
        for (int n : new int[] {0, -1, 161, 162, MOST, LEAST}) {
            Due.is("flat " + n, desk.flat(n), -1);
        }
        Due.is("flat 160", desk.flat(160), 0);
        Due.is("flat 3", desk.flat(3), 0);
        Due.is("flat 2", desk.flat(2), 1);
    }

    private static void whole(String series, int first, int many) {
        WarpDesk desk = Due.desk("series " + series + ";");
        Due.is("first of " + series, desk.whole(0), first);
        Due.is("how many of " + series, desk.whole(1), many);
    }

    private static void wholeFindsTheLongest() {
        Due.says("38: the longest row of READINGS without a GAP, the first of alike ones");
        whole("5", 0, 1);
        whole("5 gap", 0, 1);
        whole("gap 5", 1, 1);
        whole("1 gap 2 3", 2, 2);
        whole("1 2 gap 3 4", 0, 2);
        whole("gap 1 2 gap 3 4 gap 5 6 gap", 1, 2);
        whole("1 gap 2 gap 3 4 5 gap 6 7", 4, 3);
        whole("1".repeat(1) + " 1".repeat(159), 0, 160);
        whole("gap" + " 1".repeat(159), 1, 159);
        whole("1" + " gap 1".repeat(79) + " 1", 158, 2);
    }

    private static void wholeWithoutReadings() {
        Due.says("38: (-2: there are none)");
        WarpDesk gaps = Due.desk("series" + " gap".repeat(160) + ";");
        WarpDesk none = new WarpDesk();
        WarpDesk dropped = Due.desk("series 1 gap;");
        dropped.drop(1);
        for (int what = 0; what < 2; what++) {
            Due.is("of gaps", gaps.whole(what), -2);
            Due.is("of no SERIES", none.whole(what), -2);
            Due.is("of what is left", dropped.whole(what), -2);
        }
    }

    private static void wholeForOthers() {
        Due.says("38: NONE for others");
        for (int what : new int[] {-1, 2, 3, MOST, LEAST}) {
            Due.is("what " + what, Due.desk("series 1 2;").whole(what), -1);
            Due.is("what " + what + " of no SERIES", new WarpDesk().whole(what), -1);
        }
    }

    // ---- promise 42

    private static void countOfPlacesAndGaps() {
        Due.says("42: 0 places of the SERIES, 1 GAPS");
        int[] gaps = {0, 1, 2, 159, 160};
        for (int many : gaps) {
            WarpDesk desk = Due.desk("series" + " gap".repeat(many) + " 1".repeat(160 - many) + ";");
            Due.is("places", desk.count(0), 160);
            Due.is("gaps", desk.count(1), many);
        }
        WarpDesk desk = new WarpDesk();
        desk.gap();
        desk.push(-1);
        Due.is("places", desk.count(0), 2);
        Due.is("gaps", desk.count(1), 1);
        desk.drop(1);
        Due.is("gaps", desk.count(1), 0);
    }

    private static void countOfQueriesAndSettings() {
        Due.says("42: 2 QUERIES, 3 BAND, 4 LEVEL, 5 COST, 6 APART");
        String text = "";
        for (int many = 0; many <= 5; many++) {
            Due.is("queries", Due.desk(text).count(2), many);
            text += "query " + (char) ('a' + many) + " 1 2;";
        }
        WarpDesk desk = Due.desk("band 15; level range; cost square; apart 99;");
        int[] due = {15, 3, 1, 99};
        for (int i = 0; i < due.length; i++) {
            Due.is("count " + (3 + i), desk.count(3 + i), due[i]);
        }
    }

    private static void beside(String series, int behind, int ahead) {
        WarpDesk desk = Due.desk("series " + series + ";");
        Due.is("behind the last GAP of " + series, desk.count(7), behind);
        Due.is("ahead of the first GAP of " + series, desk.count(14), ahead);
    }

    private static void countOfReadingsBesideGaps() {
        Due.says("42: 7 READINGS behind the last GAP (without a GAP: all), 14 READINGS ahead of the first GAP (without one: all)");
        beside("", 0, 0);
        beside("1", 1, 1);
        beside("1 2 3", 3, 3);
        beside("gap", 0, 0);
        beside("1 gap", 0, 1);
        beside("gap 1", 1, 0);
        beside("1 2 gap 3", 1, 2);
        beside("1 2 gap 3 4 5 gap 6", 1, 2);
        beside("1 2 gap gap 3 4 5", 3, 2);
        beside("gap 1 2 gap", 0, 0);
        beside("1" + " 1".repeat(159), 160, 160);
        beside("gap" + " 1".repeat(159), 159, 0);
        beside("1" + " 1".repeat(158) + " gap", 0, 159);
    }

    private static void countOfBytesThingsAndSlots() {
        Due.says("42: 8 bytes on the tape, 9 things that can be undone, 11 SLOTS that hold something");
        WarpDesk desk = new WarpDesk();
        for (int size = 20; size <= 60; size += 20) {
            desk.feed(0, 0, 0, 0, 0);
            Due.is("bytes", desk.count(8), size);
        }
        desk.back(59);
        Due.is("bytes", desk.count(8), 1);
        desk.back(1);
        Due.is("bytes", desk.count(8), 0);
        for (int things = 1; things <= 42; things++) {
            desk.push(1);
            Due.is("things", desk.count(9), Math.min(40, things));
        }
        Due.is("slots", desk.count(11), 0);
        int[] order = {1, 1, 0, 2, 2};
        int[] held = {1, 1, 2, 3, 3};
        for (int i = 0; i < order.length; i++) {
            desk.hold(order[i]);
            Due.is("slots", desk.count(11), held[i]);
        }
        desk.read();
        Due.is("slots after a read", desk.count(11), 0);
        Due.is("things after a read", desk.count(9), 0);
    }

    private static void sums(String series, int sum, int greatest, int least) {
        WarpDesk desk = Due.desk("series " + series + ";");
        Due.is("sum of " + series, desk.count(10), sum);
        Due.is("greatest of " + series, desk.count(12), greatest);
        Due.is("least of " + series, desk.count(13), least);
    }

    private static void countOfSumGreatestAndLeast() {
        Due.says("42: 10 all READINGS of the SERIES, added, 12 the greatest READING, 13 the least (-1000: there are none)");
        sums("", 0, -1000, -1000);
        sums("gap gap", 0, -1000, -1000);
        sums("7", 7, 7, 7);
        sums("gap -7 gap", -7, -7, -7);
        sums("-999", -999, -999, -999);
        sums("999 gap -999", 0, 999, -999);
        sums("5 gap 3 gap 4", 12, 5, 3);
        sums("-5 gap -3 gap -4", -12, -3, -5);
        sums("999" + " 999".repeat(159), 159840, 999, 999);
        sums("-999" + " -999".repeat(159), -159840, -999, -999);
        sums("0 gap", 0, 0, 0);
    }

    private static void countForOthers() {
        Due.says("42: NONE for others");
        for (int what : new int[] {-1, -2, 15, 16, 100, MOST, LEAST}) {
            Due.is("count " + what, Twins.busy().count(what), -1);
            Due.is("count " + what, new WarpDesk().count(what), -1);
        }
    }
}

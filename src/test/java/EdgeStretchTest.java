/**
 * The edges that the document names for WINDOWS of one length held against each other (promises 27 to
 * 29, "NEAR", "PAIR" and "ODD" of "Terms"), sentence by sentence.
 */
public final class EdgeStretchTest {
    private static final int LEAST = Integer.MIN_VALUE;
    private static final int MOST = Integer.MAX_VALUE;

    public static void main(String[] args) {
        eachLength();
        eachLengthOfUnlikeOnes();
        oneLengthBehindAnother();
        noSuchLength();
        noSuchWhat();
        nearIsNOrMorePlacesAway();
        nearOfAlikeOnesTheFirst();
        nearOfNoSuchWindow();
        nearNone();
        pairOfAlikeOnes();
        pairIsNOrMorePlacesApart();
        pairNone();
        oddIsTheGreatest();
        oddOfAlikeOnesTheFirst();
        oddPassesOverThoseWithoutNear();
        oddNone();
        farOnesAreNotTakenForNear();
        bandLevelAndCostCount();
        inAFullSeries();
        Due.end();
    }

    private static WarpDesk of(String series) {
        return Due.desk("series " + series + ";");
    }

    private static void near(WarpDesk desk, int s, int n, int window, int distance) {
        Due.is("near of " + s + " " + n, desk.near(s, n, 0), window);
        Due.is("near's distance of " + s + " " + n, desk.near(s, n, 1), distance);
    }

    private static void pair(WarpDesk desk, int n, int lesser, int greater, int distance) {
        Due.is("lesser of " + n, desk.pair(n, 0), lesser);
        Due.is("greater of " + n, desk.pair(n, 1), greater);
        Due.is("distance of " + n, desk.pair(n, 2), distance);
    }

    private static void odd(WarpDesk desk, int n, int window, int distance) {
        Due.is("odd of " + n, desk.odd(n, 0), window);
        Due.is("odd's distance of " + n, desk.odd(n, 1), distance);
    }

    // ---- lengths and whats

    private static void eachLength() {
        Due.says("NEAR of a WINDOW of a length n (2 .. 16), PAIR and ODD of a length");
        for (int n = 2; n <= 16; n++) {
            WarpDesk just = of("1" + " 1".repeat(2 * n - 1));
            near(just, 0, n, n, 0);
            near(just, n, n, 0, 0);
            near(just, 1, n, -2, -2);
            pair(just, n, 0, n, 0);
            odd(just, n, 0, 0);
            // One place less: no two are n places apart.
            WarpDesk less = of("1" + " 1".repeat(2 * n - 2));
            near(less, 0, n, -2, -2);
            near(less, n - 1, n, -2, -2);
            pair(less, n, -2, -2, -2);
            odd(less, n, -2, -2);
            // One place more: each of the first two has one.
            WarpDesk more = of("1" + " 1".repeat(2 * n));
            near(more, 0, n, n, 0);
            near(more, 1, n, n + 1, 0);
            near(more, n + 1, n, 0, 0);
            pair(more, n, 0, n, 0);
        }
    }

    /** Three rows of one length: (0 .. 0 5), (9 .. 9), (0 .. 0 7), a GAP between them. */
    private static void eachLengthOfUnlikeOnes() {
        Due.says("NEAR, PAIR, ODD of each length n (2 .. 16), of WINDOWS that are not alike");
        for (int n = 2; n <= 16; n++) {
            String zeros = " 0".repeat(n - 1);
            WarpDesk desk = of(zeros + " 5 gap" + " 9".repeat(n) + " gap" + zeros + " 7");
            int middle = n + 1;
            int last = 2 * n + 2;
            near(desk, 0, n, last, 2);
            near(desk, last, n, 0, 2);
            near(desk, middle, n, last, 9 * (n - 1) + 2);
            pair(desk, n, 0, last, 2);
            odd(desk, n, middle, 9 * (n - 1) + 2);
        }
    }

    private static void oneLengthBehindAnother() {
        Due.says("NEAR, PAIR, ODD: nothing of a call ahead counts");
        StringBuilder text = new StringBuilder();
        for (int i = 0; i < 60; i++) {
            text.append(i * i * 7 % 31).append(i == 40 ? " gap " : " ");
        }
        String series = text.toString();
        WarpDesk up = of(series);
        WarpDesk down = of(series);
        for (int k = 0; k < 15; k++) {
            int[] lengths = {2 + k, 16 - k};
            for (WarpDesk desk : new WarpDesk[] {up, down}) {
                int n = lengths[desk == up ? 0 : 1];
                near(desk, 0, n, of(series).near(0, n, 0), of(series).near(0, n, 1));
                near(desk, 20, n, of(series).near(20, n, 0), of(series).near(20, n, 1));
                pair(desk, n, of(series).pair(n, 0), of(series).pair(n, 1), of(series).pair(n, 2));
                odd(desk, n, of(series).odd(n, 0), of(series).odd(n, 1));
            }
        }
    }

    private static void noSuchLength() {
        Due.says("27, 28, 29: NONE: no such ones: lengths below 2 and above 16");
        WarpDesk desk = of("1" + " 1".repeat(99));
        for (int n : new int[] {1, 0, -1, 17, 18, 50, 160, MOST, LEAST}) {
            near(desk, 0, n, -1, -1);
            pair(desk, n, -1, -1, -1);
            odd(desk, n, -1, -1);
        }
        WarpDesk none = new WarpDesk();
        for (int n : new int[] {1, 17}) {
            near(none, 0, n, -1, -1);
            pair(none, n, -1, -1, -1);
            odd(none, n, -1, -1);
        }
    }

    private static void noSuchWhat() {
        Due.says("27, 28, 29: NONE: no such ones: what");
        for (WarpDesk desk : new WarpDesk[] {of("1 2 3 4 5"), of("1 2"), new WarpDesk()}) {
            for (int what : new int[] {-1, -2, 3, 4, MOST, LEAST}) {
                Due.is("near what " + what, desk.near(0, 2, what), -1);
                Due.is("pair what " + what, desk.pair(2, what), -1);
                Due.is("odd what " + what, desk.odd(2, what), -1);
            }
            Due.is("near what 2", desk.near(0, 2, 2), -1);
            Due.is("odd what 2", desk.odd(2, 2), -1);
        }
        Due.is("pair what 2", of("1 2 1 2").pair(2, 2), 0);
    }

    // ---- promise 27

    private static void nearIsNOrMorePlacesAway() {
        Due.says("NEAR: the other one of that length that begins n or more places from it");
        // (5 5) at 3; nearer ones in DISTANCE begin at 2 and 4, which is too close.
        WarpDesk desk = of("9 9 6 5 5 6 9 9");
        near(desk, 3, 2, 1, 4 + 1);
        near(desk, 2, 2, 4, 0 + 2);
        near(desk, 0, 2, 6, 0);
        near(desk, 6, 2, 0, 0);
        // Just n places away on the left, and on the right.
        near(of("5 5 5 5 9 9"), 2, 2, 0, 0);
        near(of("9 9 5 5 5 5"), 2, 2, 4, 0);
        near(of("9 5 5 5 5"), 2, 2, 0, 4);
    }

    private static void nearOfAlikeOnesTheFirst() {
        Due.says("NEAR: at the least DISTANCE, of alike ones the first");
        near(of("1 1 1 1 1 1"), 0, 2, 2, 0);
        near(of("1 1 1 1 1 1"), 2, 2, 0, 0);
        near(of("1 1 1 1 1 1"), 4, 2, 0, 0);
        // One on each side, at the same DISTANCE.
        near(of("3 3 gap 5 5 gap 7 7"), 3, 2, 0, 4);
        near(of("3 3 gap 5 5 gap 6 7"), 3, 2, 6, 3);
        near(of("4 3 gap 5 5 gap 7 7"), 3, 2, 0, 3);
    }

    private static void nearOfNoSuchWindow() {
        Due.says("27: NONE: no such ones: WINDOWS");
        WarpDesk desk = of("1 2 3 gap 4 5 6 7");
        for (int s : new int[] {-1, -2, 2, 3, 7, 8, 160, MOST, LEAST}) {
            near(desk, s, 2, -1, -1);
        }
        near(desk, 0, 4, -1, -1);
        near(desk, 4, 4, -2, -2);
        near(desk, 0, 3, 4, 9);
        near(new WarpDesk(), 0, 2, -1, -1);
        near(of("1"), 0, 2, -1, -1);
    }

    private static void nearNone() {
        Due.says("27: -2: none");
        near(of("1 2"), 0, 2, -2, -2);
        near(of("1 2 3"), 0, 2, -2, -2);
        near(of("1 2 3 4"), 0, 2, 2, 4);
        near(of("1 2 gap 3"), 0, 2, -2, -2);
        near(of("1 2 gap 3 4"), 0, 2, 3, 4);
        near(of("1 2 3 gap 4 5 gap"), 0, 3, -2, -2);
    }

    // ---- promise 28

    private static void pairOfAlikeOnes() {
        Due.says("PAIR: of alike ones that whose lesser, then whose greater is less");
        pair(of("1 1 1 1 1 1"), 2, 0, 2, 0);
        // (1 1) at 0, 3 and 6, all apart by GAPS.
        pair(of("1 1 gap 1 1 gap 1 1"), 2, 0, 3, 0);
        // Alike ones 3 and 6; 0 is another.
        pair(of("8 1 gap 1 1 gap 1 1"), 2, 3, 6, 0);
        // 0 and 6 are as far apart as 3 and 6: the lesser is less.
        pair(of("1 2 gap 2 3 gap 2 2"), 2, 0, 6, 1);
        pair(of("1 2 gap 9 9 gap 1 1 gap 9 8"), 2, 0, 6, 1);
        // 0 with 3 and with 6 alike: the greater is less.
        pair(of("5 5 gap 4 5 gap 5 6 gap 9 1"), 2, 0, 3, 1);
        // A later pair that is less.
        pair(of("1 5 gap 1 6 gap 8 8 gap 8 8"), 2, 6, 9, 0);
    }

    private static void pairIsNOrMorePlacesApart() {
        Due.says("PAIR: the two such WINDOWS, n or more places apart");
        // (5 5) at 0 and 1 are alike, but too close.
        pair(of("5 5 5 9"), 2, 0, 2, 4);
        pair(of("5 5 5 5"), 2, 0, 2, 0);
        // (9 9 9) at 3 and 4 are alike, but too close; 0 and 3 are at 12, 1 and 4 at 8.
        pair(of("5 5 5 9 9 9 9"), 3, 1, 4, 8);
    }

    private static void pairNone() {
        Due.says("28: -2: there are no two");
        pair(new WarpDesk(), 2, -2, -2, -2);
        pair(of("1"), 2, -2, -2, -2);
        pair(of("1 2"), 2, -2, -2, -2);
        pair(of("1 2 3"), 2, -2, -2, -2);
        pair(of("gap gap gap gap"), 2, -2, -2, -2);
        pair(of("1 2 3 gap 4"), 2, -2, -2, -2);
        pair(of("1 gap 2 gap 3 gap 4"), 2, -2, -2, -2);
        pair(of("1 2 gap 3 4"), 2, 0, 3, 4);
        pair(of("1 2 3 gap 3 4"), 3, -2, -2, -2);
    }

    // ---- promise 29

    private static void oddIsTheGreatest() {
        Due.says("ODD: the WINDOW whose NEAR is at the greatest DISTANCE");
        // NEARS: 0 at 2 of 3, 0 at 2 of 0, 4 of either.
        odd(of("1 1 gap 1 3 gap 5 5"), 2, 6, 6);
        odd(of("9 9 gap 1 1 gap 1 2"), 2, 0, 15);
        odd(of("1 1 gap 9 9 gap 1 2"), 2, 3, 15);
        odd(of("1 1 gap 1 1"), 2, 0, 0);
        // NEARS 0 0 1 1 0 0: the last two are 4 from the first one, but have one that is nearer.
        odd(of("0 0 gap 0 0 gap 9 9 gap 9 10 gap 2 2 gap 2 2"), 2, 6, 1);
    }

    private static void oddOfAlikeOnesTheFirst() {
        Due.says("ODD: of alike ones the first");
        odd(of("1 1 gap 3 3"), 2, 0, 4);
        odd(of("1 1 gap 1 1 gap 5 5 gap 9 9"), 2, 6, 8);
        odd(of("9 9 gap 1 1 gap 1 1 gap 5 5"), 2, 0, 8);
        odd(of("4 4 4 4 4 4 4"), 2, 0, 0);
    }

    private static void oddPassesOverThoseWithoutNear() {
        Due.says("ODD: a WINDOW without a NEAR is passed over");
        // Four places: 1 begins one place from both others.
        odd(of("1 1 1 9"), 2, 0, 8);
        WarpDesk desk = of("1 5 1 5");
        near(desk, 1, 2, -2, -2);
        odd(desk, 2, 0, 0);
        // Of 0, 1 and 2 only 0 and 2 have one; the ODD one is not 1.
        odd(of("0 9 0 8"), 2, 0, 1);
    }

    private static void oddNone() {
        Due.says("29: -2: none has one");
        odd(new WarpDesk(), 2, -2, -2);
        odd(of("1 2"), 2, -2, -2);
        odd(of("1 2 3"), 2, -2, -2);
        odd(of("1 2 3 gap 4"), 2, -2, -2);
        odd(of("gap gap gap gap gap"), 2, -2, -2);
        odd(of("1 2 3 4 5"), 3, -2, -2);
        odd(of("1 2 3 4 5 6"), 3, 0, 9);
    }

    /**
     * Of BAND 1, the table of (0 8 2) and (0 2 8): 0 2 / 8 6 2 / 6 8. It is broken off nowhere under a
     * LIMIT of 7 or 8, and yet the DISTANCE is not less.
     */
    private static void farOnesAreNotTakenForNear() {
        Due.says("NEAR, PAIR, ODD: the least DISTANCE, of alike ones the first");
        WarpDesk less = of("0 8 2 gap 0 8 -5 gap 0 2 8");
        less.set(0, 1);
        near(less, 0, 3, 4, 7);
        near(less, 4, 3, 0, 7);
        near(less, 8, 3, 0, 8);
        pair(less, 3, 0, 4, 7);
        odd(less, 3, 8, 8);
        WarpDesk alike = of("0 8 2 gap 0 8 -6 gap 0 2 8");
        alike.set(0, 1);
        near(alike, 0, 3, 4, 8);
        near(alike, 8, 3, 0, 8);
        pair(alike, 3, 0, 4, 8);
        odd(alike, 3, 0, 8);
    }

    // ---- what is set, and the greatest SERIES

    private static void bandLevelAndCostCount() {
        Due.says("NEAR, PAIR, ODD: DISTANCE by the BAND, LEVEL and COST that are set");
        WarpDesk desk = of("0 9 0 0 gap 0 0 9 0 gap 1 9 0 1");
        near(desk, 0, 4, 5, 0);
        pair(desk, 4, 0, 5, 0);
        odd(desk, 4, 10, 2);
        desk.set(0, 0);
        near(desk, 0, 4, 10, 2);
        pair(desk, 4, 0, 10, 2);
        odd(desk, 4, 5, 18);
        desk.set(2, 1);
        near(desk, 0, 4, 10, 2);
        odd(desk, 4, 5, 162);
        desk.set(1, 2);
        // first: (0 9 0 0), (0 0 9 0), (0 8 -1 0).
        near(desk, 0, 4, 10, 2);
        desk.set(1, 3);
        // range: (0 1000 0 0), (0 0 1000 0), (111 1000 0 111).
        near(desk, 0, 4, 10, 2 * 111 * 111);
        desk.set(2, 0);
        near(desk, 0, 4, 10, 222);
        odd(desk, 4, 5, 2000);
    }

    private static void inAFullSeries() {
        Due.says("NEAR, PAIR, ODD in a SERIES of 160");
        WarpDesk alike = of("7" + " 7".repeat(159));
        near(alike, 144, 16, 0, 0);
        near(alike, 0, 16, 16, 0);
        near(alike, 145, 16, -1, -1);
        near(alike, 158, 2, 0, 0);
        pair(alike, 16, 0, 16, 0);
        odd(alike, 2, 0, 0);
        StringBuilder rising = new StringBuilder();
        for (int i = 0; i < 160; i++) {
            rising.append(i).append(' ');
        }
        rising.setLength(rising.length() - 4);
        rising.append("999");
        WarpDesk rise = of(rising.toString());
        // (158 999) at the end is the odd one: its NEAR is (156 157), two places ahead.
        near(rise, 158, 2, 156, 2 + 842);
        odd(rise, 2, 158, 844);
        // Each but (7 7) at 100 and 150 is far from all others.
        StringBuilder far = new StringBuilder();
        for (int i = 0; i < 160; i++) {
            far.append(i == 100 || i == 101 || i == 150 || i == 151 ? 7 : 20 + 5 * i).append(' ');
        }
        pair(of(far.toString()), 2, 100, 150, 0);
        WarpDesk ends = of("999 5" + " 7".repeat(156) + " 999 5");
        pair(ends, 2, 0, 158, 0);
        near(ends, 0, 2, 158, 0);
        near(ends, 158, 2, 0, 0);
    }
}

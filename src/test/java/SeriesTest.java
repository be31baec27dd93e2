/** Promises 9 to 15, 37, 38 and 40 to 42: the SERIES, what is set, undone, held and counted. */
public final class SeriesTest {
    public static void main(String[] args) {
        promise9Push();
        promise10Gap();
        promise11Mend();
        promise12Drop();
        promise13Set();
        promise14Undo();
        promise14TheLastForty();
        promise14WhatWasDroppedComesBack();
        promise15Window();
        promise37Flat();
        promise38Whole();
        promise40Hold();
        promise41Restore();
        promise42Count();
        Due.end();
    }

    private static void promise9Push() {
        WarpDesk desk = new WarpDesk();
        Due.is("push 1000", desk.push(1000), -1);
        Due.is("push -1000", desk.push(-1000), -1);
        Due.is("push of the least int", desk.push(Integer.MIN_VALUE), -1);
        Due.is("nothing to undo", desk.count(9), 0);
        Due.is("push 999", desk.push(999), 1);
        Due.is("push -999", desk.push(-999), 2);
        Due.is("at 1", desk.at(1), -999);
        for (int size = 3; size <= 160; size++) {
            Due.is("push to " + size, desk.push(size), size);
        }
        Due.is("a 161st", desk.push(0), -1);
        Due.is("a 161st gap", desk.gap(), -1);
        Due.is("size", desk.count(0), 160);
        Due.is("undo takes the 160th", desk.undo(), true);
        Due.is("size", desk.count(0), 159);
    }

    private static void promise10Gap() {
        WarpDesk desk = Due.desk("series 1;");
        Due.is("gap", desk.gap(), 2);
        Due.is("gap", desk.gap(), 3);
        Due.is("push", desk.push(4), 4);
        Due.is("at 1", desk.at(1), -1000);
        Due.is("gaps", desk.count(1), 2);
        Due.is("no window over it", desk.window(0, 2, 0), -1000000);
    }

    private static void promise11Mend() {
        WarpDesk desk = Due.desk("series gap 3 gap 4 gap -8 gap gap 1 gap;");
        int[] answers = {-1000, -1000, 3, -1000, -2, -1000, -1000, -1000, -1000, -1000, -1000};
        for (int i = 0; i < answers.length; i++) {
            Due.is("mend " + i, desk.mend(i), answers[i]);
        }
        Due.is("mended", desk.at(2), 3);
        Due.is("mend again", desk.mend(2), -1000);
        Due.is("not mended", desk.at(6), -1000);
        Due.is("mend -1", desk.mend(-1), -1000);
        Due.is("mend of the greatest int", desk.mend(Integer.MAX_VALUE), -1000);
        Due.is("things done", desk.count(9), 2);
        WarpDesk low = Due.desk("series -3 gap -4 gap -999;");
        Due.is("rounded down", low.mend(1), -4);
        Due.is("rounded down", low.mend(3), -502);
    }

    private static void promise12Drop() {
        WarpDesk desk = Due.desk("series 1 2 gap 4;");
        Due.is("drop 0", desk.drop(0), false);
        Due.is("drop -1", desk.drop(-1), false);
        Due.is("drop 5", desk.drop(5), false);
        Due.is("drop of the least int", desk.drop(Integer.MIN_VALUE), false);
        Due.is("nothing done", desk.count(9), 0);
        Due.is("drop 1", desk.drop(1), true);
        Due.is("at 0", desk.at(0), 2);
        Due.is("size", desk.count(0), 3);
        Due.is("drop of all", desk.drop(3), true);
        Due.is("size", desk.count(0), 0);
        Due.is("drop of none", desk.drop(1), false);
        Due.is("push", desk.push(7), 1);
        Due.is("at 0", desk.at(0), 7);
    }

    private static void promise13Set() {
        int[] untold = {2, 0, 0, 8};
        int[] least = {0, 0, 0, 1};
        int[] most = {15, 3, 1, 99};
        for (int what = 0; what < 4; what++) {
            WarpDesk desk = new WarpDesk();
            Due.is("set as it is, " + what, desk.set(what, untold[what]), false);
            Due.is("set too low, " + what, desk.set(what, least[what] - 1), false);
            Due.is("set too high, " + what, desk.set(what, most[what] + 1), false);
            Due.is("nothing done", desk.count(9), 0);
            Due.is("set to the most, " + what, desk.set(what, most[what]), true);
            Due.is("is so", desk.count(3 + what), most[what]);
            Due.is("set to the least, " + what, desk.set(what, least[what]), true);
            Due.is("is so", desk.count(3 + what), least[what]);
            Due.is("set to the least again, " + what, desk.set(what, least[what]), false);
            Due.is("two things done", desk.count(9), 2);
        }
        WarpDesk desk = new WarpDesk();
        Due.is("set 4", desk.set(4, 1), false);
        Due.is("set -1", desk.set(-1, 1), false);
        Due.is("set -1 to NONE", desk.set(-1, -1), false);
    }

    private static void promise14Undo() {
        WarpDesk desk = Due.desk("series 1 gap 3; band 4;");
        desk.push(5);
        desk.gap();
        desk.mend(1);
        desk.drop(2);
        desk.set(0, 7);
        Due.is("five things", desk.count(9), 5);
        Due.is("undo set", desk.undo(), true);
        Due.is("band", desk.count(3), 4);
        Due.is("undo drop", desk.undo(), true);
        Due.is("at 0", desk.at(0), 1);
        Due.is("at 1", desk.at(1), 2);
        Due.is("undo mend", desk.undo(), true);
        Due.is("at 1", desk.at(1), -1000);
        Due.is("undo gap", desk.undo(), true);
        Due.is("size", desk.count(0), 4);
        Due.is("undo push", desk.undo(), true);
        Due.is("size", desk.count(0), 3);
        Due.is("at 2", desk.at(2), 3);
        Due.is("undo of nothing", desk.undo(), false);
        Due.is("size", desk.count(0), 3);
    }

    private static void promise14TheLastForty() {
        WarpDesk desk = new WarpDesk();
        for (int i = 0; i < 45; i++) {
            desk.push(i);
            Due.is("things that can be undone", desk.count(9), Math.min(i + 1, 40));
        }
        for (int i = 0; i < 40; i++) {
            Due.is("undo " + i, desk.undo(), true);
        }
        Due.is("a 41st undo", desk.undo(), false);
        Due.is("size", desk.count(0), 5);
        Due.is("at 4", desk.at(4), 4);
    }

    private static WarpDesk pushedFull() {
        WarpDesk desk = new WarpDesk();
        for (int i = 0; i < 160; i++) {
            desk.push(i);
        }
        return desk;
    }

    private static void promise14WhatWasDroppedComesBack() {
        WarpDesk desk = pushedFull();
        desk.drop(160);
        for (int i = 0; i < 39; i++) {
            desk.push(900 + i);
        }
        for (int i = 0; i < 40; i++) {
            Due.is("undo " + i, desk.undo(), true);
        }
        for (int i = 0; i < 160; i++) {
            Due.is("came back: " + i, desk.at(i), i);
        }
        WarpDesk other = pushedFull();
        for (int i = 0; i < 20; i++) {
            other.drop(1);
            other.push(500 + i);
        }
        for (int i = 0; i < 40; i++) {
            other.undo();
        }
        for (int i = 0; i < 160; i++) {
            Due.is("came back again: " + i, other.at(i), i);
        }
    }

    private static void promise15Window() {
        WarpDesk desk = Due.desk("series 4 -7 2 gap 5 5;");
        int[] answers = {-1, -7, 4, -1, -1000000};
        for (int what = 0; what < answers.length; what++) {
            Due.is("window 0 3 " + what, desk.window(0, 3, what), answers[what]);
        }
        Due.is("rounded down", desk.window(1, 2, 3), -3);
        Due.is("rounded down", desk.window(0, 2, 3), -2);
        Due.is("one reading", desk.window(2, 1, 0), 2);
        Due.is("a gap", desk.window(3, 1, 0), -1000000);
        Due.is("over a gap", desk.window(2, 2, 0), -1000000);
        Due.is("the last ones", desk.window(4, 2, 0), 10);
        Due.is("beyond the end", desk.window(4, 3, 0), -1000000);
        Due.is("no length", desk.window(0, 0, 0), -1000000);
        Due.is("below no length", desk.window(0, -1, 0), -1000000);
        Due.is("below the first", desk.window(-1, 2, 0), -1000000);
        Due.is("what -1", desk.window(0, 1, -1), -1000000);
        Due.is("greatest ints", desk.window(Integer.MAX_VALUE, Integer.MAX_VALUE, 0), -1000000);
        Due.is("the greatest length", desk.window(1, Integer.MAX_VALUE, 0), -1000000);
        WarpDesk full = Due.desk("series" + " -999".repeat(160) + ";");
        Due.is("160 readings", full.window(0, 160, 0), -159840);
        Due.is("161 readings", full.window(0, 161, 0), -1000000);
        Due.is("mean of 160", full.window(0, 160, 3), -999);
    }

    private static void promise37Flat() {
        WarpDesk desk = Due.desk("series 1 1 1 gap 1 2 2 gap gap 2;");
        int[] answers = {-1, 7, 3, 1, 0};
        for (int n = 0; n < answers.length; n++) {
            Due.is("flat " + n, desk.flat(n), answers[n]);
        }
        Due.is("flat 160", desk.flat(160), 0);
        Due.is("flat 161", desk.flat(161), -1);
        Due.is("flat -1", desk.flat(-1), -1);
        WarpDesk full = Due.desk("series" + " 0".repeat(160) + ";");
        Due.is("flat 160 of all", full.flat(160), 1);
        Due.is("flat 1 of all", full.flat(1), 160);
    }

    private static void promise38Whole() {
        WarpDesk desk = Due.desk("series gap 1 2 gap 3 4 gap 5;");
        Due.is("whole 0", desk.whole(0), 1);
        Due.is("whole 1", desk.whole(1), 2);
        Due.is("whole 2", desk.whole(2), -1);
        Due.is("whole -1", desk.whole(-1), -1);
        desk.push(6);
        desk.push(7);
        Due.is("whole 0", desk.whole(0), 7);
        Due.is("whole 1", desk.whole(1), 3);
        WarpDesk gaps = Due.desk("series gap gap;");
        Due.is("gaps alone", gaps.whole(0), -2);
        Due.is("gaps alone", gaps.whole(1), -2);
        Due.is("gaps alone", gaps.whole(2), -1);
    }

    private static void promise40Hold() {
        WarpDesk desk = Due.desk("series 1 2; query a 1 2;");
        Due.is("hold -1", desk.hold(-1), false);
        Due.is("hold 3", desk.hold(3), false);
        Due.is("none held", desk.count(11), 0);
        Due.is("hold 2", desk.hold(2), true);
        Due.is("hold 2 again", desk.hold(2), true);
        Due.is("one held", desk.count(11), 1);
        desk.push(3);
        Due.is("hold 0", desk.hold(0), true);
        Due.is("two held", desk.count(11), 2);
        Due.is("still undoable", desk.count(9), 1);
        Due.is("undo", desk.undo(), true);
        Due.is("size", desk.count(0), 2);
    }

    private static void promise41Restore() {
        WarpDesk desk = Due.desk("series 1 gap 2; query a 1 2; band 5; level mean; cost square; apart 4;");
        Due.is("restore of nothing", desk.restore(0), false);
        desk.hold(0);
        desk.drop(2);
        desk.set(0, 6);
        desk.set(1, 3);
        desk.set(2, 0);
        desk.set(3, 9);
        desk.hold(1);
        Due.put(desk, "tape");
        Due.is("restore -1", desk.restore(-1), false);
        Due.is("restore 3", desk.restore(3), false);
        Due.is("restore 2", desk.restore(2), false);
        Due.is("nothing happened", desk.count(9), 5);
        Due.is("restore 0", desk.restore(0), true);
        int[] counts = {3, 1, 1, 5, 1, 1, 4, 1, 4, 0, 3, 2};
        for (int what = 0; what < counts.length; what++) {
            Due.is("restored: count " + what, desk.count(what), counts[what]);
        }
        Due.is("nothing to undo", desk.undo(), false);
        Due.is("at 1", desk.at(1), -1000);
        desk.push(8);
        Due.is("restore 0 again", desk.restore(0), true);
        Due.is("size", desk.count(0), 3);
        Due.is("restore 1", desk.restore(1), true);
        Due.is("size", desk.count(0), 1);
        Due.is("at 0", desk.at(0), 2);
        Due.is("band", desk.count(3), 6);
        Due.is("level", desk.count(4), 3);
        Due.is("cost", desk.count(5), 0);
        Due.is("apart", desk.count(6), 9);
    }

    private static void promise42Count() {
        WarpDesk desk = Due.desk("series 3 -9 gap 4 gap gap 7 8 -2; query a 1 2; query b 1 2 3; band 9; level range; cost square; apart 77;");
        Due.put(desk, "12345");
        desk.push(-1);
        desk.set(0, 0);
        desk.hold(1);
        int[] counts = {10, 3, 2, 0, 3, 1, 77, 4, 5, 2, 10, 1, 8, -9, 2, -1};
        for (int what = 0; what < counts.length; what++) {
            Due.is("count " + what, desk.count(what), counts[what]);
        }
        Due.is("count -1", desk.count(-1), -1);
        Due.is("count of the greatest int", desk.count(Integer.MAX_VALUE), -1);
        WarpDesk whole = Due.desk("series 3 4 5;");
        Due.is("behind no gap", whole.count(7), 3);
        Due.is("ahead of no gap", whole.count(14), 3);
        WarpDesk gaps = Due.desk("series gap gap;");
        int[] ofGaps = {2, 2, 0, 2, 0, 0, 8, 0, 0, 0, 0, 0, -1000, -1000, 0};
        for (int what = 0; what < ofGaps.length; what++) {
            Due.is("gaps: count " + what, gaps.count(what), ofGaps[what]);
        }
    }
}

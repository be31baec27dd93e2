/**
 * The edges that the document names for what is done to the SERIES and what is set, undone and held
 * (promises 9 to 14, 40 and 41), and for the calls that an object is used for, sentence by sentence.
 */
public final class EdgeSeriesTest {
    private static final int LEAST = Integer.MIN_VALUE;
    private static final int MOST = Integer.MAX_VALUE;

    public static void main(String[] args) {
        pushTellsHowManyPlaces();
        pushToAFullSeries();
        pushOfNoSuchReading();
        gapTellsHowManyPlaces();
        gapToAFullSeries();
        mendRoundsDown();
        mendOfNoSuchOne();
        dropTakesTheFirst();
        dropOfTooManyOrTooFew();
        setToEachValue();
        setToNoSuchValue();
        setToWhatIsSo();
        undoOfEachThing();
        undoWithNothingDone();
        undoOfTheLast40();
        undoOfRefusedThings();
        undoBeyondWhatWasUndone();
        undoBringsBackAFullSeries();
        undoAroundTheRing();
        holdInEachSlot();
        holdInNoSuchSlot();
        holdChangesNothingElse();
        holdIsNotMovedByWhatFollows();
        restoreBringsAllThatGoesOn();
        restoreLeavesTapeAndFault();
        restoreStaysAndCannotBeUndone();
        restoreOfNothingHeld();
        upTo512Calls();
        Due.end();
    }

    /** So many places: READINGS 1, 2, 3 .. and one GAP at the place 3. */
    private static WarpDesk ofSize(int size) {
        StringBuilder text = new StringBuilder("query a 1 2; series");
        for (int i = 0; i < size; i++) {
            text.append(i == 3 ? " gap" : " " + (i + 1));
        }
        return Due.desk(text + ";");
    }

    private static WarpDesk busyOfSize(int size) {
        WarpDesk desk = ofSize(size - 1);
        desk.hold(1);
        desk.push(-5);
        desk.set(0, 1);
        return desk;
    }

    // ---- promises 9 and 10

    private static void pushTellsHowManyPlaces() {
        Due.says("9: a READING comes behind the SERIES: how many places it has");
        WarpDesk desk = new WarpDesk();
        int[] readings = {999, -999, 0, 1, -1, 998, -998};
        for (int i = 0; i < readings.length; i++) {
            Due.is("push " + readings[i], desk.push(readings[i]), i + 1);
            Due.is("at " + i, desk.at(i), readings[i]);
            Due.is("places", desk.count(0), i + 1);
            Due.is("things done", desk.count(9), i + 1);
        }
        WarpDesk last = ofSize(159);
        Due.is("the 160th", last.push(-7), 160);
        Due.is("at 159", last.at(159), -7);
        Due.is("at 158", last.at(158), 159);
    }

    private static void pushToAFullSeries() {
        Due.says("9: NONE, and nothing happens: it has 160");
        for (int reading : new int[] {0, 999, -999, 1000, MOST}) {
            Twins.nothingHappens("push " + reading + " to 160", () -> busyOfSize(160), desk -> desk.push(reading), -1);
        }
        WarpDesk desk = ofSize(160);
        Due.is("push", desk.push(1), -1);
        Due.is("drop 1", desk.drop(1), true);
        Due.is("push then", desk.push(1), 160);
        Due.is("push again", desk.push(1), -1);
        Due.is("undo", desk.undo(), true);
        Due.is("push after an undo", desk.push(2), 160);
        Due.is("at 159", desk.at(159), 2);
    }

    private static void pushOfNoSuchReading() {
        Due.says("9: NONE, and nothing happens: no such READING");
        for (int reading : new int[] {1000, 1001, -1000, -1001, MOST, LEAST, 65536, -65536}) {
            Twins.nothingHappens("push " + reading, Twins::busyWithTape, desk -> desk.push(reading), -1);
            Twins.nothingHappens("push " + reading + " to none", WarpDesk::new, desk -> desk.push(reading), -1);
        }
    }

    private static void gapTellsHowManyPlaces() {
        Due.says("10: a GAP comes behind it: likewise");
        WarpDesk desk = new WarpDesk();
        for (int size = 1; size <= 160; size++) {
            Due.is("gap", desk.gap(), size);
        }
        Due.is("gaps", desk.count(1), 160);
        Due.is("at 159", desk.at(159), -1000);
        WarpDesk last = ofSize(159);
        Due.is("the 160th", last.gap(), 160);
        Due.is("at 159", last.at(159), -1000);
        Due.is("gaps", last.count(1), 2);
    }

    private static void gapToAFullSeries() {
        Due.says("10: NONE, and nothing happens: it has 160");
        Twins.nothingHappens("gap to 160", () -> busyOfSize(160), WarpDesk::gap, -1);
        WarpDesk desk = ofSize(160);
        Due.is("gap", desk.gap(), -1);
        Due.is("drop 1", desk.drop(1), true);
        Due.is("gap then", desk.gap(), 160);
    }

    // ---- promise 11

    private static void mendRoundsDown() {
        Due.says("11: becomes what these are, added, by 2, rounded down: that");
        int[] ahead = {1, 1, -1, -1, 0, 0, -3, 999, 999, -999, -999, -999, 998};
        int[] behind = {3, 2, -3, -2, 1, -1, 2, 999, -999, -999, -998, 998, 999};
        int[] due = {2, 1, -2, -2, 0, -1, -1, 999, 0, -999, -999, -1, 998};
        for (int i = 0; i < ahead.length; i++) {
            WarpDesk desk = new WarpDesk();
            desk.push(ahead[i]);
            desk.gap();
            desk.push(behind[i]);
            Due.is("mend between " + ahead[i] + " and " + behind[i], desk.mend(1), due[i]);
            Due.is("at 1", desk.at(1), due[i]);
            Due.is("at 0", desk.at(0), ahead[i]);
            Due.is("at 2", desk.at(2), behind[i]);
            Due.is("gaps", desk.count(1), 0);
            Due.is("things done", desk.count(9), 4);
        }
        WarpDesk first = Due.desk("series 4 gap 6" + " 0".repeat(154) + " 1 gap 5;");
        Due.is("the first that can be", first.mend(1), 5);
        Due.is("the last that can be", first.mend(158), 3);
        Due.says("11: a mended one is a READING");
        WarpDesk chain = Due.desk("series 1 gap 5 gap 7 gap gap 9;");
        Due.is("mend 3", chain.mend(3), 6);
        Due.is("mend 1", chain.mend(1), 3);
        Due.is("window", chain.window(0, 5, 0), 22);
        chain.drop(3);
        Due.is("at 2 is the GAP behind", chain.mend(2), -1000);
    }

    private static WarpDesk gaps() {
        WarpDesk desk = Due.desk("series gap 1 gap 2 3 gap gap 4 gap;");
        desk.hold(1);
        desk.push(5);
        desk.gap();
        return desk;
    }

    private static void mendOfNoSuchOne() {
        Due.says("11: -1000, and nothing happens: no such one");
        // A GAP at either end, one beside a GAP, a READING, no place at all.
        for (int i : new int[] {0, 1, 3, 4, 5, 6, 7, 9, 10, 11, -1, -2, 160, 256, MOST, LEAST}) {
            Twins.nothingHappens("mend " + i, EdgeSeriesTest::gaps, desk -> desk.mend(i), -1000);
        }
        for (int i : new int[] {0, 1, -1}) {
            Twins.nothingHappens("mend " + i + " of none", WarpDesk::new, desk -> desk.mend(i), -1000);
        }
        WarpDesk desk = gaps();
        Due.is("mend 2", desk.mend(2), 1);
        Due.is("mend 8", desk.mend(8), 4);
        Due.is("mend 2 again", desk.mend(2), -1000);
    }

    // ---- promise 12

    private static void dropTakesTheFirst() {
        Due.says("12: the first n places of the SERIES go: true");
        for (int n : new int[] {1, 2, 3, 4, 80, 159}) {
            WarpDesk desk = ofSize(160);
            Due.is("drop " + n, desk.drop(n), true);
            Due.is("places", desk.count(0), 160 - n);
            Due.is("at 0", desk.at(0), n == 3 ? -1000 : n + 1);
            Due.is("the last", desk.at(159 - n), 160);
            Due.is("behind the last", desk.at(160 - n), -1000);
            Due.is("gaps", desk.count(1), n <= 3 ? 1 : 0);
            Due.is("things done", desk.count(9), 1);
        }
        WarpDesk all = ofSize(160);
        Due.is("drop of all", all.drop(160), true);
        Due.is("places", all.count(0), 0);
        Due.is("at 0", all.at(0), -1000);
        WarpDesk one = ofSize(1);
        Due.is("drop of the only one", one.drop(1), true);
        Due.is("places", one.count(0), 0);
    }

    private static void dropOfTooManyOrTooFew() {
        Due.says("12: false, and nothing happens: n below 1, not so many");
        int size = Twins.busy().count(0);
        for (int n : new int[] {0, -1, -2, -size, LEAST, size + 1, size + 2, 160, 161, 256, MOST}) {
            Twins.nothingHappens("drop " + n, Twins::busyWithTape, desk -> desk.drop(n) ? 1 : 0, 0);
        }
        for (int n : new int[] {0, 1, -1, 160}) {
            Twins.nothingHappens("drop " + n + " of none", WarpDesk::new, desk -> desk.drop(n) ? 1 : 0, 0);
        }
        Twins.nothingHappens("drop 161 of 160", () -> busyOfSize(160), desk -> desk.drop(161) ? 1 : 0, 0);
    }

    // ---- promise 13

    private static final int[] LOWEST = {0, 0, 0, 1};
    private static final int[] HIGHEST = {15, 3, 1, 99};
    private static final int[] UNTOLD = {2, 0, 0, 8};

    private static void setToEachValue() {
        Due.says("13: what 0 BAND, 1 LEVEL, 2 COST, 3 APART is set: true");
        for (int what = 0; what < 4; what++) {
            for (int value = LOWEST[what]; value <= HIGHEST[what]; value++) {
                WarpDesk desk = new WarpDesk();
                boolean isNew = value != UNTOLD[what];
                Due.is("set " + what + " " + value, desk.set(what, value), isNew);
                for (int other = 0; other < 4; other++) {
                    Due.is("count " + (3 + other), desk.count(3 + other), other == what ? value : UNTOLD[other]);
                }
                Due.is("things done", desk.count(9), isNew ? 1 : 0);
            }
        }
    }

    private static void setToNoSuchValue() {
        Due.says("13: false, and nothing happens: no such ones");
        for (int what = 0; what < 4; what++) {
            int kind = what;
            for (int value : new int[] {LOWEST[what] - 1, HIGHEST[what] + 1, -2, 100, MOST, LEAST}) {
                Twins.nothingHappens("set " + what + " " + value, Twins::busyWithTape,
                    desk -> desk.set(kind, value) ? 1 : 0, 0);
            }
        }
        for (int what : new int[] {-1, 4, 5, -2, MOST, LEAST}) {
            for (int value : new int[] {-1, 0, 1, 2, 8}) {
                Twins.nothingHappens("set " + what + " " + value, Twins::busyWithTape,
                    desk -> desk.set(what, value) ? 1 : 0, 0);
            }
        }
    }

    private static void setToWhatIsSo() {
        Due.says("13: false, and nothing happens: it is so");
        for (int what = 0; what < 4; what++) {
            int kind = what;
            int value = Twins.busy().count(3 + what);
            Twins.nothingHappens("set " + what + " as it is", Twins::busyWithTape, desk -> desk.set(kind, value) ? 1 : 0, 0);
            Twins.nothingHappens("set " + what + " as untold", WarpDesk::new, desk -> desk.set(kind, UNTOLD[kind]) ? 1 : 0, 0);
        }
        WarpDesk desk = new WarpDesk();
        Due.is("set 0 3", desk.set(0, 3), true);
        Due.is("set 0 3 again", desk.set(0, 3), false);
        Due.is("undo", desk.undo(), true);
        Due.is("set 0 2, which it is again", desk.set(0, 2), false);
        Due.is("set 0 3", desk.set(0, 3), true);
    }

    // ---- promise 14

    private static void doThing(WarpDesk desk, int thing) {
        switch (thing) {
            case 0 -> Due.is("push", desk.push(7), 12);
            case 1 -> Due.is("gap", desk.gap(), 12);
            case 2 -> Due.is("mend", desk.mend(2), 1);
            case 3 -> Due.is("drop of 3", desk.drop(3), true);
            case 4 -> Due.is("drop of all", desk.drop(11), true);
            case 5 -> Due.is("set", desk.set(0, 0), true);
            case 6 -> Due.is("set", desk.set(1, 3), true);
            case 7 -> Due.is("set", desk.set(2, 1), true);
            case 8 -> Due.is("set", desk.set(3, 99), true);
            default -> Due.is("drop of 1", desk.drop(1), true);
        }
    }

    private static void undoOfEachThing() {
        Due.says("14: the last thing done (push, gap, mend, drop, set) is undone: true");
        for (int thing = 0; thing <= 9; thing++) {
            int which = thing;
            WarpDesk done = gaps();
            doThing(done, thing);
            Due.is("things done", done.count(9), 3);
            // Done and undone: as if it had never been.
            Twins.nothingHappens("undo of thing " + thing, EdgeSeriesTest::gaps, desk -> {
                doThing(desk, which);
                return desk.undo() ? 1 : 0;
            }, 1);
        }
    }

    private static void undoWithNothingDone() {
        Due.says("14: false: there is none");
        Twins.nothingHappens("undo of a new object", WarpDesk::new, desk -> desk.undo() ? 1 : 0, 0);
        Twins.nothingHappens("undo after a read", () -> ofSize(9), desk -> desk.undo() ? 1 : 0, 0);
        WarpDesk desk = ofSize(2);
        desk.push(5);
        Due.is("undo", desk.undo(), true);
        Due.is("undo again", desk.undo(), false);
        Due.is("places", desk.count(0), 2);
    }

    private static void undoOfTheLast40() {
        Due.says("14: the last 40 can be");
        for (int things : new int[] {39, 40, 41, 42, 79, 80, 81, 90}) {
            WarpDesk desk = new WarpDesk();
            for (int i = 0; i < things; i++) {
                desk.push(i);
            }
            int undoable = Math.min(things, 40);
            Due.is("things that can be undone of " + things, desk.count(9), undoable);
            for (int n = 1; n <= undoable; n++) {
                Due.is("undo " + n + " of " + things, desk.undo(), true);
                Due.is("places", desk.count(0), things - n);
                Due.is("left", desk.count(9), undoable - n);
            }
            Due.is("one undo more of " + things, desk.undo(), false);
            Due.is("places", desk.count(0), things - undoable);
        }
    }

    private static void undoOfRefusedThings() {
        Due.says("14: what was refused is nothing done");
        WarpDesk desk = ofSize(160);
        desk.set(0, 7);
        desk.push(1);
        desk.gap();
        desk.mend(0);
        desk.drop(0);
        desk.drop(161);
        desk.set(0, 7);
        desk.set(0, 16);
        desk.restore(0);
        desk.hold(3);
        Due.is("things done", desk.count(9), 1);
        Due.is("undo", desk.undo(), true);
        Due.is("band", desk.count(3), 2);
        Due.is("undo of no more", desk.undo(), false);
    }

    private static void undoBeyondWhatWasUndone() {
        Due.says("14: a thing done behind an undo is the last one");
        WarpDesk desk = new WarpDesk();
        desk.push(1);
        desk.push(2);
        desk.undo();
        desk.push(3);
        Due.is("things", desk.count(9), 2);
        Due.is("at 1", desk.at(1), 3);
        Due.is("undo", desk.undo(), true);
        Due.is("places", desk.count(0), 1);
        Due.is("at 0", desk.at(0), 1);
        Due.is("undo", desk.undo(), true);
        Due.is("undo", desk.undo(), false);
        // 40 things, some undone, as many done again, over the edge of what is kept.
        WarpDesk many = new WarpDesk();
        for (int i = 0; i < 45; i++) {
            many.push(i);
        }
        for (int i = 0; i < 10; i++) {
            many.undo();
        }
        Due.is("things", many.count(9), 30);
        for (int i = 0; i < 15; i++) {
            many.push(100 + i);
        }
        Due.is("things", many.count(9), 40);
        for (int i = 0; i < 40; i++) {
            Due.is("undo", many.undo(), true);
        }
        Due.is("a 41st undo", many.undo(), false);
        Due.is("places", many.count(0), 10);
        Due.is("at 9", many.at(9), 9);
    }

    private static void undoBringsBackAFullSeries() {
        Due.says("14: what was dropped comes back, be it 160 places");
        for (int pushed : new int[] {0, 1, 38, 39}) {
            WarpDesk desk = ofSize(160);
            desk.drop(160);
            for (int i = 0; i < pushed; i++) {
                desk.push(900 + i % 90);
            }
            for (int i = 0; i <= pushed; i++) {
                Due.is("undo " + i, desk.undo(), true);
            }
            Due.is("nothing more", desk.undo(), false);
            Due.is("places", desk.count(0), 160);
            for (int i = 0; i < 160; i++) {
                Due.is("at " + i, desk.at(i), i == 3 ? -1000 : i + 1);
            }
        }
    }

    private static void undoAroundTheRing() {
        Due.says("14: drops and pushes one upon the other come back in their order");
        WarpDesk desk = ofSize(160);
        for (int i = 0; i < 100; i++) {
            desk.drop(1);
            desk.push(500 + i);
        }
        Due.is("places", desk.count(0), 160);
        Due.is("at 59", desk.at(59), 160);
        Due.is("at 60", desk.at(60), 500);
        Due.is("at 159", desk.at(159), 599);
        for (int i = 0; i < 40; i++) {
            desk.undo();
        }
        Due.is("nothing more", desk.undo(), false);
        Due.is("at 0", desk.at(0), 81);
        Due.is("at 79", desk.at(79), 160);
        Due.is("at 80", desk.at(80), 500);
        Due.is("at 159", desk.at(159), 579);
        Due.is("sum", desk.count(10), sum(81, 160) + sum(500, 579));
        WarpDesk blocks = ofSize(160);
        for (int i = 0; i < 5; i++) {
            blocks.drop(33);
            for (int k = 0; k < 7; k++) {
                blocks.push(10 * i + k);
            }
        }
        Due.is("places", blocks.count(0), 160 - 165 + 35);
        for (int i = 0; i < 40; i++) {
            Due.is("undo " + i, blocks.undo(), true);
        }
        Due.is("places", blocks.count(0), 160);
        Due.is("sum", blocks.count(10), sum(1, 160) - 4);
        Due.is("at 159", blocks.at(159), 160);
        Due.is("at 0", blocks.at(0), 1);
    }

    private static int sum(int from, int to) {
        return (from + to) * (to - from + 1) / 2;
    }

    // ---- promises 40 and 41

    private static void holdInEachSlot() {
        Due.says("40: all that goes on is held in a SLOT (0 .. 2): true");
        WarpDesk desk = new WarpDesk();
        for (int slot = 0; slot < 3; slot++) {
            Due.is("push", desk.push(slot), slot + 1);
            Due.is("hold " + slot, desk.hold(slot), true);
            Due.is("slots", desk.count(11), slot + 1);
        }
        for (int slot = 2; slot >= 0; slot--) {
            Due.is("restore " + slot, desk.restore(slot), true);
            Due.is("places", desk.count(0), slot + 1);
        }
        Due.is("hold 1 anew", desk.hold(1), true);
        Due.is("slots", desk.count(11), 3);
        desk.push(7);
        desk.push(8);
        Due.is("restore 1", desk.restore(1), true);
        Due.is("places", desk.count(0), 1);
        Due.is("restore 2 is as it was", desk.restore(2), true);
        Due.is("places", desk.count(0), 3);
    }

    private static void holdInNoSuchSlot() {
        Due.says("40: false: no such one");
        for (int slot : new int[] {-1, 3, 4, MOST, LEAST}) {
            Twins.nothingHappens("hold " + slot, Twins::busyWithTape, desk -> desk.hold(slot) ? 1 : 0, 0);
            Twins.nothingHappens("hold " + slot, WarpDesk::new, desk -> desk.hold(slot) ? 1 : 0, 0);
        }
    }

    private static void holdChangesNothingElse() {
        Due.says("40: what goes on goes on as it was");
        for (int slot = 0; slot < 3; slot++) {
            WarpDesk desk = Twins.busyWithTape();
            WarpDesk other = Twins.busyWithTape();
            desk.hold(slot);
            other.hold(slot);
            other.hold(slot);
            Due.is("held twice", Twins.shown(desk).equals(Twins.shown(other)), true);
            WarpDesk held = Twins.busyWithTape();
            int places = held.count(0);
            int things = held.count(9);
            held.hold(slot);
            Due.is("places", held.count(0), places);
            Due.is("things that can be undone", held.count(9), things);
            Due.is("bytes", held.count(8), Twins.busyWithTape().count(8));
            for (int i = 0; i < things; i++) {
                Due.is("undo " + i, held.undo(), true);
            }
            Due.is("as the text told it", held.at(1), -1000);
            Due.is("as the text told it", held.count(0), 5);
            Due.is("restore", held.restore(slot), true);
            Due.is("places", held.count(0), places);
        }
        WarpDesk full = ofSize(160);
        full.hold(0);
        full.drop(160);
        full.hold(1);
        Due.is("restore of 160 places", full.restore(0), true);
        Due.is("places", full.count(0), 160);
        Due.is("at 159", full.at(159), 160);
        Due.is("restore of no places", full.restore(1), true);
        Due.is("places", full.count(0), 0);
        Due.is("at 0", full.at(0), -1000);
    }

    private static void holdIsNotMovedByWhatFollows() {
        Due.says("41: it goes on from what a SLOT holds, whatever was done since");
        WarpDesk desk = Due.desk("series 1 gap 3; query a 1 2;");
        desk.hold(0);
        desk.mend(1);
        desk.push(4);
        desk.drop(1);
        desk.set(0, 9);
        desk.set(1, 1);
        desk.set(2, 1);
        desk.set(3, 1);
        Due.is("restore", desk.restore(0), true);
        int[] counts = {3, 1, 1, 2, 0, 0, 8, 1, 0, 0, 4, 1, 3, 1, 1};
        for (int what = 0; what < counts.length; what++) {
            Due.is("count " + what, desk.count(what), counts[what]);
        }
        desk.mend(1);
        desk.push(9);
        Due.is("restore once more", desk.restore(0), true);
        Due.is("at 1", desk.at(1), -1000);
        Due.is("places", desk.count(0), 3);
        desk.push(5);
        desk.hold(2);
        desk.undo();
        Due.is("restore 2", desk.restore(2), true);
        Due.is("an undo did not reach it", desk.count(0), 4);
    }

    private static void restoreBringsAllThatGoesOn() {
        Due.says("40 and 41: all that goes on: SERIES, QUERIES, BAND, LEVEL, COST, APART");
        WarpDesk desk = Due.desk("series 5 gap -6; query a 1 2 3; query b 4 5; band 15; level range; cost square; apart 99;");
        desk.hold(1);
        desk.drop(3);
        desk.set(0, 0);
        desk.set(1, 0);
        desk.set(2, 0);
        desk.set(3, 1);
        Due.is("restore", desk.restore(1), true);
        WarpDesk fresh = Due.desk("series 5 gap -6; query a 1 2 3; query b 4 5; band 15; level range; cost square; apart 99;");
        fresh.hold(0);
        Due.is("all as told", Twins.shown(desk).equals(Twins.shown(fresh)), true);
    }

    private static void restoreLeavesTapeAndFault() {
        Due.says("40: (not the tape); 5 and 6: the latest read()'s FAULT");
        WarpDesk desk = Due.desk("series 1 2;");
        Due.put(desk, "band 1;");
        desk.hold(0);
        Due.is("bytes", desk.count(8), 7);
        Due.put(desk, "band 3;;");
        Due.is("restore", desk.restore(0), true);
        Due.is("bytes", desk.count(8), 15);
        Due.is("read", desk.read(), 1);
        Due.is("place", desk.place(), 14);
        Due.is("restore", desk.restore(0), true);
        Due.is("place after a restore", desk.place(), 14);
        Due.is("cause after a restore", desk.cause(), -2);
        Due.is("bytes after a restore", desk.count(8), 0);
    }

    private static void restoreStaysAndCannotBeUndone() {
        Due.says("41: that stays there; nothing can be undone then: true");
        WarpDesk desk = Due.desk("series 1 2;");
        desk.push(3);
        desk.hold(2);
        desk.push(4);
        for (int time = 0; time < 3; time++) {
            Due.is("restore", desk.restore(2), true);
            Due.is("slots", desk.count(11), 1);
            Due.is("places", desk.count(0), 3);
            Due.is("things that can be undone", desk.count(9), 0);
            Due.is("undo", desk.undo(), false);
            Due.is("places", desk.count(0), 3);
            Due.is("push", desk.push(9), 4);
            Due.is("things that can be undone", desk.count(9), 1);
        }
        Due.is("undo of what followed", desk.undo(), true);
        Due.is("places", desk.count(0), 3);
    }

    private static void restoreOfNothingHeld() {
        Due.says("41: false, and nothing happens: no such one, nothing is held");
        // The SLOT 1 holds nothing.
        for (int slot : new int[] {1, -1, 3, 4, MOST, LEAST}) {
            Twins.nothingHappens("restore " + slot, Twins::busyWithTape, desk -> desk.restore(slot) ? 1 : 0, 0);
        }
        for (int slot = 0; slot < 3; slot++) {
            int which = slot;
            Twins.nothingHappens("restore " + slot + " of a new object", WarpDesk::new, desk -> desk.restore(which) ? 1 : 0, 0);
        }
    }

    // ---- how long an object is used

    private static void upTo512Calls() {
        Due.says("an object is used for at most 512 calls after it has been made");
        WarpDesk desk = new WarpDesk();
        for (int i = 0; i < 160; i++) {
            Due.is("push", desk.push(i), i + 1);
        }
        for (int i = 0; i < 174; i++) {
            Due.is("drop", desk.drop(1), true);
            Due.is("push", desk.push(160 + i), 160);
        }
        Due.is("the 509th call", desk.at(0), 174);
        Due.is("the 510th call", desk.at(159), 333);
        Due.is("the 511th call", desk.count(9), 40);
        Due.is("the 512th call", desk.count(10), sum(174, 333));
        WarpDesk turned = new WarpDesk();
        for (int i = 0; i < 255; i++) {
            turned.push(i % 2);
            turned.drop(1);
        }
        Due.is("the 511th call", turned.undo(), true);
        Due.is("the 512th call", turned.at(0), 0);
    }
}

import java.util.ArrayList;
import java.util.List;
import java.util.function.Supplier;
import java.util.function.ToLongFunction;

/**
 * "Nothing happens": an object with the call that is refused beside one without it, made alike. All
 * that calls can show of both must be alike: what stands, what can be undone, the SLOTS and the tape.
 * Each way of showing takes new objects, so that none has more than 512 calls.
 */
final class Twins {
    private Twins() {
    }

    /** Things done, things held, nothing on the tape. */
    static WarpDesk busy() {
        WarpDesk desk = Due.desk("series 1 gap 3 -4 5; query a 1 2; query b 3 -4 5; band 4; level mean; cost square; apart 3;");
        desk.hold(0);
        desk.push(6);
        desk.gap();
        desk.push(-7);
        desk.mend(1);
        desk.hold(2);
        desk.drop(1);
        desk.set(0, 5);
        desk.set(1, 3);
        desk.set(2, 0);
        desk.set(3, 9);
        return desk;
    }

    /** The same, with a text on the tape that is not whole, behind a read() with a FAULT. */
    static WarpDesk busyWithTape() {
        WarpDesk desk = busy();
        Due.read(desk, "series 1 2 1000;");
        Due.put(desk, "series 9 8; query z 7 6; band 1");
        return desk;
    }

    static void nothingHappens(String call, Supplier<WarpDesk> made, ToLongFunction<WarpDesk> refused, long due) {
        WarpDesk asked = made.get();
        Due.is(call, refused.applyAsLong(asked), due);
        alike(call, shown(asked), shown(made.get()));
        hiddenIsAlike(call, made, refused);
    }

    /** As above, but for what a text with a FAULT may change: the tape, place() and cause(). */
    static void onlyTheTapeGoes(String text, Supplier<WarpDesk> made, int fault) {
        ToLongFunction<WarpDesk> refused = desk -> Due.read(desk, text);
        WarpDesk asked = made.get();
        Due.is("read of " + text, refused.applyAsLong(asked), fault);
        alike("after " + text, standing(asked), standing(made.get()));
        hiddenIsAlike("after " + text, made, refused);
    }

    private static void hiddenIsAlike(String call, Supplier<WarpDesk> made, ToLongFunction<WarpDesk> refused) {
        for (String way : new String[] {"restore 0", "restore 1", "restore 2", "undo", "read"}) {
            WarpDesk asked = made.get();
            refused.applyAsLong(asked);
            alike(call + ", then " + way, hidden(asked, way), hidden(made.get(), way));
        }
    }

    private static List<Long> hidden(WarpDesk desk, String way) {
        List<Long> answers = new ArrayList<>();
        switch (way) {
            case "undo" -> answers.addAll(undone(desk));
            case "read" -> answers.add((long) desk.read());
            default -> answers.add(desk.restore(way.charAt(8) - '0') ? 1L : 0L);
        }
        answers.addAll(standing(desk));
        return answers;
    }

    /** All that stands, the tape's length and the latest read()'s FAULT among it. */
    static List<Long> shown(WarpDesk desk) {
        List<Long> answers = standing(desk);
        answers.add((long) desk.count(8));
        answers.add((long) desk.place());
        answers.add((long) desk.cause());
        return answers;
    }

    private static List<Long> standing(WarpDesk desk) {
        List<Long> answers = new ArrayList<>();
        for (int what = 0; what <= 14; what++) {
            if (what != 8) {
                answers.add((long) desk.count(what));
            }
        }
        for (int i = 0; i < 160; i++) {
            answers.add((long) desk.at(i));
        }
        for (int q = 0; q < desk.count(2); q++) {
            for (int i = 0; i < 16 && desk.query(q, i) != -1000; i++) {
                answers.add((long) desk.query(q, i));
            }
        }
        return answers;
    }

    private static List<Long> undone(WarpDesk desk) {
        List<Long> answers = new ArrayList<>();
        for (int n = 0; n <= 40 && desk.undo(); n++) {
            for (int what : new int[] {0, 1, 3, 4, 5, 6, 10}) {
                answers.add((long) desk.count(what));
            }
            answers.add((long) desk.at(0));
            answers.add((long) desk.at(desk.count(0) - 1));
        }
        return answers;
    }

    private static void alike(String call, List<Long> one, List<Long> other) {
        Due.is(call + ": all shown", one.size(), other.size());
        for (int i = 0; i < one.size() && i < other.size(); i++) {
            if (!one.get(i).equals(other.get(i))) {
                Due.is(call + ": shown " + i, one.get(i), other.get(i));
            }
        }
    }
}

/** The edges that the document names for a new object, the tape and its bytes (promises 1 to 4), sentence by sentence. */
public final class EdgeTapeTest {
    private static final int LEAST = Integer.MIN_VALUE;
    private static final int MOST = Integer.MAX_VALUE;
    private static final int BLANKS = 0x20202020;

    public static void main(String[] args) {
        newObjectHasNothing();
        feedTakesTheHighestByteFirst();
        feedTakesAllBytes();
        feedFillsTheTape();
        feedBeyondTheTapeBringsNothing();
        backTakesTheLastBytes();
        backOfTooManyTakesNothing();
        readEmptiesTheTape();
        textOf2000Bytes();
        Due.end();
    }

    // ---- promise 1

    private static void newObjectHasNothing() {
        Due.says("1: no READINGS, no QUERIES");
        WarpDesk desk = new WarpDesk();
        Due.is("places", desk.count(0), 0);
        Due.is("queries", desk.count(2), 0);
        Due.is("at 0", desk.at(0), -1000);
        Due.is("query 0 0", desk.query(0, 0), -1000);
        Due.is("bytes", desk.count(8), 0);
        Due.is("done", desk.count(9), 0);
        Due.is("held", desk.count(11), 0);
        Due.says("BAND (2), LEVEL (none), COST (plain), APART (8)");
        Due.is("band", desk.count(3), 2);
        Due.is("level", desk.count(4), 0);
        Due.is("cost", desk.count(5), 0);
        Due.is("apart", desk.count(6), 8);
        Due.says("ahead of any read, -1");
        Due.is("cause", desk.cause(), -1);
        Due.is("place", desk.place(), -1);
    }

    // ---- promise 2

    private static int[] blanksWith(int at, int sign) {
        int[] words = {BLANKS, BLANKS, BLANKS, BLANKS, BLANKS};
        int shift = 24 - 8 * (at % 4);
        words[at / 4] = words[at / 4] & ~(255 << shift) | sign << shift;
        return words;
    }

    private static int feed(WarpDesk desk, int[] words) {
        return desk.feed(words[0], words[1], words[2], words[3], words[4]);
    }

    private static void feedTakesTheHighestByteFirst() {
        Due.says("2: twenty bytes, the highest of a first, come behind the tape");
        for (int at = 0; at < 20; at++) {
            WarpDesk desk = new WarpDesk();
            Due.is("feed", feed(desk, blanksWith(at, ';')), 20);
            Due.is("read", desk.read(), 1);
            Due.is("place of byte " + at, desk.place(), at);
            Due.is("feed", feed(desk, blanksWith(0, ' ')), 20);
            Due.is("feed behind it", feed(desk, blanksWith(at, 'z')), 40);
            Due.is("read", desk.read(), 1);
            Due.is("place of byte " + at, desk.place(), 20 + at);
        }
    }

    private static boolean isBlank(int sign) {
        return sign == 9 || sign == 10 || sign == 13 || sign == 32;
    }

    private static void feedTakesAllBytes() {
        Due.says("blanks (9, 10, 13, 32); all else, is no TOKEN");
        for (int sign = 0; sign < 256; sign++) {
            for (int at = 4; at < 8; at++) {
                WarpDesk desk = new WarpDesk();
                feed(desk, blanksWith(at, sign));
                Due.is("read of byte " + sign, desk.read(), isBlank(sign) ? 0 : 1);
                Due.is("place of byte " + sign, desk.place(), isBlank(sign) ? -1 : at);
            }
        }
    }

    private static void feedFillsTheTape() {
        Due.says("2: how many it has; A TEXT has 2,000 bytes at most");
        WarpDesk desk = new WarpDesk();
        for (int size = 20; size <= 2000; size += 20) {
            Due.is("feed to " + size, feed(desk, blanksWith(0, ' ')), size);
            Due.is("bytes", desk.count(8), size);
        }
        Due.is("read of 2,000 blanks", desk.read(), 0);
    }

    private static WarpDesk tapeOf(int size) {
        WarpDesk desk = Twins.busy();
        Due.put(desk, " ".repeat(size - 7) + "band 3;");
        Due.is("bytes", desk.count(8), size);
        return desk;
    }

    private static void feedBeyondTheTapeBringsNothing() {
        Due.says("2: NONE, and nothing comes, if it would have more than 2,000");
        int[] words = blanksWith(3, ';');
        for (int size : new int[] {1981, 1990, 1999, 2000}) {
            Twins.nothingHappens("feed to " + size, () -> tapeOf(size), desk -> feed(desk, words), -1);
        }
        for (int size : new int[] {1979, 1980}) {
            WarpDesk desk = tapeOf(size);
            Due.is("feed to " + size, feed(desk, words), size + 20);
            Due.is("bytes", desk.count(8), size + 20);
            Due.is("read", desk.read(), 1);
            Due.is("place of the last feed's ';'", desk.place(), size + 3);
        }
        WarpDesk again = tapeOf(2000);
        Due.is("feed of a full tape", feed(again, words), -1);
        Due.is("back 20", again.back(20), 1980);
        Due.is("feed then", feed(again, words), 2000);
        WarpDesk read = tapeOf(2000);
        read.read();
        Due.is("feed after a read", feed(read, words), 20);
    }

    // ---- promise 3

    private static void backTakesTheLastBytes() {
        Due.says("3: the last n bytes of the tape go: how many it has");
        WarpDesk desk = new WarpDesk();
        Due.is("back 0 of an empty tape", desk.back(0), 0);
        Due.put(desk, "series 1 23;");
        Due.is("back 0", desk.back(0), 12);
        Due.is("bytes", desk.count(8), 12);
        Due.is("back 1", desk.back(1), 11);
        Due.is("back 1", desk.back(1), 10);
        Due.put(desk, ";");
        Due.is("read", desk.read(), 0);
        Due.is("the last place", desk.at(1), 2);
        Due.put(desk, "series 1 23;");
        Due.is("back of all but one", desk.back(11), 1);
        Due.is("back of the last one", desk.back(1), 0);
        Due.is("bytes", desk.count(8), 0);
        Due.is("an empty text", desk.read(), 0);
        WarpDesk full = new WarpDesk();
        Due.put(full, " ".repeat(2000));
        Due.is("back of 2,000", full.back(2000), 0);
        Due.is("feed to an empty tape", feed(full, blanksWith(0, ';')), 20);
        Due.is("read", full.read(), 1);
        Due.is("place", full.place(), 0);
    }

    private static void backOfTooManyTakesNothing() {
        Due.says("3: NONE, and nothing goes, if it has not so many, or n is below 0");
        int size = Twins.busyWithTape().count(8);
        for (int n : new int[] {size + 1, size + 2, 2000, 2001, MOST, -1, -2, -size, -size - 1, LEAST}) {
            Twins.nothingHappens("back " + n, Twins::busyWithTape, desk -> desk.back(n), -1);
        }
        for (int n : new int[] {1, -1, MOST, LEAST}) {
            Twins.nothingHappens("back " + n + " of an empty tape", Twins::busy, desk -> desk.back(n), -1);
        }
        Twins.nothingHappens("back 2,001 of a full tape", () -> tapeOf(2000), desk -> desk.back(2001), -1);
    }

    // ---- promises 4 to 6

    private static void readEmptiesTheTape() {
        Due.says("4: the tape, which is empty then, is read: 0, or the number of its FAULT");
        for (String text : new String[] {"series 1;", "series 1", "series 1000;", ""}) {
            WarpDesk desk = Twins.busy();
            Due.put(desk, text);
            desk.read();
            Due.is("bytes after " + text, desk.count(8), 0);
            Due.is("back after " + text, desk.back(1), -1);
            Due.is("a second read after " + text, desk.read(), 0);
            Due.is("places of an empty text", desk.count(0), 0);
            Due.is("queries of an empty text", desk.count(2), 0);
            Due.is("place", desk.place(), -1);
            Due.is("cause", desk.cause(), -1);
        }
    }

    private static void textOf2000Bytes() {
        Due.says("A TEXT has 2,000 bytes at most; the text's end: its length");
        String tell = "series 1 2;";
        String blanks = " ".repeat(2000 - tell.length());
        Due.is("the last byte counts", Due.desk(blanks + tell).count(0), 2);
        Due.is("the first byte counts", Due.desk(tell + blanks).count(0), 2);
        Due.fault(blanks + "series 1 2-", 1, 2000, 2);
        Due.fault(blanks + "series 1 2,", 1, 1999, 2);
        Due.fault("series 1 2 " + blanks, 1, 2000, 2);
        Due.fault(";" + " ".repeat(1999), 1, 0, -2);
        Due.fault(" ".repeat(1999) + ";", 1, 1999, -2);
    }
}

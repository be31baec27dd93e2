import java.nio.charset.StandardCharsets;

/** What the tests share: answers that are due, and texts put on a desk's tape. */
final class Due {
    private static int wrong = 0;
    private static int asked = 0;
    private static String sentence = "";

    private Due() {
    }

    /** The document's words that the next answers hold: told with each one that is wrong. */
    static void says(String words) {
        sentence = "[" + words + "] ";
    }

    static void is(String call, long got, long want) {
        asked++;
        if (got != want) {
            wrong++;
            System.out.println(sentence + call + " answered " + got + ", due is " + want);
        }
    }

    static void is(String call, boolean got, boolean want) {
        is(call, got ? 1 : 0, want ? 1 : 0);
    }

    static void end() {
        System.out.println(asked + " answers, " + wrong + " wrong");
        if (wrong != 0 || asked == 0) {
            System.exit(1);
        }
    }

    static void put(WarpDesk desk, String text) {
        put(desk, text.getBytes(StandardCharsets.ISO_8859_1));
    }

    /** Feeds the bytes whole: the last twenty are filled up, and what filled them is taken back. */
    static void put(WarpDesk desk, byte[] bytes) {
        int fed = 0;
        while (fed < bytes.length) {
            int[] words = new int[5];
            for (int i = 0; i < 20; i++) {
                int sign = fed + i < bytes.length ? bytes[fed + i] & 255 : 'z';
                words[i / 4] = words[i / 4] << 8 | sign;
            }
            desk.feed(words[0], words[1], words[2], words[3], words[4]);
            fed += 20;
        }
        desk.back(fed - bytes.length);
    }

    static int read(WarpDesk desk, String text) {
        put(desk, text);
        return desk.read();
    }

    static WarpDesk desk(String text) {
        WarpDesk desk = new WarpDesk();
        is("read of " + text, read(desk, text), 0);
        return desk;
    }

    /** The FAULT of a text on a new object, its place and its CAUSE. */
    static void fault(String text, int number, int place, int cause) {
        WarpDesk desk = new WarpDesk();
        is("read of " + text, read(desk, text), number);
        is("place of " + text, desk.place(), place);
        is("cause of " + text, desk.cause(), cause);
    }
}

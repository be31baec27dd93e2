import java.util.Random;

/** Long runs of calls, the same ones on every run of the test, on the class and on the Model. */
public final class ModelTest {
    private static final int RUNS = 700;
    // The document promises no answers behind the 512th call of an object.
    private static final int CALLS = 512;
    // But no call may ever throw, so some objects are used for far longer.
    private static final int MANY_CALLS = 8000;

    private final Random random;
    private final WarpDesk desk = new WarpDesk();
    private final Model model = new Model();
    private final int spread;
    private final int run;
    private int calls = 0;

    private ModelTest(int run) {
        this.run = run;
        random = new Random(run);
        spread = new int[] {2, 9, 60, 999}[run % 4];
    }

    public static void main(String[] args) {
        for (int run = 0; run < RUNS; run++) {
            new ModelTest(run).play();
        }
        Due.end();
    }

    private void play() {
        int most = run % 100 == 0 ? MANY_CALLS : CALLS;
        while (calls < most) {
            if (calls == 0 || random.nextInt(90) == 0) {
                text();
            } else {
                change();
                ask();
            }
        }
    }

    private int some(int most) {
        int kind = random.nextInt(40);
        if (kind == 0) {
            return -1 - random.nextInt(3);
        }
        if (kind == 1) {
            return random.nextBoolean() ? Integer.MIN_VALUE : Integer.MAX_VALUE - random.nextInt(20);
        }
        return random.nextInt(most + 2);
    }

    private String reading() {
        int value = random.nextInt(2 * spread + 1) - spread;
        return random.nextInt(400) == 0 ? "1000" : value < 0 ? "-" + -value : "" + value;
    }

    private static final String[] WORDS = {"series", "gap", "query", "band", "level", "none", "mean", "first",
        "range", "cost", "plain", "square", "apart"};

    private String name(int q) {
        String word = WORDS[random.nextInt(WORDS.length)];
        switch (random.nextInt(60)) {
            case 0:
                return "a";
            case 1:
                return word;
            case 2:
                return word + "s";
            case 3:
                return word.substring(1);
            default:
                return "" + (char) ('a' + q);
        }
    }

    private String randomText() {
        StringBuilder text = new StringBuilder();
        int series = 1 + random.nextInt(2);
        for (int i = 0; i < series; i++) {
            text.append("series ");
            int places = random.nextInt(8) == 0 ? 60 + random.nextInt(90) : random.nextInt(40);
            for (int p = 0; p < places; p++) {
                text.append(random.nextInt(15) == 0 ? "gap" : reading()).append(' ');
            }
            text.append(';');
        }
        int queries = random.nextInt(12) == 0 ? 6 : 1 + random.nextInt(5);
        for (int q = 0; q < queries; q++) {
            text.append(" query ").append(name(q));
            int length = random.nextInt(40) == 0 ? 1 + 16 * random.nextInt(2) : 2 + random.nextInt(15);
            length = random.nextBoolean() && length <= 16 ? 2 + length / 4 : length;
            for (int i = 0; i < length; i++) {
                text.append(' ').append(reading());
            }
            text.append(" ;\n");
        }
        String[] settings = {"band " + random.nextInt(17) + ";", "level none;", "level mean;", "level first;",
            "level range;", "cost plain;", "cost square;", "apart " + random.nextInt(12) + ";", "apart 100;"};
        for (int i = 0; i < 3; i++) {
            text.append(settings[random.nextInt(settings.length)]);
        }
        return text.toString();
    }

    private String spoiled(String text) {
        StringBuilder spoiled = new StringBuilder(text);
        int at = random.nextInt(spoiled.length());
        switch (random.nextInt(4)) {
            case 0 -> spoiled.deleteCharAt(at);
            case 1 -> spoiled.insert(at, ";- 7g\u00e9".charAt(random.nextInt(6)));
            case 2 -> spoiled.setLength(at);
            default -> spoiled.insert(at, "series 1 -1 gap;".repeat(random.nextInt(50)));
        }
        return spoiled.toString();
    }

    private void text() {
        String text = randomText();
        text = random.nextInt(4) == 0 ? spoiled(text) : text;
        text = text.length() > 2000 ? text.substring(0, 2000) : text;
        for (int at = 0; at < text.length(); at += 20) {
            int[] words = new int[5];
            for (int i = 0; i < 20; i++) {
                words[i / 4] = words[i / 4] << 8 | (at + i < text.length() ? text.charAt(at + i) : ' ');
            }
            due("feed", desk.feed(words[0], words[1], words[2], words[3], words[4]), model.feed(words));
        }
        int more = Math.floorMod(-text.length(), 20);
        due("back " + more, desk.back(more), model.back(more));
        due("read of " + text, desk.read(), model.read());
        due("place of " + text, desk.place(), model.place());
        due("cause of " + text, desk.cause(), model.cause());
    }

    private void due(String call, long got, long want) {
        calls++;
        if (calls <= CALLS) {
            Due.is("run " + run + ": " + call, got, want);
        }
    }

    private void due(String call, boolean got, boolean want) {
        due(call, got ? 1 : 0, want ? 1 : 0);
    }

    private void change() {
        int a = some(10);
        int b = some(20);
        switch (random.nextInt(16)) {
            case 0 -> due("gap", desk.gap(), model.gap());
            case 1 -> {
                int n = random.nextInt(6) == 0 ? 1 + random.nextInt(1 + model.count(0)) : some(3);
                due("drop " + n, desk.drop(n), model.drop(n));
            }
            case 2, 3 -> due("set " + a + " " + b, desk.set(a, b), model.set(a, b));
            case 4, 5 -> due("undo", desk.undo(), model.undo());
            case 6 -> {
                int slot = some(2);
                due("hold " + slot, desk.hold(slot), model.hold(slot));
            }
            case 7 -> {
                int slot = some(2);
                boolean isRare = random.nextInt(4) == 0;
                if (isRare) {
                    due("restore " + slot, desk.restore(slot), model.restore(slot));
                }
            }
            case 8 -> {
                int i = some(40);
                due("mend " + i, desk.mend(i), model.mend(i));
            }
            default -> {
                int reading = random.nextInt(30) == 0 ? some(1100) : random.nextInt(2 * spread + 1) - spread;
                due("push " + reading, desk.push(reading), model.push(reading));
            }
        }
    }

    private void ask() {
        int q = some(3);
        int s = some(Math.max(4, model.count(0)));
        int n = some(17);
        int what = some(2);
        int limit = random.nextInt(20) == 0 ? some(5) : random.nextInt(10 * spread * (1 + 9 * random.nextInt(20)));
        String of = " " + q + " " + s + " " + n + " " + what + " " + limit;
        switch (random.nextInt(30)) {
            case 0 -> due("at" + of, desk.at(s), model.at(s));
            case 1 -> due("query" + of, desk.query(q, n), model.query(q, n));
            case 2 -> due("window" + of, desk.window(s, n, what), model.window(s, n, what));
            case 3 -> {
                int i = some(n > 0 && n < 20 ? n : 3);
                due("level" + of + " " + i, desk.level(s, n, i), model.level(s, n, i));
            }
            case 4 -> due("distance" + of, desk.distance(q, s), model.distance(q, s));
            case 5 -> due("bound" + of, desk.bound(q, s, what), model.bound(q, s, what));
            case 6 -> due("look" + of, desk.look(q, s, limit, what), model.look(q, s, limit, what));
            case 7 -> due("best" + of, desk.best(q, what), model.best(q, what));
            case 8 -> {
                int which = some(8);
                due("search" + of + " " + which, desk.search(q, which), model.search(q, which));
            }
            case 9 -> {
                int i = some(5);
                due("match" + of + " " + i, desk.match(q, i, what), model.match(q, i, what));
            }
            case 10 -> due("within" + of, desk.within(q, limit), model.within(q, limit));
            case 11, 12 -> {
                int i = some(20) - 1;
                due("way" + of + " " + i, desk.way(q, s, i), model.way(q, s, i));
            }
            case 13 -> due("needs" + of, desk.needs(q, s), model.needs(q, s));
            case 14 -> due("alike" + of, desk.alike(q, what), model.alike(q, what));
            case 15 -> due("near" + of, desk.near(s, n, what), model.near(s, n, what));
            case 16 -> due("pair" + of, desk.pair(n, what), model.pair(n, what));
            case 17 -> due("odd" + of, desk.odd(n, what), model.odd(n, what));
            case 18 -> due("cover" + of, desk.cover(q, limit), model.cover(q, limit));
            case 19 -> due("lean" + of, desk.lean(q, s, what), model.lean(q, s, what));
            case 20 -> due("whose" + of, desk.whose(s, n), model.whose(s, n));
            case 21 -> due("rank" + of, desk.rank(q, s), model.rank(q, s));
            case 22 -> due("kth" + of, desk.kth(q, s, what), model.kth(q, s, what));
            case 23 -> due("slack" + of, desk.slack(q), model.slack(q));
            case 24 -> due("turns" + of, desk.turns(q), model.turns(q));
            case 25 -> {
                int length = random.nextInt(5) == 0 ? some(165) : some(4);
                due("flat " + length, desk.flat(length), model.flat(length));
            }
            case 26 -> due("whole" + of, desk.whole(what), model.whole(what));
            case 27 -> due("fired" + of, desk.fired(limit), model.fired(limit));
            default -> {
                int which = some(15);
                due("count " + which, desk.count(which), model.count(which));
            }
        }
    }
}

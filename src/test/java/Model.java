import java.util.ArrayDeque;
import java.util.ArrayList;
import java.util.Arrays;
import java.util.Comparator;
import java.util.Deque;
import java.util.HashSet;
import java.util.List;
import java.util.Map;
import java.util.Set;
import java.util.TreeSet;
import java.util.regex.Matcher;
import java.util.regex.Pattern;

/**
 * The document said once more, as plainly as it goes and in other ways than the class: whole copies
 * for undo, all windows in lists, no bound ever used to spare work. ModelTest holds both side by side.
 */
final class Model {
    private static final int GAP = -1000;

    private record State(List<Integer> series, int[] settings) {
        State copy() {
            return new State(new ArrayList<>(series), settings.clone());
        }
    }

    private record Token(char sign, String text, int place) {
    }

    private record Found(int window, long distance) {
    }

    private StringBuilder tape = new StringBuilder();
    private State state = new State(new ArrayList<>(), new int[] {2, 0, 0, 8});
    private List<int[]> queries = new ArrayList<>();
    private Deque<State> past = new ArrayDeque<>();
    private State[] slots = new State[3];
    private int place = -1;
    private int cause = -1;

    // ---- the text

    int feed(int... words) {
        if (tape.length() + 20 > 2000) {
            return -1;
        }
        for (int word : words) {
            for (int shift = 24; shift >= 0; shift -= 8) {
                tape.append((char) (word >> shift & 255));
            }
        }
        return tape.length();
    }

    int back(int n) {
        if (n < 0 || n > tape.length()) {
            return -1;
        }
        tape.setLength(tape.length() - n);
        return tape.length();
    }

    private static final Map<String, Character> WORDS = Map.ofEntries(
        Map.entry("series", 'S'), Map.entry("query", 'Q'), Map.entry("band", 'B'), Map.entry("apart", 'A'),
        Map.entry("level", 'L'), Map.entry("cost", 'C'), Map.entry("gap", 'G'), Map.entry("none", 'n'),
        Map.entry("mean", 'm'), Map.entry("first", 'f'), Map.entry("range", 'r'), Map.entry("plain", 'p'),
        Map.entry("square", 's'));
    private static final Pattern TEXT = Pattern.compile(
        "(?:S(?:G|-?I)*+;|Qx(?:-?I)*+;|[BA]I;|L[nmfr];|C[ps];)*+");

    private static List<Token> tokens(String text) {
        List<Token> tokens = new ArrayList<>();
        Matcher matcher = Pattern.compile("[a-z]+|[0-9]+|[^a-z0-9\\t\\n\\r ]", Pattern.DOTALL).matcher(text);
        while (matcher.find()) {
            String found = matcher.group();
            char sign = '!';
            if (found.matches("[a-z]{1,8}")) {
                sign = WORDS.getOrDefault(found, 'x');
            } else if (found.matches("[0-9]{1,4}")) {
                sign = 'I';
            } else if (found.equals(";") || found.equals("-")) {
                sign = found.charAt(0);
            }
            tokens.add(new Token(sign, found, matcher.start()));
        }
        return tokens;
    }

    private static boolean goesOn(String signs) {
        if (signs.indexOf('!') >= 0) {
            return false;
        }
        Matcher matcher = TEXT.matcher(signs);
        return matcher.matches() || TEXT.matcher(signs + ";").matches() || TEXT.matcher(signs + "I;").matches()
            || TEXT.matcher(signs + "x;").matches() || TEXT.matcher(signs + "n;").matches()
            || TEXT.matcher(signs + "p;").matches();
    }

    private int fault = 0;

    private void tell(int number, int at, int why) {
        boolean isHard = number <= 2;
        boolean wasHard = fault == 1 || fault == 2;
        boolean isFirst = at < place || (at == place && number < fault);
        if (fault == 0 || (isHard && !wasHard) || (isHard == wasHard && isFirst)) {
            fault = number;
            place = at;
            cause = why;
        }
    }

    int read() {
        String text = tape.toString();
        tape = new StringBuilder();
        List<Token> tokens = tokens(text);
        fault = 0;
        place = -1;
        cause = -1;
        int good = 0;
        StringBuilder signs = new StringBuilder();
        while (good < tokens.size() && goesOn(signs.toString() + tokens.get(good).sign())) {
            signs.append(tokens.get(good).sign());
            good++;
        }
        State told = new State(new ArrayList<>(), new int[] {2, 0, 0, 8});
        List<int[]> toldQueries = new ArrayList<>();
        int why = walk(tokens.subList(0, good), told, toldQueries);
        if (good < tokens.size()) {
            tell(1, tokens.get(good).place(), why);
        } else if (!TEXT.matcher(signs).matches()) {
            tell(1, text.length(), why);
        }
        if (fault == 0) {
            state = told;
            queries = toldQueries;
            past.clear();
            slots = new State[3];
        }
        return fault;
    }

    /** Goes through tokens that the grammar lets stand; the CAUSE of what would stand behind them. */
    private int walk(List<Token> tokens, State told, List<int[]> toldQueries) {
        Set<String> names = new HashSet<>();
        char tell = ' ';
        int why = -2;
        for (int i = 0; i < tokens.size(); i++) {
            Token token = tokens.get(i);
            boolean isNegated = i > 0 && tokens.get(i - 1).sign() == '-';
            boolean isFirst = i == 0 || (tokens.get(i - 1).sign() == ';');
            if (i >= 400) {
                tell(2, token.place(), why);
            }
            if (isFirst) {
                tell = token.sign();
                if (tell == 'Q' && toldQueries.size() == 5) {
                    tell(2, token.place(), why);
                }
                why = tell == 'Q' || tell == 'S' ? 0 : -2;
                if (tell == 'Q') {
                    toldQueries.add(new int[0]);
                }
            } else if (token.sign() == 'x') {
                if (!names.add(token.text())) {
                    tell(3, token.place(), why);
                }
            } else if (token.sign() == ';') {
                if (tell == 'Q' && why < 2) {
                    tell(6, token.place(), why);
                }
                why = -2;
            } else if (tell == 'S' || tell == 'Q') {
                boolean isFull = tell == 'S' ? told.series().size() >= 160 : why >= 16;
                if (isFull && !isNegated) {
                    tell(2, token.place(), why);
                }
                if (token.sign() != '-') {
                    int value = token.sign() == 'G' ? GAP : Integer.parseInt((isNegated ? "-" : "") + token.text());
                    if (value > 999 || value < -1000 || (value == -1000 && token.sign() == 'I')) {
                        tell(5, token.place(), why);
                    }
                    if (tell == 'S') {
                        told.series().add(value);
                    } else {
                        int[] longer = Arrays.copyOf(toldQueries.get(toldQueries.size() - 1), why + 1);
                        longer[why] = value;
                        toldQueries.set(toldQueries.size() - 1, longer);
                    }
                    why++;
                }
            } else {
                walkSetting(tell, token, told);
            }
        }
        return why;
    }

    private void walkSetting(char tell, Token token, State told) {
        if (tell == 'L') {
            told.settings()[1] = "nmfr".indexOf(token.sign());
        } else if (tell == 'C') {
            told.settings()[2] = "ps".indexOf(token.sign());
        } else {
            int value = Integer.parseInt(token.text());
            if (tell == 'B' ? value > 15 : value < 1 || value > 99) {
                tell(5, token.place(), -2);
            }
            told.settings()[tell == 'B' ? 0 : 3] = value;
        }
    }

    int place() {
        return place;
    }

    int cause() {
        return cause;
    }

    // ---- the series

    int at(int i) {
        return i < 0 || i >= state.series().size() ? GAP : state.series().get(i);
    }

    int query(int q, int i) {
        return !has(q) || i < 0 || i >= queries.get(q).length ? GAP : queries.get(q)[i];
    }

    private boolean has(int q) {
        return q >= 0 && q < queries.size();
    }

    private void remember() {
        past.push(state.copy());
        if (past.size() > 40) {
            past.removeLast();
        }
    }

    int push(int reading) {
        return reading < -999 || reading > 999 ? -1 : add(reading);
    }

    int gap() {
        return add(GAP);
    }

    private int add(int value) {
        if (state.series().size() >= 160) {
            return -1;
        }
        remember();
        state.series().add(value);
        return state.series().size();
    }

    int mend(int i) {
        if (i < 0 || i >= state.series().size() || at(i) != GAP || at(i - 1) == GAP || i == Integer.MAX_VALUE
            || at(i + 1) == GAP) {
            return GAP;
        }
        remember();
        state.series().set(i, (int) Math.floor((at(i - 1) + at(i + 1)) / 2.0));
        return at(i);
    }

    boolean drop(int n) {
        if (n < 1 || n > state.series().size()) {
            return false;
        }
        remember();
        state.series().subList(0, n).clear();
        return true;
    }

    boolean set(int what, int value) {
        int[] least = {0, 0, 0, 1};
        int[] most = {15, 3, 1, 99};
        if (what < 0 || what > 3 || value < least[what] || value > most[what] || state.settings()[what] == value) {
            return false;
        }
        remember();
        state.settings()[what] = value;
        return true;
    }

    boolean undo() {
        if (past.isEmpty()) {
            return false;
        }
        state = past.pop();
        return true;
    }

    boolean hold(int slot) {
        if (slot < 0 || slot > 2) {
            return false;
        }
        slots[slot] = state.copy();
        return true;
    }

    boolean restore(int slot) {
        if (slot < 0 || slot > 2 || slots[slot] == null) {
            return false;
        }
        state = slots[slot].copy();
        past.clear();
        return true;
    }

    // ---- windows

    private int[] row(int s, int n) {
        if (s < 0 || n < 1 || s + (long) n > state.series().size()) {
            return null;
        }
        int[] row = state.series().subList(s, s + n).stream().mapToInt(x -> x).toArray();
        return Arrays.stream(row).anyMatch(x -> x == GAP) ? null : row;
    }

    private List<Integer> windows(int n) {
        List<Integer> windows = new ArrayList<>();
        for (int s = 0; s < state.series().size(); s++) {
            if (row(s, n) != null) {
                windows.add(s);
            }
        }
        return windows;
    }

    int window(int s, int n, int what) {
        int[] row = row(s, n);
        if (row == null || what < 0 || what > 3) {
            return -1000000;
        }
        int sum = Arrays.stream(row).sum();
        return switch (what) {
            case 0 -> sum;
            case 1 -> Arrays.stream(row).min().getAsInt();
            case 2 -> Arrays.stream(row).max().getAsInt();
            default -> (int) Math.floor((double) sum / n);
        };
    }

    private int[] levelled(int[] row) {
        int least = Arrays.stream(row).min().getAsInt();
        int greatest = Arrays.stream(row).max().getAsInt();
        int mean = (int) Math.floor((double) Arrays.stream(row).sum() / row.length);
        return switch (state.settings()[1]) {
            case 0 -> row.clone();
            case 1 -> Arrays.stream(row).map(x -> x - mean).toArray();
            case 2 -> Arrays.stream(row).map(x -> x - row[0]).toArray();
            default -> Arrays.stream(row)
                .map(x -> greatest == least ? 0 : 1000 * (x - least) / (greatest - least)).toArray();
        };
    }

    int level(int s, int n, int i) {
        int[] row = row(s, n);
        return row == null || n < 2 || n > 16 || i < 0 || i >= n ? -1000000 : levelled(row)[i];
    }

    private long cost(long a, long b) {
        return state.settings()[2] == 0 ? Math.abs(a - b) : (a - b) * (a - b);
    }

    private static final long FAR = Long.MAX_VALUE / 4;

    private long[][] table(int[] a, int[] b, int band) {
        int n = a.length;
        long[][] table = new long[n][n];
        for (int i = 0; i < n; i++) {
            for (int j = 0; j < n; j++) {
                long ahead = FAR;
                if (i == 0 && j == 0) {
                    ahead = 0;
                }
                if (i > 0) {
                    ahead = Math.min(ahead, table[i - 1][j]);
                }
                if (j > 0) {
                    ahead = Math.min(ahead, table[i][j - 1]);
                }
                if (i > 0 && j > 0) {
                    ahead = Math.min(ahead, table[i - 1][j - 1]);
                }
                table[i][j] = Math.abs(i - j) > band ? FAR : Math.min(FAR, ahead + cost(a[i], b[j]));
            }
        }
        return table;
    }

    private long distance(int[] one, int[] other, int band) {
        return table(levelled(one), levelled(other), band)[one.length - 1][one.length - 1];
    }

    private int band() {
        return state.settings()[0];
    }

    private int[] rowOf(int q, int s) {
        return has(q) ? row(s, queries.get(q).length) : null;
    }

    int distance(int q, int s) {
        int[] row = rowOf(q, s);
        return row == null ? -1 : (int) distance(queries.get(q), row, band());
    }

    private long outside(int[] row, int[] other) {
        long sum = 0;
        for (int i = 0; i < row.length; i++) {
            TreeSet<Integer> around = new TreeSet<>();
            for (int k = 0; k < row.length; k++) {
                if (Math.abs(k - i) <= band()) {
                    around.add(other[k]);
                }
            }
            if (row[i] > around.last()) {
                sum += cost(row[i], around.last());
            } else if (row[i] < around.first()) {
                sum += cost(row[i], around.first());
            }
        }
        return sum;
    }

    private long[] bounds(int[] query, int[] window) {
        int[] q = levelled(query);
        int[] w = levelled(window);
        int last = q.length - 1;
        return new long[] {cost(q[0], w[0]) + cost(q[last], w[last]), outside(w, q), outside(q, w)};
    }

    int bound(int q, int s, int what) {
        int[] row = rowOf(q, s);
        return row == null || what < 0 || what > 2 ? -1 : (int) bounds(queries.get(q), row)[what];
    }

    /** How it is passed, CELLS, the row behind which the table was broken off. */
    private int[] look(int[] query, int[] window, long limit) {
        long[] bounds = bounds(query, window);
        for (int b = 0; b < 3; b++) {
            if (bounds[b] >= limit) {
                return new int[] {b + 1, 0, -2};
            }
        }
        long[][] table = table(levelled(query), levelled(window), band());
        int cells = 0;
        for (int i = 0; i < query.length; i++) {
            cells += (int) Arrays.stream(table[i]).filter(x -> x < FAR).count();
            if (Arrays.stream(table[i]).min().getAsLong() >= limit) {
                return new int[] {4, cells, i};
            }
        }
        return new int[] {table[query.length - 1][query.length - 1] >= limit ? 5 : 0, cells, -2};
    }

    int look(int q, int s, int limit, int what) {
        int[] row = rowOf(q, s);
        return row == null || limit < 0 || what < 0 || what > 2 ? -1 : look(queries.get(q), row, limit)[what];
    }

    // ---- all windows of a query

    private List<Found> all(int q, int band) {
        List<Found> all = new ArrayList<>();
        for (int s : windows(queries.get(q).length)) {
            all.add(new Found(s, distance(queries.get(q), rowOf(q, s), band)));
        }
        return all;
    }

    private List<Found> ranked(int q, int band) {
        List<Found> all = all(q, band);
        all.sort(Comparator.comparingLong(Found::distance).thenComparingInt(Found::window));
        return all;
    }

    private static int one(List<Found> list, int i, int what) {
        return i >= list.size() ? -2 : what == 0 ? list.get(i).window() : (int) list.get(i).distance();
    }

    int best(int q, int what) {
        return !has(q) || what < 0 || what > 1 ? -1 : one(ranked(q, band()), 0, what);
    }

    int search(int q, int what) {
        if (!has(q) || what < 0 || what > 8) {
            return -1;
        }
        int[] tally = new int[9];
        long limit = FAR;
        for (Found found : all(q, band())) {
            int[] look = look(queries.get(q), rowOf(q, found.window()), limit);
            tally[0]++;
            tally[look[0] == 0 ? 7 : look[0]]++;
            tally[6] += look[1];
            tally[8] += look[0] == 4 ? look[2] + 1 : 0;
            limit = Math.min(limit, found.distance());
        }
        return tally[what];
    }

    private List<Found> matches(int q) {
        List<Found> matches = new ArrayList<>();
        for (Found found : ranked(q, band())) {
            if (matches.stream().allMatch(m -> Math.abs(m.window() - found.window()) >= state.settings()[3])) {
                matches.add(found);
            }
        }
        return matches;
    }

    int match(int q, int i, int what) {
        return !has(q) || i < 0 || what < 0 || what > 1 ? -1 : one(matches(q), i, what);
    }

    int within(int q, int limit) {
        return !has(q) || limit < 0 ? -1 : (int) matches(q).stream().filter(m -> m.distance() <= limit).count();
    }

    int cover(int q, int limit) {
        if (!has(q) || limit < 0) {
            return -1;
        }
        Set<Integer> places = new HashSet<>();
        for (Found match : matches(q)) {
            for (int i = 0; match.distance() <= limit && i < queries.get(q).length; i++) {
                places.add(match.window() + i);
            }
        }
        return places.size();
    }

    private List<int[]> way(int q, int[] row) {
        long[][] table = table(levelled(queries.get(q)), levelled(row), band());
        List<int[]> way = new ArrayList<>();
        int i = row.length - 1;
        int j = i;
        way.add(new int[] {i, j});
        while (i > 0 || j > 0) {
            int[][] ahead = {{i - 1, j - 1}, {i - 1, j}, {i, j - 1}};
            int[] chosen = null;
            for (int[] a : ahead) {
                boolean isThere = a[0] >= 0 && a[1] >= 0 && table[a[0]][a[1]] < FAR;
                if (isThere && (chosen == null || table[a[0]][a[1]] < table[chosen[0]][chosen[1]])) {
                    chosen = a;
                }
            }
            i = chosen[0];
            j = chosen[1];
            way.add(0, chosen);
        }
        return way;
    }

    int way(int q, int s, int i) {
        int[] row = rowOf(q, s);
        if (row == null) {
            return -1;
        }
        List<int[]> way = way(q, row);
        if (i == -1) {
            return way.size();
        }
        return i < 0 || i >= way.size() ? -1 : 100 * way.get(i)[0] + way.get(i)[1];
    }

    int lean(int q, int s, int what) {
        int[] row = rowOf(q, s);
        if (row == null || what < 0 || what > 1) {
            return -1;
        }
        List<int[]> way = way(q, row);
        int most = 0;
        int both = 0;
        for (int i = 0; i < way.size(); i++) {
            most = Math.max(most, Math.abs(way.get(i)[0] - way.get(i)[1]));
            if (i > 0 && way.get(i)[0] != way.get(i - 1)[0] && way.get(i)[1] != way.get(i - 1)[1]) {
                both++;
            }
        }
        return what == 0 ? most : both;
    }

    int needs(int q, int s) {
        if (rowOf(q, s) == null) {
            return -1;
        }
        for (int band = 0; band <= 15; band++) {
            if (ranked(q, band).get(0).window() == s) {
                return band;
            }
        }
        return -2;
    }

    int alike(int q, int other) {
        if (!has(q) || !has(other)) {
            return -1;
        }
        int[] one = queries.get(q);
        return one.length != queries.get(other).length ? -2 : (int) distance(one, queries.get(other), band());
    }

    private Found nearest(int s, int n) {
        Found nearest = null;
        for (int t : windows(n)) {
            if (Math.abs(t - s) >= n) {
                Found found = new Found(t, distance(row(s, n), row(t, n), band()));
                nearest = nearest == null || found.distance() < nearest.distance() ? found : nearest;
            }
        }
        return nearest;
    }

    int near(int s, int n, int what) {
        if (row(s, n) == null || n < 2 || n > 16 || what < 0 || what > 1) {
            return -1;
        }
        Found nearest = nearest(s, n);
        return nearest == null ? -2 : what == 0 ? nearest.window() : (int) nearest.distance();
    }

    int pair(int n, int what) {
        if (n < 2 || n > 16 || what < 0 || what > 2) {
            return -1;
        }
        int[] pair = {-2, -2, -2};
        for (int s : windows(n)) {
            for (int t : windows(n)) {
                if (t - s >= n) {
                    int distance = (int) distance(row(s, n), row(t, n), band());
                    if (pair[2] < 0 || distance < pair[2]) {
                        pair = new int[] {s, t, distance};
                    }
                }
            }
        }
        return pair[what];
    }

    int odd(int n, int what) {
        if (n < 2 || n > 16 || what < 0 || what > 1) {
            return -1;
        }
        int[] odd = {-2, -2};
        for (int s : windows(n)) {
            Found nearest = nearest(s, n);
            if (nearest != null && nearest.distance() > odd[1]) {
                odd = new int[] {s, (int) nearest.distance()};
            }
        }
        return odd[what];
    }

    int whose(int s, int n) {
        if (row(s, n) == null) {
            return -1;
        }
        int whose = -2;
        for (int q = 0; q < queries.size(); q++) {
            if (queries.get(q).length == n && (whose < 0 || distance(q, s) < distance(whose, s))) {
                whose = q;
            }
        }
        return whose;
    }

    int rank(int q, int s) {
        if (rowOf(q, s) == null) {
            return -1;
        }
        List<Found> ranked = ranked(q, band());
        int rank = 0;
        while (ranked.get(rank).window() != s) {
            rank++;
        }
        return rank;
    }

    int kth(int q, int k, int what) {
        return !has(q) || k < 0 || what < 0 || what > 1 ? -1 : one(ranked(q, band()), k, what);
    }

    int slack(int q) {
        if (!has(q)) {
            return -1;
        }
        long slack = 0;
        for (Found found : all(q, band())) {
            long[] bounds = bounds(queries.get(q), rowOf(q, found.window()));
            slack += found.distance() - Arrays.stream(bounds).max().getAsLong();
        }
        return (int) slack;
    }

    int turns(int q) {
        if (!has(q)) {
            return -1;
        }
        StringBuilder steps = new StringBuilder();
        List<Found> all = all(q, band());
        for (int i = 1; i < all.size(); i++) {
            int step = Long.compare(all.get(i).distance(), all.get(i - 1).distance());
            steps.append(step < 0 ? "f" : step > 0 ? "r" : "");
        }
        return steps.toString().split("fr", -1).length - 1;
    }

    int flat(int n) {
        return n < 1 || n > 160 ? -1
            : (int) windows(n).stream().filter(s -> Arrays.stream(row(s, n)).distinct().count() == 1).count();
    }

    int whole(int what) {
        if (what < 0 || what > 1) {
            return -1;
        }
        for (int n = 160; n > 0; n--) {
            List<Integer> windows = windows(n);
            if (!windows.isEmpty()) {
                return what == 0 ? windows.get(0) : n;
            }
        }
        return -2;
    }

    int fired(int limit) {
        if (limit < 0) {
            return -1;
        }
        int bits = 0;
        for (int q = 0; q < queries.size(); q++) {
            int distance = distance(q, state.series().size() - queries.get(q).length);
            bits += distance >= 0 && distance <= limit ? (int) Math.pow(2, q) : 0;
        }
        return bits;
    }

    int count(int what) {
        List<Integer> series = state.series();
        List<Integer> readings = series.stream().filter(x -> x != GAP).toList();
        return switch (what) {
            case 0 -> series.size();
            case 1 -> series.size() - readings.size();
            case 2 -> queries.size();
            case 3, 4, 5, 6 -> state.settings()[what - 3];
            case 7 -> series.size() - 1 - series.lastIndexOf(GAP);
            case 8 -> tape.length();
            case 9 -> past.size();
            case 10 -> readings.stream().mapToInt(x -> x).sum();
            case 11 -> (int) Arrays.stream(slots).filter(slot -> slot != null).count();
            case 12 -> readings.stream().mapToInt(x -> x).max().orElse(-1000);
            case 13 -> readings.stream().mapToInt(x -> x).min().orElse(-1000);
            case 14 -> series.contains(GAP) ? series.indexOf(GAP) : series.size();
            default -> -1;
        };
    }
}

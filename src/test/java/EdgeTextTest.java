/**
 * The edges that the document names for what a text tells (promises 4 to 8 and the first part of
 * "Terms"): TOKENS, numbers, how many of each, FAULTS, their places and CAUSES, sentence by sentence.
 */
public final class EdgeTextTest {
    private static final String FIVE = "query a 1 2;query b 1 2;query c 1 2;query d 1 2;query e 1 2;";
    private static final String[] WORDS = {"series", "gap", "query", "band", "level", "none", "mean", "first",
        "range", "cost", "plain", "square", "apart"};

    public static void main(String[] args) {
        tokensAreTheLongestThatCanBe();
        wordsAreThoseInQuotes();
        blanksStandBetweenOrNot();
        namesHave8LettersAtMost();
        intsHave1To4Digits();
        everyTokenAtEveryPlaceOfATell();
        seriesOfAllTellsJoin();
        queriesAreNumberedFrom0();
        readingsAreWithin999();
        bandIs0To15();
        apartIs1To99();
        theLastOnesCount();
        theTextsEndIsItsLength();
        a401stToken();
        a401stTokenInEachTell();
        a161stReadingOrGap();
        a6thQuery();
        a17thReadingOfAQuery();
        twiceAName();
        wrongNumbers();
        shortQueries();
        theFirstByItsPlace();
        syntaxAndRoomComeAheadOfTheOthers();
        ofOnePlaceTheLeast();
        causeInEachTell();
        causeWithoutFault();
        eachTextIsReadForItself();
        faultyTextChangesNothing();
        goodTextIsInPlaceOfTheOneAhead();
        goodTextLeavesNothingUndoneOrHeld();
        atEdges();
        queryEdges();
        Due.end();
    }

    private static void reads(String text, int places, int queries) {
        WarpDesk desk = Due.desk(text);
        Due.is("place of " + text, desk.place(), -1);
        Due.is("cause of " + text, desk.cause(), -1);
        Due.is("places of " + text, desk.count(0), places);
        Due.is("queries of " + text, desk.count(2), queries);
    }

    // ---- TOKENS

    private static void tokensAreTheLongestThatCanBe() {
        Due.says("TOKENS, the longest that can be");
        reads("series 12 3;", 2, 0);
        Due.is("two digits are one INT", Due.desk("series 12 3;").at(0), 12);
        Due.is("four digits are one INT", Due.desk("series 0123;").at(0), 123);
        Due.fault("series gapgap;", 1, 7, 0);
        Due.fault("seriesgap;", 1, 0, -2);
        Due.fault("bandband 1;", 1, 0, -2);
        Due.fault("serie s;", 1, 0, -2);
        Due.fault("level mea n;", 1, 6, -2);
        Due.fault("level means;", 1, 6, -2);
        reads("query gapgap 1 2;", 0, 1);
        reads("query bands 1 2;", 0, 1);
    }

    private static void wordsAreThoseInQuotes() {
        Due.says("WORDS (those in quotes): letters that differ in one are a NAME");
        String[] heads = {"", "series ", "", "", "", "level ", "level ", "level ", "level ", "", "cost ", "cost ", ""};
        String[] tails = {";", ";", " a 1 2;", " 1;", " mean;", ";", ";", ";", ";", " plain;", ";", ";", " 1;"};
        for (int w = 0; w < WORDS.length; w++) {
            reads(heads[w] + WORDS[w] + tails[w], w == 1 ? 1 : 0, w == 2 ? 1 : 0);
            for (int i = 0; i < WORDS[w].length(); i++) {
                char other = WORDS[w].charAt(i) == 'q' ? 'z' : 'q';
                String near = WORDS[w].substring(0, i) + other + WORDS[w].substring(i + 1);
                Due.fault(heads[w] + near + tails[w], 1, heads[w].length(), w == 1 ? 0 : -2);
                reads("query " + near + " 1 2;", 0, 1);
            }
        }
    }

    private static void blanksStandBetweenOrNot() {
        Due.says("with blanks (9, 10, 13, 32) between or not");
        reads("series1gap2-3gap-4;query a1 2;query b-1-2;band5;level mean;cost plain;apart7;", 6, 2);
        String[] tokens = {"", "series", "1", "gap", "-", "2", ";", "query", "a", "3", "-", "4", ";", "band", "5", ";", ""};
        for (String blank : new String[] {"\t", "\n", "\r", " ", "\t\n\r ", "      "}) {
            WarpDesk desk = Due.desk(String.join(blank, tokens));
            Due.is("places", desk.count(0), 3);
            Due.is("a minus apart from its INT", desk.at(2), -2);
            Due.is("query", desk.query(0, 1), -4);
            Due.is("band", desk.count(3), 5);
        }
        for (int sign : new int[] {0, 8, 11, 12, 14, 31, 33, 127, 128, 133, 160, 255}) {
            Due.fault("series 1" + (char) sign + "2;", 1, 8, 1);
        }
        reads(" \t\r\n", 0, 0);
    }

    private static void namesHave8LettersAtMost() {
        Due.says("NAMES (letters a .. z, 8 at most)");
        String letters = "abcdefghijklmnopqrstuvwxyz";
        for (int i = 0; i < letters.length(); i++) {
            reads("query " + letters.charAt(i) + " 1 2;", 0, 1);
        }
        for (int length = 1; length <= 8; length++) {
            reads("query " + letters.substring(26 - length) + " 1 2;", 0, 1);
        }
        for (int length = 9; length <= 26; length++) {
            Due.fault("query " + letters.substring(0, length) + " 1 2;", 1, 6, 0);
        }
        Due.fault("series 1; abcdefghi", 1, 10, -2);
        Due.fault("series gapgapgap;", 1, 7, 0);
        for (String sign : new String[] {"`", "{", "A", "Z", "_", "@", "[", "\u00e4"}) {
            Due.fault("query " + sign + " 1 2;", 1, 6, 0);
            Due.fault("query a" + sign + " 1 2;", 1, 7, 0);
        }
        Due.fault("query a1b 1 2;", 1, 8, 1);
        Due.says("NAMES of 8 letters that differ in one are two");
        reads("query abcdefgh 1 2; query abcdefgi 1 2; query bbcdefgh 1 2; query abcdefg 1 2;", 0, 4);
    }

    private static void intsHave1To4Digits() {
        Due.says("INTS (1 to 4 digits)");
        String[] ints = {"0", "9", "10", "99", "100", "999", "0999", "0000", "0001", "000", "00"};
        int[] values = {0, 9, 10, 99, 100, 999, 999, 0, 1, 0, 0};
        for (int i = 0; i < ints.length; i++) {
            Due.is("INT " + ints[i], Due.desk("series " + ints[i] + ";").at(0), values[i]);
            Due.is("INT -" + ints[i], Due.desk("query a 5 -" + ints[i] + ";").query(0, 1), -values[i]);
        }
        for (String more : new String[] {"00000", "00001", "12345", "99999", "0000000000", "4294967297", "99999999999999999999"}) {
            Due.fault("series 1 " + more + ";", 1, 9, 1);
            Due.fault("series 1 -" + more + ";", 1, 10, 1);
            Due.fault("query a 1 " + more + ";", 1, 10, 1);
            Due.fault("band " + more + ";", 1, 5, -2);
            Due.fault("apart " + more + ";", 1, 6, -2);
        }
        Due.fault("series 1/2;", 1, 8, 1);
        Due.fault("series 1:2;", 1, 8, 1);
        Due.fault("series 1.5;", 1, 8, 1);
        Due.fault("series +1;", 1, 7, 0);
        Due.says("SIGNS ; -");
        for (String sign : new String[] {",", ".", ":", "<", "=", "+", "'", "\""}) {
            Due.fault("series 1 " + sign, 1, 9, 1);
            Due.fault("band 1" + sign, 1, 6, -2);
        }
    }

    // ---- the grammar

    /** Behind each of these heads, which TOKENS may stand, and the CAUSE of one that may not. */
    private static void everyTokenAtEveryPlaceOfATell() {
        Due.says("SYNTAX: a TOKEN, or what is none, with which no text goes on");
        String tells = " series query band level cost apart END ";
        for (String head : new String[] {"", "series;", "series 1;", "query a 1 2;", "band 1;", "level mean;", "cost plain;", "apart 1;"}) {
            behind(head, -2, tells);
        }
        String row = " 7 - ; ";
        behind("series", 0, " gap" + row);
        behind("series 5", 1, " gap" + row);
        behind("series gap", 1, " gap" + row);
        behind("series -5", 1, " gap" + row);
        behind("series 5 gap gap -5", 4, " gap" + row);
        behind("series -", 0, " 7 ");
        behind("series gap -", 1, " 7 ");
        behind("query", 0, " name ");
        behind("query a", 0, row);
        behind("query a 5", 1, row);
        behind("query a 5 -5", 2, row);
        behind("query a -", 0, " 7 ");
        behind("query a 5 -", 1, " 7 ");
        behind("band", -2, " 7 ");
        behind("band 5", -2, " ; ");
        behind("apart", -2, " 7 ");
        behind("apart 5", -2, " ; ");
        behind("level", -2, " none mean first range ");
        for (String level : new String[] {"none", "mean", "first", "range"}) {
            behind("level " + level, -2, " ; ");
        }
        behind("cost", -2, " plain square ");
        behind("cost plain", -2, " ; ");
        behind("cost square", -2, " ; ");
    }

    private static void behind(String head, int cause, String allowed) {
        String[] others = {"name", "7", ";", "-", ",", "ninechars", "12345", "\0", "END"};
        for (String word : WORDS) {
            oneBehind(head, word, cause, allowed.contains(" " + word + " "));
        }
        for (String other : others) {
            oneBehind(head, other, cause, allowed.contains(" " + other + " "));
        }
    }

    private static void oneBehind(String head, String token, int cause, boolean isAllowed) {
        String start = head + "\n ";
        String text = token.equals("END") ? start : start + token + " , series 1";
        if (!isAllowed) {
            Due.fault(text, 1, start.length(), cause);
            return;
        }
        WarpDesk desk = new WarpDesk();
        int fault = Due.read(desk, text);
        Due.is("SYNTAX at the last of " + start + token, fault == 1 && desk.place() == start.length(), false);
        if (token.equals("END")) {
            Due.is("read of " + text, fault, 0);
        } else {
            Due.is("place of " + text, desk.place(), start.length() + token.length() + 1);
        }
    }

    // ---- how many, and which numbers

    private static void seriesOfAllTellsJoin() {
        Due.says("The SERIES: all READINGS and GAPS of all 'series', as they stand");
        reads("", 0, 0);
        reads("series;", 0, 0);
        reads("series;series;", 0, 0);
        WarpDesk desk = Due.desk("series 1;query a 7 8;series;band 3;series gap -2;series 3;");
        int[] places = {1, -1000, -2, 3, -1000};
        for (int i = 0; i < places.length; i++) {
            Due.is("at " + i, desk.at(i), places[i]);
        }
        Due.is("places", desk.count(0), 4);
        Due.is("gaps", desk.count(1), 1);
    }

    private static void queriesAreNumberedFrom0() {
        Due.says("QUERIES, 5 at most, 2 .. 16 READINGS each, numbered from 0 on");
        WarpDesk desk = Due.desk("query e 10 11;query d 20 21;series 1;query c 30 31;query b 40 41;query a 50 51;");
        Due.is("queries", desk.count(2), 5);
        for (int q = 0; q < 5; q++) {
            Due.is("query " + q, desk.query(q, 0), 10 * (q + 1));
            Due.is("query " + q, desk.query(q, 1), 10 * (q + 1) + 1);
        }
        Due.is("query 5", desk.query(5, 0), -1000);
        for (int length = 2; length <= 16; length++) {
            WarpDesk one = Due.desk("query a" + " 7".repeat(length) + ";");
            Due.is("last of " + length, one.query(0, length - 1), 7);
            Due.is("behind the last of " + length, one.query(0, length), -1000);
        }
    }

    private static void readingsAreWithin999() {
        Due.says("READINGS are -999 .. 999");
        WarpDesk desk = Due.desk("series 999 -999 998 -998 0 -0; query a 999 -999;");
        int[] places = {999, -999, 998, -998, 0, 0};
        for (int i = 0; i < places.length; i++) {
            Due.is("at " + i, desk.at(i), places[i]);
        }
        Due.is("query", desk.query(0, 0), 999);
        Due.is("query", desk.query(0, 1), -999);
        for (int value : new int[] {1000, 1001, 2000, 9999}) {
            Due.fault("series 5 " + value + ";", 5, 9, 1);
            Due.fault("series 5 -" + value + ";", 5, 10, 1);
            Due.fault("series 5 -  " + value + ";", 5, 12, 1);
            Due.fault("query a 5 " + value + ";", 5, 10, 1);
            Due.fault("query a 5 -" + value + ";", 5, 11, 1);
        }
    }

    private static void bandIs0To15() {
        Due.says("BAND 0 .. 15 (2)");
        for (int band = 0; band <= 15; band++) {
            Due.is("band " + band, Due.desk("band " + band + ";").count(3), band);
        }
        Due.is("band 0000", Due.desk("band 0000;").count(3), 0);
        Due.is("band 0015", Due.desk("band 0015;").count(3), 15);
        for (int band : new int[] {16, 17, 31, 99, 999, 9999}) {
            Due.fault("band " + band + ";", 5, 5, -2);
        }
        Due.fault("band -0;", 1, 5, -2);
        Due.is("band untold", Due.desk("series 1;").count(3), 2);
    }

    private static void apartIs1To99() {
        Due.says("APART 1 .. 99 (8)");
        for (int apart = 1; apart <= 99; apart++) {
            Due.is("apart " + apart, Due.desk("apart " + apart + ";").count(6), apart);
        }
        Due.is("apart 0001", Due.desk("apart 0001;").count(6), 1);
        for (String apart : new String[] {"0", "00", "0000", "100", "101", "0100", "999", "9999"}) {
            Due.fault("apart " + apart + ";", 5, 6, -2);
        }
        Due.fault("apart -1;", 1, 6, -2);
        Due.is("apart untold", Due.desk("series 1;").count(6), 8);
    }

    private static void theLastOnesCount() {
        Due.says("BAND, LEVEL, COST, APART: the last ones");
        String[] levels = {"none", "mean", "first", "range"};
        String[] costs = {"plain", "square"};
        for (int level = 0; level < 4; level++) {
            Due.is("level", Due.desk("level " + levels[level] + ";").count(4), level);
            Due.is("last level", Due.desk("level " + levels[3 - level] + ";series 1;level " + levels[level] + ";").count(4), level);
        }
        for (int cost = 0; cost < 2; cost++) {
            Due.is("cost", Due.desk("cost " + costs[cost] + ";").count(5), cost);
            Due.is("last cost", Due.desk("cost " + costs[1 - cost] + ";cost " + costs[cost] + ";").count(5), cost);
        }
        Due.is("last band", Due.desk("band 15;band 0;band 7;").count(3), 7);
        Due.is("last apart", Due.desk("apart 1;apart 99;apart 7;").count(6), 7);
        Due.fault("band 16;band 3;", 5, 5, -2);
        Due.fault("apart 100;apart 3;", 5, 6, -2);
    }

    // ---- FAULTS: SYNTAX and ROOM

    private static void theTextsEndIsItsLength() {
        Due.says("the text's end: its length");
        String[] heads = {"series", "series 1", "series 1 -", "series gap", "query", "query a", "query a 1 2", "band",
            "band 1", "level", "level mean", "cost", "cost plain", "apart", "apart 1"};
        int[] causes = {0, 1, 1, 1, 0, 0, 2, -2, -2, -2, -2, -2, -2, -2, -2};
        for (int i = 0; i < heads.length; i++) {
            Due.fault(heads[i], 1, heads[i].length(), causes[i]);
            Due.fault(heads[i] + " ", 1, heads[i].length() + 1, causes[i]);
            Due.fault(heads[i] + "\t\n\r ", 1, heads[i].length() + 4, causes[i]);
            Due.fault("series 1 2;" + heads[i], 1, heads[i].length() + 11, causes[i]);
        }
    }

    /** So many TOKENS, all TELLS of them whole. */
    private static String tokens(int many) {
        int series = many % 3 == 0 ? 0 : many % 3 == 2 ? 1 : 2;
        return "series;".repeat(series) + "band1;".repeat((many - 2 * series) / 3);
    }

    private static void a401stToken() {
        Due.says("ROOM: a 401st TOKEN");
        reads(tokens(399), 0, 0);
        reads(tokens(400), 0, 0);
        reads(tokens(400) + "  \n", 0, 0);
        for (String word : new String[] {"series", "query", "band", "level", "cost", "apart"}) {
            Due.fault(tokens(400) + word, 2, tokens(400).length(), -2);
            Due.fault(tokens(400) + " " + word + " ,", 2, tokens(400).length() + 1, -2);
        }
        Due.fault(tokens(402), 2, tokens(402).length() - 2, -2);
        Due.fault(tokens(405), 2, tokens(405).length() - 6 - 2, -2);
        // 400 TOKENS of a SERIES that is as full as it can be.
        String full = "series" + "-1".repeat(160) + ";" + tokens(78);
        reads(full, 160, 0);
        Due.fault(full + "series", 2, full.length(), -2);
        String bare = "-1".repeat(120);
        reads("series" + bare + ";" + tokens(158), 120, 0);
        Due.fault("series" + bare + "; " + tokens(157) + "series", 1, 6 + 240 + 2 + tokens(157).length() + 6, 0);
    }

    private static void a401stTokenInEachTell() {
        Due.says("ROOM: a 401st TOKEN, in each TELL, and its CAUSE");
        String[] heads = {"series", "series 5", "series -", "series gap -", "query", "query a", "query a 5", "query a 5 5",
            "query a -", "band", "band 5", "band 16", "level", "level mean", "cost", "cost plain", "apart", "apart 5"};
        int[] sizes = {1, 2, 2, 3, 1, 2, 3, 4, 3, 1, 2, 2, 1, 2, 1, 2, 1, 2};
        int[] causes = {0, 1, 0, 1, 0, 0, 1, 2, 0, -2, -2, -2, -2, -2, -2, -2, -2, -2};
        String[] lasts = {"gap 5 - ;", "gap 5 - ;", "5", "5", "name", "5 - ;", "5 - ;", "5 - ;", "5", "5 16", ";", ";",
            "none mean first range", ";", "plain square", ";", "5 100", ";"};
        for (int i = 0; i < heads.length; i++) {
            String text = tokens(400 - sizes[i]) + heads[i];
            Due.fault(text, 1, text.length(), causes[i]);
            for (String last : lasts[i].split(" ")) {
                Due.fault(text + " " + last, 2, text.length() + 1, causes[i]);
                Due.fault(text + " " + last + " ,", 2, text.length() + 1, causes[i]);
                String one = tokens(399 - sizes[i]) + heads[i] + " ";
                WarpDesk desk = new WarpDesk();
                int fault = Due.read(desk, one + last);
                Due.is("ROOM at a 400th TOKEN: " + heads[i] + " " + last, fault == 2, false);
            }
        }
    }

    private static void a161stReadingOrGap() {
        Due.says("ROOM: a 161st READING or GAP (at it; at its '-')");
        String[] fulls = {"series" + " 1".repeat(160), "series" + " gap".repeat(160), "series" + " 1 gap".repeat(80),
            "series" + " 1".repeat(159) + " -1"};
        for (String full : fulls) {
            reads(full + ";", 160, 0);
            reads(full + "; series;", 160, 0);
            for (String more : new String[] {"5", "gap", "-5", "- 5", "0", "1000", "-1000"}) {
                Due.fault(full + " " + more + ";", 2, full.length() + 1, 160);
                Due.fault(full + ";series " + more + ";", 2, full.length() + 8, 0);
                Due.fault(full + ";query a 1 2;series " + more + ";", 2, full.length() + 20, 0);
            }
        }
        String two = "series" + " 1".repeat(100) + ";series" + " gap".repeat(59);
        reads(two + ";", 159, 0);
        reads(two + " -7;", 160, 0);
        Due.fault(two + " -7 -8;", 2, two.length() + 4, 60);
        String many = "series 1;".repeat(39) + "series" + " 2".repeat(121) + ";";
        reads(many, 160, 0);
        Due.fault(many + "series 3;", 2, many.length() + 7, 0);
        Due.says("a QUERY's READINGS are none of the SERIES");
        reads("series" + " 1".repeat(160) + ";query a" + " 1".repeat(16) + ";", 160, 1);
    }

    private static void a6thQuery() {
        Due.says("ROOM: a 6th QUERY");
        reads(FIVE, 0, 5);
        reads(FIVE + "series 1 2;band 3;", 2, 5);
        Due.fault(FIVE + "query f 1 2;", 2, FIVE.length(), -2);
        Due.fault(FIVE + " series 1; query f 1 2;", 2, FIVE.length() + 11, -2);
        Due.fault(FIVE + "query a 1 2;", 2, FIVE.length(), -2);
        Due.fault(FIVE + "query f 1 2;query g 1 2;", 2, FIVE.length(), -2);
        Due.fault(FIVE + "query", 2, FIVE.length(), -2);
    }

    private static void a17thReadingOfAQuery() {
        Due.says("ROOM: a 17th READING of one (likewise)");
        String[] fulls = {"query a" + " 1".repeat(16), "query a" + " -1".repeat(16), "query a" + " 1 -1".repeat(8)};
        for (String full : fulls) {
            reads(full + ";", 0, 1);
            for (String more : new String[] {"5", "-5", "- 5", "1000", "-1000"}) {
                Due.fault(full + " " + more + ";", 2, full.length() + 1, 16);
                Due.fault("series 1 2;" + full + " " + more + " 6;", 2, full.length() + 12, 16);
            }
        }
        String all = "";
        for (String name : new String[] {"a", "b", "c", "d", "e"}) {
            all += "query " + name + " 1".repeat(16) + ";";
        }
        reads(all, 0, 5);
        String last = all.substring(0, all.length() - 1);
        Due.fault(last + " 1;", 2, last.length() + 1, 16);
    }

    // ---- FAULTS: the others

    private static void twiceAName() {
        Due.says("TWICE: a NAME told already");
        for (String name : new String[] {"a", "z", "ab", "abcdefgh"}) {
            String head = "query " + name + " 1 2;query ";
            Due.fault(head + name + " 1 2;", 3, head.length(), 0);
            Due.fault(head + "\n" + name + " 3 4;", 3, head.length() + 1, 0);
            Due.fault(head + "y 1 2;query " + name + " 1 2;", 3, head.length() + 12, 0);
            Due.fault("series 1;" + head + name + " 1 2;query " + name + " 1 2;", 3, head.length() + 9, 0);
        }
        for (int q = 0; q < 4; q++) {
            String name = "abcd".substring(q, q + 1);
            String four = FIVE.substring(0, 48);
            Due.fault(four + "query " + name + " 5 6;", 3, 54, 0);
        }
        reads("query ab 1 2;query ba 1 2;query a 1 2;query b 1 2;query abc 1 2;", 0, 5);
        Due.says("TWICE: whatever stands behind the NAME");
        String[] behind = {" 1 2;", "1 2;", "-1 2;", "\n1 2;", " - 1 2;"};
        for (String one : behind) {
            for (String other : behind) {
                Due.fault("query ab" + one + "query ab" + other, 3, one.length() + 14, 0);
                reads("query ab" + one + "query abb" + other + "query aa" + other, 0, 3);
            }
        }
        Due.fault("query ab 1 2;query ab;", 3, 19, 0);
        WarpDesk desk = Due.desk("query a 1 2;");
        Due.is("a NAME of the text ahead", Due.read(desk, "query a 3 4;"), 0);
        Due.is("its READING", desk.query(0, 0), 3);
        Due.is("a NAME of a text with a FAULT", Due.read(desk, "query b 3 4; query b"), 1);
        Due.is("that NAME again", Due.read(desk, "query b 5 6;"), 0);
    }

    private static void wrongNumbers() {
        Due.says("WRONG (at the INT): a number not as told above");
        Due.fault("series -1000;", 5, 8, 0);
        Due.fault("series - \n 1000;", 5, 11, 0);
        Due.fault("series 1 gap -2 1000 3;", 5, 16, 3);
        Due.fault("series 1000 1000;", 5, 7, 0);
        Due.fault("series 1;series 1000;", 5, 16, 0);
        Due.fault("query a 1 2 -1000;", 5, 13, 2);
        Due.fault("query a 1 2;query b 1000 1;", 5, 20, 0);
        Due.fault("query a 1" + " 2".repeat(14) + " 1000;", 5, 38, 15);
        Due.fault("series" + " 1".repeat(159) + " 1000;", 5, 325, 159);
        Due.fault("series 1; band 16; apart 0;", 5, 15, -2);
        Due.fault("apart 0; band 16;", 5, 6, -2);
    }

    private static void shortQueries() {
        Due.says("SHORT (at the ';'): a QUERY of fewer than 2 READINGS");
        Due.fault("query a;", 6, 7, 0);
        Due.fault("query a  ;", 6, 9, 0);
        Due.fault("query a 1;", 6, 9, 1);
        Due.fault("query a -1\n;", 6, 11, 1);
        reads("query a 1 2;", 0, 1);
        reads("query a 1 -2;", 0, 1);
        Due.fault("query a 1 2;query b 1;", 6, 21, 1);
        Due.fault("query a;query b 1;", 6, 7, 0);
        Due.fault("series 1 2 3;query a;", 6, 20, 0);
    }

    private static void theFirstByItsPlace() {
        Due.says("FAULTS of a text, the first by its place");
        Due.fault("series x; query 1;", 1, 7, 0);
        String row = "series" + " 1".repeat(161) + ";";
        Due.fault(row + "query a" + " 1".repeat(17) + ";", 2, 327, 160);
        Due.fault("query a" + " 1".repeat(17) + ";" + row, 2, 40, 16);
        Due.fault("series , " + row, 1, 7, 0);
        Due.fault(row + " ,", 2, 327, 160);
        Due.says("If there is none, likewise: TWICE, WRONG, SHORT");
        String first = "query a 1 2;";
        Due.fault(first + "query a 1000 2;", 3, 18, 0);
        Due.fault(first + "query a 1;", 3, 18, 0);
        Due.fault(first + "query b 1000 2;query a 1 2;", 5, 20, 0);
        Due.fault(first + "query b 1000;", 5, 20, 0);
        Due.fault(first + "query b 1;query a 1 2;", 6, 21, 1);
        Due.fault(first + "query b 1;band 16;", 6, 21, 1);
        Due.fault(first + "band 16;query a;", 5, 17, -2);
        Due.fault("series 1000;" + first + "query a 1;", 5, 7, 0);
    }

    private static void syntaxAndRoomComeAheadOfTheOthers() {
        Due.says("If there is none, likewise: the others are told only without SYNTAX and ROOM");
        String[] soft = {"query a 1 2;query a 3 4;", "series 1000;", "query a 1 -1000;", "band 16;", "apart 0;", "query a;", "query a 1;"};
        for (String text : soft) {
            int length = text.length();
            Due.fault(text + ",", 1, length, -2);
            Due.fault(text + "series 7", 1, length + 8, 1);
            Due.fault(text + "level mean", 1, length + 10, -2);
            Due.fault(text + "series" + " 1".repeat(161) + ";", 2, length + (text.startsWith("series") ? 325 : 327),
                text.startsWith("series") ? 159 : 160);
            Due.fault(text + "query y" + " 1".repeat(17) + ";", 2, length + 40, 16);
            String tells = tokens(420);
            WarpDesk desk = new WarpDesk();
            Due.is("a 401st behind " + text, Due.read(desk, text + tells), 2);
        }
        Due.fault("query a 1;query b 1 2;query c 1 2;query d 1 2;query e 1 2;query f 1 2;", 2, 58, -2);
    }

    private static void ofOnePlaceTheLeast() {
        Due.says("of one place the least");
        // A 401st TOKEN that no text goes on with, and one that has no room of its own either.
        Due.fault(tokens(400) + ";", 1, tokens(400).length(), -2);
        Due.fault(tokens(400) + "gap", 1, tokens(400).length(), -2);
        Due.fault(tokens(400) + "ninechars", 1, tokens(400).length(), -2);
        Due.fault(tokens(399) + "series ,", 1, tokens(399).length() + 7, 0);
        Due.fault(tokens(399) + "band ;", 1, tokens(399).length() + 5, -2);
        Due.fault(tokens(399) + "level 1", 1, tokens(399).length() + 6, -2);
        Due.fault(tokens(399) + "query 1", 1, tokens(399).length() + 6, 0);
        String full = tokens(239) + "series" + " 1".repeat(160);
        Due.fault(full + " 1", 2, full.length() + 1, 160);
        Due.fault(full + " -1", 2, full.length() + 1, 160);
        Due.fault(full + " x", 1, full.length() + 1, 160);
        Due.fault(full + ";", 2, full.length(), 160);
        // The 161st READING begins with the 400th TOKEN.
        String less = tokens(238) + "series" + " 1".repeat(160);
        reads(less + ";", 160, 0);
        Due.fault(less + " -1;", 2, less.length() + 1, 160);
        // SHORT and ROOM at one ';', WRONG and ROOM at one INT, TWICE and ROOM at one NAME.
        String query = tokens(397) + "query a 1";
        Due.fault(query + ";", 2, query.length(), 1);
        String wrong = tokens(398) + "series 1";
        Due.fault(wrong + " 1000", 2, wrong.length() + 1, 1);
        String twice = "query a 1 2;" + tokens(394) + "query";
        Due.fault(twice + " a", 2, twice.length() + 1, 0);
    }

    // ---- CAUSE

    private static void causeInEachTell() {
        Due.says("CAUSE: behind the word 'series' or 'query', to the ';' of that TELL, it too");
        Due.fault(", series 1 2;", 1, 0, -2);
        Due.fault("series , 1 2;", 1, 7, 0);
        Due.fault("series 1 , 2;", 1, 9, 1);
        Due.fault("series 1 gap , 2;", 1, 13, 2);
        Due.fault("series 1 gap -3 , 2;", 1, 16, 3);
        Due.fault("series 1 gap - , 2;", 1, 15, 2);
        Due.fault("series 1 2; ,", 1, 12, -2);
        Due.fault("series 1 2; 3", 1, 12, -2);
        Due.fault("query , a 1 2;", 1, 6, 0);
        Due.fault("query a , 1 2;", 1, 8, 0);
        Due.fault("query a 1 , 2;", 1, 10, 1);
        Due.fault("query a 1 -2 - , 2;", 1, 15, 2);
        Due.fault("query a 1 2; ,", 1, 13, -2);
        Due.fault("query a 1 2 3;band ,", 1, 19, -2);
        Due.fault("query a 1 2 3;level ,", 1, 20, -2);
        Due.fault("query a 1 2 3;cost ,", 1, 19, -2);
        Due.fault("query a 1 2 3;apart ,", 1, 20, -2);
        Due.says("how many READINGS and GAPS of it were told whole ahead of its place");
        Due.fault("series 1 2 3;series 4 ,", 1, 22, 1);
        Due.fault("series 1 2 3;query a 4 ,", 1, 23, 1);
        Due.fault("query a 1 2 3;query b ,", 1, 22, 0);
        Due.fault("query a 1 2 3;series ,", 1, 21, 0);
        Due.fault("series 1000 -1000 ,", 1, 18, 2);
        Due.fault("series" + " 1".repeat(160) + " ,", 1, 327, 160);
        Due.fault("query a" + " 1".repeat(16) + " ,", 1, 40, 16);
        Due.fault("query a" + " 1".repeat(16) + " gap", 1, 40, 16);
        Due.says("elsewhere -2");
        Due.fault("band 99;", 5, 5, -2);
        Due.fault("series 1 2;apart 100;", 5, 17, -2);
        Due.fault("series 1 2;level 1;", 1, 17, -2);
    }

    private static void causeWithoutFault() {
        Due.says("without FAULT, ahead of any read, -1");
        WarpDesk desk = new WarpDesk();
        Due.put(desk, "series 1 ,");
        Due.is("cause ahead of the read", desk.cause(), -1);
        Due.is("place ahead of the read", desk.place(), -1);
        Due.is("read", desk.read(), 1);
        for (int time = 0; time < 2; time++) {
            Due.is("cause", desk.cause(), 1);
            Due.is("place", desk.place(), 9);
        }
        Due.put(desk, "series 1 2;");
        Due.is("cause till the next read", desk.cause(), 1);
        Due.is("place till the next read", desk.place(), 9);
        Due.is("read", desk.read(), 0);
        Due.is("cause without FAULT", desk.cause(), -1);
        Due.is("place without FAULT", desk.place(), -1);
        Due.is("read", Due.read(desk, ","), 1);
        Due.is("place 0", desk.place(), 0);
        Due.is("cause -2", desk.cause(), -2);
        Due.is("read of an empty tape", desk.read(), 0);
        Due.is("place", desk.place(), -1);
        Due.is("cause", desk.cause(), -1);
    }

    // ---- what a text changes

    private static void eachTextIsReadForItself() {
        Due.says("4: the tape is read: nothing of a text ahead of it counts");
        WarpDesk desk = new WarpDesk();
        Due.is("a text broken off behind '-'", Due.read(desk, "series 1 -"), 1);
        Due.is("the next one", Due.read(desk, "series 5 gap;query a 6 7;"), 0);
        Due.is("its first READING", desk.at(0), 5);
        Due.is("a QUERY broken off behind '-'", Due.read(desk, "query a 1 -"), 1);
        Due.is("the next one", Due.read(desk, "query a 6 7;"), 0);
        Due.is("its first READING", desk.query(0, 0), 6);
        for (String broken : new String[] {"series 1 2", "query a 1 2", "query", "band", "level", "cost plain"}) {
            Due.is(broken, Due.read(desk, broken), 1);
            Due.is("a FAULT elsewhere", Due.read(desk, ","), 1);
            Due.is("its CAUSE", desk.cause(), -2);
            Due.is("its place", desk.place(), 0);
            Due.is("a good text", Due.read(desk, "series 3;"), 0);
            Due.is("its place", desk.at(0), 3);
            Due.is("its places", desk.count(0), 1);
        }
        WarpDesk full = new WarpDesk();
        for (int time = 0; time < 3; time++) {
            Due.is("400 TOKENS", Due.read(full, tokens(400)), 0);
            Due.is("401 TOKENS", Due.read(full, tokens(401)), 2);
        }
        WarpDesk places = new WarpDesk();
        for (int time = 0; time < 3; time++) {
            Due.is("160 places", Due.read(places, "series" + "-1".repeat(160) + ";"), 0);
            Due.is("161 places", Due.read(places, "series" + "-1".repeat(161) + ";"), 2);
            Due.is("five QUERIES", Due.read(places, FIVE), 0);
            Due.is("six QUERIES", Due.read(places, FIVE + "query f 1 2;"), 2);
            Due.is("a SHORT one", Due.read(places, "query a 1;"), 6);
            Due.is("a WRONG one", Due.read(places, "band 16;"), 5);
        }
    }

    private static void faultyTextChangesNothing() {
        Due.says("A text with a FAULT changes nothing but the tape and what place() and cause() tell");
        String good = "series 9 9 9 9 9 9 9 9 9 9;query y 8 8;band 1;level first;cost square;apart 2;";
        Twins.onlyTheTapeGoes(good + ",", Twins::busy, 1);
        Twins.onlyTheTapeGoes("," + good, Twins::busy, 1);
        Twins.onlyTheTapeGoes(good + "series 1", Twins::busy, 1);
        Twins.onlyTheTapeGoes(good + tokens(401), Twins::busy, 2);
        Twins.onlyTheTapeGoes("series" + " 1".repeat(161) + ";" + good, Twins::busy, 2);
        Twins.onlyTheTapeGoes(good + FIVE, Twins::busy, 2);
        Twins.onlyTheTapeGoes(good + "query x" + " 1".repeat(17) + ";", Twins::busy, 2);
        Twins.onlyTheTapeGoes(good + "query y 1 2;", Twins::busy, 3);
        Twins.onlyTheTapeGoes(good + "series 1000;", Twins::busy, 5);
        Twins.onlyTheTapeGoes(good + "band 16;", Twins::busy, 5);
        Twins.onlyTheTapeGoes(good + "query x 1;", Twins::busy, 6);
    }

    private static void goodTextIsInPlaceOfTheOneAhead() {
        Due.says("else it is in place of the one ahead");
        String[] texts = {"", "series 4;", "query x 5 6;", "band 7;", "level range;", "cost plain;", "apart 9;",
            "series 1 gap 2;query m 1 2 3;query n 4 5;band 0;level first;cost square;apart 99;"};
        for (String text : texts) {
            WarpDesk desk = Twins.busy();
            Due.is("read of " + text, Due.read(desk, text), 0);
            WarpDesk fresh = Due.desk(text);
            Due.is("all as on a new object: " + text, Twins.shown(desk).equals(Twins.shown(fresh)), true);
        }
        WarpDesk longer = Due.desk("query a" + " 1".repeat(16) + ";query b 1 2;");
        Due.is("read", Due.read(longer, "query c 3 4;"), 0);
        Due.is("a shorter QUERY", longer.query(0, 2), -1000);
        Due.is("no second QUERY", longer.query(1, 0), -1000);
    }

    private static void goodTextLeavesNothingUndoneOrHeld() {
        Due.says("nothing can be undone, SLOTS hold nothing");
        for (String text : new String[] {"", "series 1;"}) {
            WarpDesk desk = Twins.busy();
            desk.hold(0);
            desk.hold(1);
            desk.hold(2);
            Due.is("read", Due.read(desk, text), 0);
            Due.is("things that can be undone", desk.count(9), 0);
            Due.is("undo", desk.undo(), false);
            Due.is("slots", desk.count(11), 0);
            for (int slot = 0; slot < 3; slot++) {
                Due.is("restore " + slot, desk.restore(slot), false);
            }
            Due.is("places", desk.count(0), text.isEmpty() ? 0 : 1);
        }
    }

    // ---- promises 7 and 8

    private static void atEdges() {
        Due.says("7: a place of the SERIES; -1000: a GAP, no such place");
        WarpDesk desk = Due.desk("series 7" + " 0".repeat(158) + " 9;");
        Due.is("at 0", desk.at(0), 7);
        Due.is("at 159", desk.at(159), 9);
        for (int i : new int[] {-1, 160, 161, 255, 256, -256, Integer.MAX_VALUE, Integer.MIN_VALUE}) {
            Due.is("at " + i, desk.at(i), -1000);
        }
        WarpDesk few = Due.desk("series gap 5 gap;");
        int[] places = {-1000, 5, -1000, -1000};
        for (int i = 0; i < places.length; i++) {
            Due.is("at " + i, few.at(i), places[i]);
        }
        few.drop(2);
        Due.is("at 1 after a drop", few.at(1), -1000);
        few.push(8);
        few.undo();
        Due.is("at 1 after an undo", few.at(1), -1000);
    }

    private static void queryEdges() {
        Due.says("8: a READING of a QUERY; -1000: no such ones");
        WarpDesk desk = Due.desk("query a 1 2;query b" + " 3".repeat(16) + ";query c 5 6 7;");
        int[] lengths = {2, 16, 3};
        int[] firsts = {1, 3, 5};
        for (int q = 0; q < 3; q++) {
            Due.is("first of " + q, desk.query(q, 0), firsts[q]);
            Due.is("last of " + q, desk.query(q, lengths[q] - 1), q == 0 ? 2 : q == 1 ? 3 : 7);
            for (int i : new int[] {-1, lengths[q], 16, 17, -16, Integer.MAX_VALUE, Integer.MIN_VALUE}) {
                Due.is("query " + q + " " + i, desk.query(q, i), -1000);
            }
        }
        for (int q : new int[] {-1, 3, 4, 5, Integer.MAX_VALUE, Integer.MIN_VALUE}) {
            Due.is("query " + q + " 0", desk.query(q, 0), -1000);
        }
        WarpDesk none = new WarpDesk();
        Due.is("query 0 0 of none", none.query(0, 0), -1000);
    }
}

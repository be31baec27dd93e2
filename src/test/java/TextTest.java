/** Promises 1 to 8: a new object, the tape, its text with FAULT, place and CAUSE, what was told. */
public final class TextTest {
    public static void main(String[] args) {
        promise1NewObject();
        promise2Feed();
        promise3Back();
        promise4ReadTakesTheTextInPlace();
        promise4FaultyTextChangesNothing();
        promise4Tokens();
        promises4To6WordForName();
        promises4To6Syntax();
        promises4To6Room();
        promises4To6Later();
        promises5And6TheLatestRead();
        promise7At();
        promise8Query();
        Due.end();
    }

    private static void promise1NewObject() {
        WarpDesk desk = new WarpDesk();
        int[] counts = {0, 0, 0, 2, 0, 0, 8, 0, 0, 0, 0, 0, -1000, -1000, 0, -1};
        for (int what = 0; what < counts.length; what++) {
            Due.is("new: count " + what, desk.count(what), counts[what]);
        }
        Due.is("new: undo", desk.undo(), false);
        Due.is("new: restore", desk.restore(0), false);
    }

    private static void promise2Feed() {
        WarpDesk desk = new WarpDesk();
        // "band 7; cost square;": the highest byte of each comes first.
        Due.is("feed", desk.feed(0x62616E64, 0x20373B20, 0x636F7374, 0x20737175, 0x6172653B), 20);
        Due.is("read", desk.read(), 0);
        Due.is("band", desk.count(3), 7);
        Due.is("cost", desk.count(5), 1);
        for (int fed = 20; fed <= 2000; fed += 20) {
            Due.is("feed to " + fed, desk.feed(0x20202020, 0x20202020, 0x20202020, 0x20202020, 0x20202020), fed);
        }
        Due.is("feed of a full tape", desk.feed(1, 2, 3, 4, 5), -1);
        Due.is("bytes on a full tape", desk.count(8), 2000);
        Due.is("back 19", desk.back(19), 1981);
        Due.is("feed of one byte too many", desk.feed(1, 2, 3, 4, 5), -1);
        Due.is("back 1", desk.back(1), 1980);
        Due.is("feed that just fits", desk.feed(0x20202020, 0x20202020, 0x20202020, 0x20202020, 0x20202020), 2000);
        Due.is("blanks read", desk.read(), 0);
        Due.fault("\0\0\0\0", 1, 0, -2);
        Due.fault("series 1 \u00ff;", 1, 9, 1);
    }

    private static void promise3Back() {
        WarpDesk desk = new WarpDesk();
        Due.is("back 0 of none", desk.back(0), 0);
        Due.is("back 1 of none", desk.back(1), -1);
        Due.put(desk, "series 1 2 3;");
        Due.is("back -1", desk.back(-1), -1);
        Due.is("back of the least int", desk.back(Integer.MIN_VALUE), -1);
        Due.is("back 14 of 13", desk.back(14), -1);
        Due.is("nothing went", desk.count(8), 13);
        Due.is("back 3", desk.back(3), 10);
        Due.put(desk, " 9;");
        Due.is("bytes", desk.count(8), 13);
        Due.is("read", desk.read(), 0);
        Due.is("what stands instead", desk.at(2), 9);
        Due.is("what stood", desk.at(1), 2);
        Due.put(desk, "abc");
        Due.is("back of all", desk.back(3), 0);
    }

    private static void promise4ReadTakesTheTextInPlace() {
        WarpDesk desk = Due.desk("series 1 2; query a 1 2; band 5; level mean; cost square; apart 3;");
        desk.push(4);
        desk.hold(1);
        Due.is("tape is empty", desk.count(8), 0);
        Due.is("undoable", desk.count(9), 1);
        Due.is("second text", Due.read(desk, "series 5;series gap -6;query b 3 4;query c 7 8 9;"), 0);
        int[] counts = {3, 1, 2, 2, 0, 0, 8, 1, 0, 0, -1, 0};
        for (int what = 0; what < counts.length; what++) {
            Due.is("second: count " + what, desk.count(what), counts[what]);
        }
        Due.is("nothing to undo", desk.undo(), false);
        Due.is("nothing held", desk.restore(1), false);
        Due.is("the last ones", Due.read(desk, "band 1;band 3;level range;level first;cost square;cost plain;apart 4;apart 99;"), 0);
        Due.is("last band", desk.count(3), 3);
        Due.is("last level", desk.count(4), 2);
        Due.is("last cost", desk.count(5), 0);
        Due.is("last apart", desk.count(6), 99);
        Due.is("empty text", desk.read(), 0);
        Due.is("band is untold", desk.count(3), 2);
        Due.is("apart is untold", desk.count(6), 8);
    }

    private static void promise4FaultyTextChangesNothing() {
        WarpDesk desk = Due.desk("series 1 2; query a 1 2; band 5;");
        desk.push(4);
        desk.hold(1);
        Due.is("faulty", Due.read(desk, "series 9 9 9 9; query b 7 7; band 6; band 16;"), 5);
        Due.is("tape is empty", desk.count(8), 0);
        Due.is("places", desk.count(0), 3);
        Due.is("first place", desk.at(0), 1);
        Due.is("query", desk.query(0, 0), 1);
        Due.is("band", desk.count(3), 5);
        Due.is("undoable", desk.count(9), 1);
        Due.is("held", desk.count(11), 1);
        Due.is("undo", desk.undo(), true);
        Due.is("restore", desk.restore(1), true);
        Due.is("places", desk.count(0), 3);
    }

    private static void promise4Tokens() {
        WarpDesk desk = Due.desk("series1-2gap0003\t-\r\n4;query abcdefgh-5-6;level\nfirst;");
        Due.is("places", desk.count(0), 5);
        int[] places = {1, -2, -1000, 3, -4};
        for (int i = 0; i < places.length; i++) {
            Due.is("place " + i, desk.at(i), places[i]);
        }
        Due.is("query", desk.query(0, 1), -6);
        Due.desk("query az 1 2; query zy 3 4; series 90 9;");
        Due.desk("series; series -0 999 -999;");
        Due.fault("query abcdefghi 1 2;", 1, 6, 0);
        Due.fault("series 12345;", 1, 7, 0);
        Due.fault("series 1 00001;", 1, 9, 1);
        Due.fault("seriesgap;", 1, 0, -2);
        Due.fault("Series 1;", 1, 0, -2);
        Due.fault("band 5, ;", 1, 6, -2);
        Due.fault("band\f5;", 1, 4, -2);
    }

    private static void promises4To6WordForName() {
        String[] words = {"series", "gap", "query", "band", "level", "none", "mean", "first", "range", "cost",
            "plain", "square", "apart"};
        for (String word : words) {
            Due.fault("query " + word + " 1 2;", 1, 6, 0);
            Due.fault("query " + word, 1, 6, 0);
            Due.fault("query\n" + word + "-1 2;", 1, 6, 0);
            Due.fault("series 1 2 gap; query a 3 4; query " + word + " 5 6;", 1, 35, 0);
            Due.fault("query a 1; query " + word + " 1 2;", 1, 17, 0);
            Due.fault("query a 1 2; query " + word + " 1 2; query " + word + " 1 2;", 1, 19, 0);
            Due.fault("query a 1 " + word + ";", 1, 10, 1);
            // Letters that only begin like a WORD, or are the head or the end of one, are a NAME.
            String longer = word + "x";
            String shorter = word.substring(0, word.length() - 1);
            String end = word.substring(1);
            WarpDesk desk = Due.desk("query " + longer + " 1 2; query " + shorter + " 3 4; query " + end + " 5 6;");
            Due.is("queries of names like " + word, desk.count(2), 3);
            Due.is("reading of " + longer, desk.query(0, 0), 1);
            Due.is("reading of " + shorter, desk.query(1, 0), 3);
            Due.is("reading of " + end, desk.query(2, 0), 5);
        }
        Due.desk("query reading 1 2; query tell 3 4; query text 5 6; query name 7 8; query int 9 9;");
        WarpDesk desk = Due.desk("series 1; query a 1 2;");
        Due.is("a word for a name", Due.read(desk, "series 2; query apart 3 4;"), 1);
        Due.is("the series stays", desk.at(0), 1);
        Due.is("the query stays", desk.query(0, 1), 2);
        String five = "query a 1 2;query b 1 2;query c 1 2;query d 1 2;query e 1 2;";
        Due.fault(five + "query gap 1 2;", 2, five.length(), -2);
        // The 401st TOKEN: at one place SYNTAX is told ahead of ROOM.
        String tokens = "band 1;".repeat(133) + "query ";
        Due.fault(tokens + "gap", 1, tokens.length(), 0);
        Due.fault(tokens + "gaps", 2, tokens.length(), 0);
    }

    private static void promises4To6Syntax() {
        Due.fault("series 1 2", 1, 10, 2);
        Due.fault("series 1 2  ", 1, 12, 2);
        Due.fault("series", 1, 6, 0);
        Due.fault("series 1 -", 1, 10, 1);
        Due.fault("series 1 --2;", 1, 10, 1);
        Due.fault("series 1 - gap;", 1, 11, 1);
        Due.fault("series 1 - ;", 1, 11, 1);
        Due.fault("series 1 2; ;", 1, 12, -2);
        Due.fault("series 1 2; 3", 1, 12, -2);
        Due.fault("query", 1, 5, 0);
        Due.fault("query 1 2;", 1, 6, 0);
        Due.fault("query;", 1, 5, 0);
        Due.fault("query a", 1, 7, 0);
        Due.fault("query a 1 gap;", 1, 10, 1);
        Due.fault("query a b 1;", 1, 8, 0);
        Due.fault("query a 1 2", 1, 11, 2);
        Due.fault("band", 1, 4, -2);
        Due.fault("band -1;", 1, 5, -2);
        Due.fault("band 1 2;", 1, 7, -2);
        Due.fault("band 1", 1, 6, -2);
        Due.fault("level plain;", 1, 6, -2);
        Due.fault("level;", 1, 5, -2);
        Due.fault("cost mean;", 1, 5, -2);
        Due.fault("cost square", 1, 11, -2);
        Due.fault("apart gap;", 1, 6, -2);
        Due.fault("gap;", 1, 0, -2);
        Due.fault("name", 1, 0, -2);
    }

    private static void promises4To6Room() {
        String full = "series" + " 1".repeat(159) + " gap";
        Due.is("160 places", Due.desk(full + ";").count(0), 160);
        Due.fault(full + " 2;", 2, full.length() + 1, 160);
        Due.fault(full + " gap;", 2, full.length() + 1, 160);
        Due.fault(full + " -2;", 2, full.length() + 1, 160);
        Due.fault(full + "; series -1;", 2, full.length() + 9, 0);
        Due.fault(full + " x;", 1, full.length() + 1, 160);
        String five = "query a 1 2;query b 1 2;query c 1 2;query d 1 2;query e 1 2;";
        Due.is("5 queries", Due.desk(five).count(2), 5);
        Due.fault(five + " query f 1 2;", 2, five.length() + 1, -2);
        String sixteen = "series 1; query a" + " -1".repeat(16);
        Due.is("16 readings", Due.desk(sixteen + ";").query(0, 15), -1);
        Due.fault(sixteen + " 3;", 2, sixteen.length() + 1, 16);
        Due.fault(sixteen + " -3;", 2, sixteen.length() + 1, 16);
        Due.fault(sixteen + " gap;", 1, sixteen.length() + 1, 16);
        String tokens = "band 1;".repeat(133);
        Due.is("400 tokens", Due.read(new WarpDesk(), tokens + ";"), 1);
        Due.fault(tokens + "series", 1, tokens.length() + 6, 0);
        Due.fault(tokens + "series;", 2, tokens.length() + 6, 0);
        Due.fault(tokens + "series gap", 2, tokens.length() + 7, 0);
        Due.fault(tokens + "series -", 2, tokens.length() + 7, 0);
        Due.fault(tokens + "series band", 1, tokens.length() + 7, 0);
        Due.fault("series -1;" + "band 1;".repeat(132) + "query", 2, 10 + 132 * 7, -2);
        String just = "series 1;series;series;" + "band 1;".repeat(131);
        Due.is("400 tokens whole", Due.read(new WarpDesk(), just), 0);
        Due.fault(just + " series", 2, just.length() + 1, -2);
        Due.fault(just + " 1", 1, just.length() + 1, -2);
        String row = "series;" + "band 1;".repeat(131) + "series -1 gap -";
        Due.fault(row + "2", 2, row.length(), 2);
    }

    private static void promises4To6Later() {
        Due.fault("series 1000;", 5, 7, 0);
        Due.fault("series 1 -1000;", 5, 10, 1);
        Due.fault("series 1 gap 9999;", 5, 13, 2);
        Due.fault("query a 1 -1000;", 5, 11, 1);
        Due.fault("band 16;", 5, 5, -2);
        Due.fault("apart 0;", 5, 6, -2);
        Due.fault("apart 100;", 5, 6, -2);
        Due.fault("query a 1;", 6, 9, 1);
        Due.fault("query a;", 6, 7, 0);
        Due.fault("query ab 1 2; query ab 3 4;", 3, 20, 0);
        Due.is("a longer name", Due.read(new WarpDesk(), "query ab 1 2; query abc 3 4; query a 5 6;"), 0);
        Due.fault("query a 1; query a 2 3;", 6, 9, 1);
        Due.fault("query a 1 2; query a 2000;", 3, 19, 0);
        Due.fault("query a 2000;", 5, 8, 0);
        // SYNTAX and ROOM are told first, though they stand behind.
        Due.fault("series 1000; x", 1, 13, -2);
        Due.fault("query a 1; series" + " 1".repeat(161) + ";", 2, 17 + 321, 160);
    }

    private static void promises5And6TheLatestRead() {
        WarpDesk desk = new WarpDesk();
        Due.is("place ahead of any read", desk.place(), -1);
        Due.is("cause ahead of any read", desk.cause(), -1);
        Due.read(desk, "series 1 1000;");
        Due.is("place", desk.place(), 9);
        Due.is("cause", desk.cause(), 1);
        desk.hold(0);
        desk.push(3);
        desk.restore(0);
        Due.is("place stays", desk.place(), 9);
        Due.is("cause stays", desk.cause(), 1);
        Due.read(desk, "series 1;");
        Due.is("place without", desk.place(), -1);
        Due.is("cause without", desk.cause(), -1);
    }

    private static void promise7At() {
        WarpDesk desk = Due.desk("series -999 gap 999 0;");
        int[] places = {-999, -1000, 999, 0, -1000};
        for (int i = 0; i < places.length; i++) {
            Due.is("at " + i, desk.at(i), places[i]);
        }
        Due.is("at -1", desk.at(-1), -1000);
        Due.is("at the least int", desk.at(Integer.MIN_VALUE), -1000);
        Due.is("at the greatest int", desk.at(Integer.MAX_VALUE), -1000);
    }

    private static void promise8Query() {
        WarpDesk desk = Due.desk("query a 1 -2; query b 999 -999 0;");
        Due.is("query 0 0", desk.query(0, 0), 1);
        Due.is("query 0 1", desk.query(0, 1), -2);
        Due.is("query 0 2", desk.query(0, 2), -1000);
        Due.is("query 1 0", desk.query(1, 0), 999);
        Due.is("query 1 2", desk.query(1, 2), 0);
        Due.is("query 1 -1", desk.query(1, -1), -1000);
        Due.is("query 2 0", desk.query(2, 0), -1000);
        Due.is("query -1 0", desk.query(-1, 0), -1000);
        Due.is("query of the greatest ints", desk.query(Integer.MAX_VALUE, Integer.MAX_VALUE), -1000);
    }
}

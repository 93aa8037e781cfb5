/** Promises 1 to 8, a sentence at a time: just within each bound and just beyond it. */
public final class TrayEdgeTest {
    private static final Check CHECK = new Check("TrayEdgeTest");
    private static final int MOST = Integer.MAX_VALUE;
    private static final int LEAST = Integer.MIN_VALUE;

    public static void main(String[] args) {
        newObject();
        fiveHundredTwelve();
        statusIsOfTheLatest();
        callsWithoutStatus();
        fractions();
        fourTrays();
        missingAtFirst();
        fourSorts();
        cuts();
        sixtyAtMost();
        noneAtLeast();
        allZero();
        placesToWrite();
        placesToRead();
        belowZeroIsRead();
        poursAsTheyWere();
        pourOrder();
        pourPlaces();
        pourNothing();
        pourSorts();
        CHECK.end();
    }

    private static void newObject() {
        CHECK.says("1: TRAYS are MISSING, a COURT of nobody, no WEEKS, MARKS, an empty tape; STATUS 0, the FRACTION 0 by 1");
        RainJury x = new RainJury();
        CHECK.due("status()", x.status(), 0);
        CHECK.fraction(x, "nothing", 0, 1);
        for (int tray = 0; tray < 4; tray++) {
            CHECK.bad(x, "read", x.read(tray, 0), 3);
        }
        for (int what = 0; what < 12; what++) {
            boolean none = what == 4 || what == 8;
            CHECK.due(x, "many(" + what + ")", x.many(what), none ? -1 : 0, none ? 8 : 0);
        }
        CHECK.bad(x, "juror(0, 0)", x.juror(0, 0), 2);
        CHECK.good(x, "HUNG", x.verdict(), 0);
        CHECK.bad(x, "no WEEKS", x.live(0), 8);
        CHECK.bad(x, "no MARKS", x.back(), 8);
        CHECK.bad(x, "court(1) of an empty tape", x.court(1), 5);
        CHECK.bad(x, "weeks(1) of an empty tape", x.weeks(1), 5);
        CHECK.due("feed on an empty tape", x.feed(0, 0, 0, 0, 0), 20);
    }

    private static void fiveHundredTwelve() {
        CHECK.says("An object is used for at most 512 calls: the 512th is answered as the first");
        RainJury x = new RainJury();
        x.tray(0, 2, 60);
        for (int i = 1; i <= 510; i++) {
            CHECK.due("write", x.write(0, i % 60, i), true);
        }
        CHECK.due("read", x.read(0, 30), 510);
    }

    private static void statusIsOfTheLatest() {
        CHECK.says("2: the STATUS of the latest call that has one");
        RainJury x = new RainJury();
        x.tray(-1, 0, 0);
        CHECK.due("behind 1", x.status(), 1);
        x.tray(0, 0, 61);
        CHECK.due("behind 5", x.status(), 5);
        x.tray(0, 0, 1);
        CHECK.due("behind 0", x.status(), 0);
        x.read(0, 1);
        CHECK.due("behind 4", x.status(), 4);
        CHECK.due("asked again", x.status(), 4);
    }

    private static void callsWithoutStatus() {
        CHECK.says("part 5: status(), fault(), feed(), top(), bottom() have none");
        RainJury x = new RainJury();
        x.back();
        for (int i = 0; i < 50; i++) {
            x.feed(0, 0, 0, 0, 0);
            x.fault(i - 3);
            x.top();
            x.bottom();
            CHECK.due("status()", x.status(), 8);
        }
    }

    private static void fractions() {
        CHECK.says("part 4: FRACTIONS: without a common divisor, the bottom above 0; 0 is 0 by 1; 3: below 0, too");
        RainJury x = Check.with("juror a leans 1;juror b;juror c;juror d;weather u;weather v;follows u guilty v free u;"
                + "crop k on u less 6;crop l;crop m on u 9;", "mood;");
        x.drawn(2, 0, 1);
        CHECK.fraction(x, "0 of 6", 0, 1);
        x.drawn(1, 0, 1);
        CHECK.fraction(x, "1 of 4", 1, 4);
        x.drawn(1, 0, -1);
        CHECK.fraction(x, "3 of 4", 3, 4);
        x.drawn(2, 0, -1);
        CHECK.fraction(x, "6 of 6", 1, 1);
        Check.weeks(x, "mood;when votes=1;verdict;end;");
        int ended = 0;
        for (int seed = 0; seed < 20; seed++) {
            x.mark();
            x.live(seed);
            ended += x.many(6);
            x.back();
        }
        CHECK.due("some end a day, some do not", ended > 0 && ended < 20, true);
        x.mean(1, 0, 20);
        CHECK.fraction(x, "0 of 20", 0, 1);
        x.mean(0, 0, 20);
        CHECK.due("below 0", x.top() < 0 && x.bottom() > 0, true);
        CHECK.due("as much", x.top() * 20, -6 * ended * x.bottom());
        long bottom = x.bottom();
        for (int i = 2; i <= 20; i++) {
            CHECK.due("a common divisor " + i, x.top() % i == 0 && bottom % i == 0, false);
        }
        CHECK.bad(x, "wrong", x.drawn(0, 0, 1), 5);
        CHECK.due("the FRACTION told latest", x.bottom(), bottom);
    }

    private static void fourTrays() {
        CHECK.says("TRAYS, 0 to 3; 5: 1 no such TRAY");
        RainJury x = new RainJury();
        for (int tray : new int[] {-1, 4, LEAST, MOST}) {
            CHECK.bad(x, "tray(" + tray + ")", x.tray(tray, 0, 1), 1);
            CHECK.bad(x, "write(" + tray + ")", x.write(tray, 0, 1), 1);
            CHECK.bad(x, "read(" + tray + ")", x.read(tray, 0), 1);
            CHECK.bad(x, "copyLeanings(" + tray + ")", x.copyLeanings(tray), 1);
            CHECK.bad(x, "row(" + tray + ")", x.row(tray, 0), 1);
            CHECK.bad(x, "rowGrows(" + tray + ")", x.rowGrows(tray, 0, 0), 1);
        }
        for (int tray = 0; tray < 4; tray++) {
            CHECK.good(x, "tray(" + tray + ")", x.tray(tray, 0, tray + 1));
        }
        for (int tray = 0; tray < 4; tray++) {
            CHECK.good(x, "its own row", x.read(tray, tray), 0);
            CHECK.bad(x, "its own row", x.read(tray, tray + 1), 4);
        }
    }

    private static void missingAtFirst() {
        CHECK.says("TRAYS are MISSING at first; part 5: 3 the TRAY is MISSING");
        RainJury x = Check.with("weather u;crop k;");
        for (int tray = 0; tray < 4; tray++) {
            CHECK.bad(x, "write", x.write(tray, 0, 1), 3);
            CHECK.bad(x, "read", x.read(tray, 0), 3);
            CHECK.bad(x, "pour", x.pour(tray, 0, tray, 0, 0), 3);
            CHECK.bad(x, "copyLeanings", x.copyLeanings(tray), 3);
            CHECK.bad(x, "row", x.row(tray, 0), 3);
            CHECK.bad(x, "rowGrows", x.rowGrows(tray, 0, 0), 3);
            x.tray(tray, 0, 61);
            CHECK.bad(x, "behind a refused tray()", x.read(tray, 0), 3);
            x.tray(tray, 0, 1);
            CHECK.good(x, "read", x.read(tray, 0), 0);
        }
    }

    private static void fourSorts() {
        CHECK.says("5: sorts 0 to 3; 1 no such TRAY (or sort)");
        RainJury x = new RainJury();
        for (int sort : new int[] {-1, 4, LEAST, MOST}) {
            CHECK.bad(x, "tray(0, " + sort + ")", x.tray(0, sort, 1), 1);
            CHECK.bad(x, "1 ahead of 5", x.tray(0, sort, 61), 1);
            CHECK.bad(x, "1 ahead of 6", x.tray(0, sort, -1), 1);
        }
        for (int sort = 0; sort < 4; sort++) {
            CHECK.good(x, "tray(0, " + sort + ")", x.tray(0, sort, 1));
        }
    }

    private static void cut(int sort, long most) {
        RainJury x = new RainJury();
        x.tray(0, sort, 1);
        long[][] cuts = {{most, most}, {most + 1, -most - 1}, {-most - 1, -most - 1}, {-most - 2, most}, {2 * most + 1, -1},
            {2 * most + 2, 0}, {0, 0}, {-1, -1}, {1, 1}};
        for (long[] one : cuts) {
            CHECK.good(x, "write", x.write(0, 0, one[0]));
            CHECK.good(x, "sort " + sort + " of " + one[0], x.read(0, 0), one[1]);
        }
    }

    private static void cuts() {
        CHECK.says("numbers of 8 bits (sort 0), 16 (1), 32 (2) or 64 (3), with sign; what is written is cut to these");
        cut(0, 127);
        cut(1, 32767);
        cut(2, Integer.MAX_VALUE);
        cut(3, Long.MAX_VALUE);
    }

    private static void sixtyAtMost() {
        CHECK.says("5: so many numbers (at most 60; 5)");
        RainJury x = new RainJury();
        for (int sort = 0; sort < 4; sort++) {
            CHECK.good(x, "60", x.tray(sort, sort, 60));
            CHECK.good(x, "the last", x.write(sort, 59, -7));
            CHECK.bad(x, "61", x.tray(sort, sort, 61), 5);
            CHECK.bad(x, "most", x.tray(sort, sort, MOST), 5);
            CHECK.good(x, "it stays", x.read(sort, 59), -7);
        }
    }

    private static void noneAtLeast() {
        CHECK.says("part 5: 6 below 0 (a TRAY's length)");
        RainJury x = new RainJury();
        CHECK.bad(x, "-1", x.tray(0, 0, -1), 6);
        CHECK.bad(x, "least", x.tray(0, 0, LEAST), 6);
        CHECK.bad(x, "it stays MISSING", x.read(0, 0), 3);
        CHECK.good(x, "0", x.tray(0, 0, 0));
        CHECK.bad(x, "it is not MISSING, but has no place", x.read(0, 0), 4);
        CHECK.bad(x, "nor for writing", x.write(0, 0, 1), 4);
        x.tray(0, 0, 2);
        x.write(0, 1, 9);
        CHECK.bad(x, "-1", x.tray(0, 0, -1), 6);
        CHECK.good(x, "it stays", x.read(0, 1), 9);
    }

    private static void allZero() {
        CHECK.says("5: a row of so many numbers, all 0");
        RainJury x = new RainJury();
        x.tray(2, 3, 60);
        for (int i = 0; i < 60; i++) {
            x.write(2, i, Long.MIN_VALUE + i);
        }
        x.tray(2, 0, 2);
        CHECK.bad(x, "shorter", x.read(2, 2), 4);
        x.write(2, 1, 128);
        CHECK.good(x, "of the new sort", x.read(2, 1), -128);
        x.tray(2, 3, 60);
        for (int i = 0; i < 60; i++) {
            CHECK.good(x, "anew", x.read(2, i), 0);
        }
    }

    private static void placesToWrite() {
        CHECK.says("6: a number comes to a place of a TRAY (1; 3; 4)");
        RainJury x = new RainJury();
        x.tray(0, 3, 3);
        for (int place : new int[] {-1, 3, 59, 60, LEAST, MOST}) {
            CHECK.bad(x, "write(0, " + place + ")", x.write(0, place, 5), 4);
        }
        for (int i = 0; i < 3; i++) {
            CHECK.good(x, "nothing came", x.read(0, i), 0);
        }
        CHECK.good(x, "the first", x.write(0, 0, 7));
        CHECK.good(x, "the last", x.write(0, 2, 9));
        long[] want = {7, 0, 9};
        for (int i = 0; i < 3; i++) {
            CHECK.good(x, "that place alone", x.read(0, i), want[i]);
        }
        CHECK.bad(x, "1 ahead of 4", x.write(4, -1, 5), 1);
        CHECK.bad(x, "3 ahead of 4", x.write(1, -1, 5), 3);
    }

    private static void placesToRead() {
        CHECK.says("7: the number in a place of a TRAY (1; 3; 4)");
        RainJury x = new RainJury();
        x.tray(3, 3, 60);
        x.write(3, 0, 5);
        x.write(3, 59, 6);
        CHECK.good(x, "the first", x.read(3, 0), 5);
        CHECK.good(x, "the last", x.read(3, 59), 6);
        for (int place : new int[] {-1, 60, 61, LEAST, MOST}) {
            CHECK.bad(x, "read(3, " + place + ")", x.read(3, place), 4);
        }
        CHECK.bad(x, "1 ahead of 4", x.read(-1, -1), 1);
        CHECK.bad(x, "3 ahead of 4", x.read(0, -1), 3);
    }

    private static void belowZeroIsRead() {
        CHECK.says("part 5: STATUS tells NONE from -1");
        RainJury x = new RainJury();
        x.tray(0, 3, 1);
        CHECK.bad(x, "NONE", x.read(0, 1), 4);
        x.write(0, 0, -1);
        CHECK.good(x, "-1", x.read(0, 0), -1);
    }

    private static RainJury row(int many) {
        RainJury x = new RainJury();
        x.tray(0, 1, many);
        for (int i = 0; i < many; i++) {
            x.write(0, i, 10 + i);
        }
        x.tray(1, 1, many);
        x.tray(2, 2, many);
        return x;
    }

    private static void holds(RainJury x, int tray, long... want) {
        for (int i = 0; i < want.length; i++) {
            CHECK.good(x, "read(" + tray + ", " + i + ")", x.read(tray, i), want[i]);
        }
    }

    private static void poursAsTheyWere() {
        CHECK.says("8: so many numbers come to another one, or the same, as they were");
        RainJury x = row(5);
        CHECK.good(x, "all to another", x.pour(0, 0, 1, 0, 5));
        holds(x, 1, 10, 11, 12, 13, 14);
        CHECK.good(x, "the last to the first", x.pour(0, 4, 1, 0, 1));
        holds(x, 1, 14, 11, 12, 13, 14);
        CHECK.good(x, "up by one within the same", x.pour(0, 0, 0, 1, 4));
        holds(x, 0, 10, 10, 11, 12, 13);
        CHECK.good(x, "down by one within the same", x.pour(0, 1, 0, 0, 4));
        holds(x, 0, 10, 11, 12, 13, 13);
        CHECK.good(x, "onto itself", x.pour(0, 0, 0, 0, 5));
        holds(x, 0, 10, 11, 12, 13, 13);
    }

    private static void pourOrder() {
        CHECK.says("8: 1, 3 (either), 11, 6, 4, asked in this order");
        RainJury x = row(2);
        CHECK.bad(x, "1 ahead of 3 (from)", x.pour(3, 0, 4, 0, 1), 1);
        CHECK.bad(x, "1 ahead of 3 (to)", x.pour(-1, 0, 3, 0, 1), 1);
        CHECK.bad(x, "1 ahead of 6", x.pour(0, 0, 4, 0, -1), 1);
        CHECK.bad(x, "1 ahead of 4", x.pour(4, -1, 0, 9, 1), 1);
        CHECK.bad(x, "3 (from) ahead of 6", x.pour(3, 0, 0, 0, -1), 3);
        CHECK.bad(x, "3 (to) ahead of 6", x.pour(0, 0, 3, 0, -1), 3);
        CHECK.bad(x, "3 (both) ahead of 4", x.pour(3, -1, 3, -1, 1), 3);
        CHECK.bad(x, "11 ahead of 6", x.pour(0, 0, 2, 0, -1), 11);
        CHECK.bad(x, "11 ahead of 4", x.pour(0, -1, 2, 9, 1), 11);
        CHECK.bad(x, "6 ahead of 4", x.pour(0, -1, 1, 9, -1), 6);
        CHECK.bad(x, "4", x.pour(0, -1, 1, 9, 1), 4);
        holds(x, 0, 10, 11);
        holds(x, 1, 0, 0);
        holds(x, 2, 0, 0);
    }

    private static void pourPlaces() {
        CHECK.says("part 5: 4 a place that the TRAY has not, or too few numbers");
        RainJury x = row(60);
        CHECK.bad(x, "from -1", x.pour(0, -1, 1, 0, 1), 4);
        CHECK.bad(x, "to -1", x.pour(0, 0, 1, -1, 1), 4);
        CHECK.bad(x, "from 60", x.pour(0, 60, 1, 0, 1), 4);
        CHECK.bad(x, "to 60", x.pour(0, 0, 1, 60, 1), 4);
        CHECK.bad(x, "61 of 60", x.pour(0, 0, 1, 0, 61), 4);
        CHECK.bad(x, "60 from 1 on", x.pour(0, 1, 1, 0, 60), 4);
        CHECK.bad(x, "60 to 1 on", x.pour(0, 0, 1, 1, 60), 4);
        CHECK.bad(x, "a sum beyond an int", x.pour(0, MOST, 1, 0, 2), 4);
        CHECK.bad(x, "a sum beyond an int", x.pour(0, 0, 1, MOST, MOST), 4);
        CHECK.bad(x, "least", x.pour(0, LEAST, 1, LEAST, 1), 4);
        for (int i = 0; i < 60; i++) {
            CHECK.good(x, "nothing came", x.read(1, i), 0);
        }
        CHECK.good(x, "the last to the last", x.pour(0, 59, 1, 59, 1));
        CHECK.good(x, "read", x.read(1, 59), 69);
        CHECK.good(x, "60 of 60", x.pour(0, 0, 1, 0, 60));
        CHECK.good(x, "read", x.read(1, 0), 10);
        x.tray(3, 1, 2);
        CHECK.bad(x, "a short one takes no three", x.pour(0, 0, 3, 0, 3), 4);
        CHECK.bad(x, "a short one gives no three", x.pour(3, 0, 0, 0, 3), 4);
        CHECK.good(x, "but two", x.pour(0, 0, 3, 0, 2));
    }

    private static void pourNothing() {
        CHECK.says("8: so many numbers: none");
        RainJury x = row(2);
        CHECK.good(x, "none", x.pour(0, 0, 1, 0, 0));
        CHECK.good(x, "none, from the last", x.pour(0, 1, 1, 1, 0));
        holds(x, 1, 0, 0);
        CHECK.bad(x, "-1", x.pour(0, 0, 1, 0, -1), 6);
        CHECK.bad(x, "least", x.pour(0, 0, 1, 0, LEAST), 6);
        CHECK.bad(x, "none, from -1", x.pour(0, -1, 1, 0, 0), 4);
        CHECK.bad(x, "none, from beyond the end", x.pour(0, 3, 1, 0, 0), 4);
        x.tray(0, 1, 0);
        CHECK.good(x, "none of an empty one", x.pour(0, 0, 1, 0, 0));
        CHECK.bad(x, "one of an empty one", x.pour(0, 0, 1, 0, 1), 4);
    }

    private static void pourSorts() {
        CHECK.says("part 5: 11 TRAYS of unlike sorts");
        for (int a = 0; a < 4; a++) {
            for (int b = 0; b < 4; b++) {
                RainJury x = new RainJury();
                x.tray(0, a, 1);
                x.tray(1, b, 1);
                x.write(0, 0, 1);
                boolean poured = x.pour(0, 0, 1, 0, 1);
                CHECK.due(x, "pour of sorts " + a + ", " + b, poured ? 1 : 0, a == b ? 1 : 0, a == b ? 0 : 11);
                CHECK.good(x, "read", x.read(1, 0), a == b ? 1 : 0);
            }
        }
    }
}

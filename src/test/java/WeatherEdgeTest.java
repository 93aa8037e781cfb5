/** Promises 46 to 51, WEATHERS and CROPS ahead, a sentence at a time: just within each bound and just beyond it. */
public final class WeatherEdgeTest {
    private static final Check CHECK = new Check("WeatherEdgeTest");
    private static final int MOST = Integer.MAX_VALUE;
    private static final int LEAST = Integer.MIN_VALUE;
    /** From u by GUILTY to v to w, where it stays; from v by FREE back to u; x leads to all, nothing to x. */
    private static final String COURT = "juror a leans 1;weather u;weather v;weather w;weather x;follows u guilty v free u;"
            + "follows v guilty w free u;follows x guilty v free w;crop k on u 1 on v 10 on w less 99;crop l on u less 3 on v less 4;";

    public static void main(String[] args) {
        rowOfNone();
        rowOfSixty();
        rowFromNowOn();
        rowVerdicts();
        rowOrder();
        rowGrowsThisDayFirst();
        rowGrowsOrder();
        wayNumbers();
        wayOfNone();
        wayIsFewest();
        wayWithoutHung();
        wayIsNone();
        harvestNumbers();
        harvestOfOne();
        harvestOfTwenty();
        harvestBelowZero();
        harvestByHung();
        harvestWithoutWeathers();
        harvestNowNumbers();
        harvestNowOfSeveral();
        harvestNowLeads();
        harvestStays();
        reachOfNone();
        reachItself();
        reachAll();
        CHECK.end();
    }

    private static void fill(RainJury x, int tray, int sort, int... verdicts) {
        x.tray(tray, sort, verdicts.length);
        for (int i = 0; i < verdicts.length; i++) {
            x.write(tray, i, verdicts[i]);
        }
    }

    // ---- ROW

    private static void rowOfNone() {
        CHECK.says("46: ROW of the first n (0 to 60) numbers: of none");
        RainJury x = Check.with(COURT);
        x.tray(0, 0, 0);
        CHECK.good(x, "of an empty TRAY", x.row(0, 0), 0);
        CHECK.good(x, "nothing GROWS", x.rowGrows(0, 0, 0), 0);
        x.endDay();
        CHECK.good(x, "of an empty TRAY", x.row(0, 0), 1);
        CHECK.good(x, "nothing GROWS", x.rowGrows(0, 0, 0), 0);
        fill(x, 0, 0, 5, 5);
        CHECK.good(x, "no VERDICT among none", x.row(0, 0), 1);
        CHECK.good(x, "no VERDICT among none", x.rowGrows(0, 0, 0), 0);
    }

    private static void rowOfSixty() {
        CHECK.says("46: ROW of the first n (0 to 60) numbers: of sixty");
        RainJury x = Check.with(COURT);
        x.tray(3, 3, 60);
        x.write(3, 59, 1);
        CHECK.good(x, "the last is GUILTY", x.row(3, 60), 1);
        CHECK.good(x, "without the last", x.row(3, 59), 0);
        CHECK.good(x, "sixty days of u", x.rowGrows(3, 60, 0), 60);
        x.write(3, 0, 1);
        CHECK.good(x, "one of u, 59 of v", x.rowGrows(3, 60, 0), 591);
        CHECK.good(x, "and then w", x.row(3, 60), 2);
        CHECK.bad(x, "61", x.row(3, 61), 4);
        CHECK.bad(x, "61", x.rowGrows(3, 61, 0), 4);
        CHECK.bad(x, "most", x.row(3, MOST), 4);
        CHECK.bad(x, "-1", x.row(3, -1), 5);
        CHECK.bad(x, "least", x.row(3, LEAST), 5);
        CHECK.bad(x, "-1", x.rowGrows(3, -1, 0), 5);
        CHECK.bad(x, "least", x.rowGrows(3, LEAST, 0), 5);
    }

    private static void rowFromNowOn() {
        CHECK.says("ROW: a TRAY of VERDICTS, one a day from now: the WEATHER then");
        RainJury x = Check.with(COURT);
        fill(x, 0, 0, 1, 0, -1, 1, 1, -1);
        int[] fromU = {0, 1, 1, 0, 1, 2, 2};
        int[] fromV = {1, 2, 2, 2, 2, 2, 2};
        for (int n = 0; n <= 6; n++) {
            CHECK.good(x, "from u by " + n, x.row(0, n), fromU[n]);
        }
        x.endDay();
        for (int n = 0; n <= 6; n++) {
            CHECK.good(x, "from v by " + n, x.row(0, n), fromV[n]);
        }
        CHECK.good(x, "it is v", x.many(8), 1);
        CHECK.good(x, "it is DAY 1", x.many(6), 1);
        CHECK.good(x, "read as they were", x.read(0, 2), -1);
    }

    private static void rowVerdicts() {
        CHECK.says("46: 5: n, no VERDICT");
        RainJury x = Check.with(COURT);
        long[] none = {2, -2, 127, -128, 1L << 32, (1L << 32) + 1, -(1L << 32), Long.MAX_VALUE, Long.MIN_VALUE};
        x.tray(0, 3, 3);
        for (long one : none) {
            x.write(0, 2, one);
            CHECK.good(x, "not among the first two", x.row(0, 2), 0);
            CHECK.bad(x, one + " is no VERDICT", x.row(0, 3), 5);
            CHECK.good(x, "not among the first two", x.rowGrows(0, 2, 0), 2);
            CHECK.bad(x, one + " is no VERDICT", x.rowGrows(0, 3, 0), 5);
        }
        for (int one = -1; one <= 1; one++) {
            x.write(0, 2, one);
            CHECK.good(x, one + " is one", x.row(0, 3), one == 1 ? 1 : 0);
        }
        x.write(0, 0, 2);
        CHECK.bad(x, "the first is none", x.row(0, 1), 5);
    }

    private static void rowOrder() {
        CHECK.says("46: (1; 3; 4; 5: n, no VERDICT; 8: no WEATHERS; asked in this order)");
        RainJury x = new RainJury();
        for (int no : new int[] {-1, 4, LEAST, MOST}) {
            CHECK.bad(x, "1 ahead of 5, 8", x.row(no, -1), 1);
        }
        CHECK.bad(x, "3 ahead of 5, 8", x.row(2, -1), 3);
        CHECK.bad(x, "3 ahead of 4", x.row(2, 61), 3);
        fill(x, 2, 0, 1, 5);
        CHECK.bad(x, "4 ahead of 5, 8", x.row(2, 3), 4);
        CHECK.bad(x, "5 (n) ahead of 8", x.row(2, -1), 5);
        CHECK.bad(x, "5 (no VERDICT) ahead of 8", x.row(2, 2), 5);
        CHECK.bad(x, "8", x.row(2, 1), 8);
        CHECK.bad(x, "8 of none", x.row(2, 0), 8);
        Check.court(x, "weather u;");
        CHECK.good(x, "a WEATHER", x.row(2, 1), 0);
    }

    private static void rowGrowsThisDayFirst() {
        CHECK.says("ROW: how much a CROP would GROW in these days (this day's WEATHER first)");
        RainJury x = Check.with(COURT);
        fill(x, 1, 2, 1, 1, 0, -1);
        int[] k = {0, 1, 11, -88, -187};
        int[] l = {0, -3, -7, -7, -7};
        for (int n = 0; n <= 4; n++) {
            CHECK.good(x, "k in " + n, x.rowGrows(1, n, 0), k[n]);
            CHECK.good(x, "l in " + n, x.rowGrows(1, n, 1), l[n]);
        }
        x.endDay();
        CHECK.good(x, "k from v on", x.rowGrows(1, 1, 0), 10);
        CHECK.good(x, "what has GROWN is not in it", x.rowGrows(1, 0, 0), 0);
        CHECK.good(x, "and stays", x.crop(0), 1);
    }

    private static void rowGrowsOrder() {
        CHECK.says("47: (1; 3; 4; 5; 8; 2: asked last)");
        RainJury x = new RainJury();
        CHECK.bad(x, "1 ahead of all", x.rowGrows(4, -1, 9), 1);
        CHECK.bad(x, "1 ahead of all", x.rowGrows(-1, -1, 9), 1);
        CHECK.bad(x, "3 ahead of 5, 8, 2", x.rowGrows(0, -1, 9), 3);
        fill(x, 0, 0, 1, 5);
        CHECK.bad(x, "4 ahead of 5, 8, 2", x.rowGrows(0, 3, 9), 4);
        CHECK.bad(x, "5 (n) ahead of 8, 2", x.rowGrows(0, -1, 9), 5);
        CHECK.bad(x, "5 (no VERDICT) ahead of 8, 2", x.rowGrows(0, 2, 9), 5);
        CHECK.bad(x, "8 ahead of 2", x.rowGrows(0, 1, 9), 8);
        CHECK.bad(x, "8 ahead of 2", x.rowGrows(0, 0, 0), 8);
        Check.court(x, "weather u;crop k;crop l on u 7;");
        CHECK.bad(x, "5 ahead of 2", x.rowGrows(0, 2, 2), 5);
        for (int no : new int[] {-1, 2, 4, LEAST, MOST}) {
            CHECK.bad(x, "2: crop " + no, x.rowGrows(0, 1, no), 2);
            CHECK.bad(x, "2 of none", x.rowGrows(0, 0, no), 2);
        }
        CHECK.good(x, "the first", x.rowGrows(0, 1, 0), 0);
        CHECK.good(x, "the last", x.rowGrows(0, 1, 1), 7);
    }

    // ---- WAY

    private static void wayNumbers() {
        CHECK.says("48: WAY to a WEATHER (2)");
        RainJury x = Check.with(COURT);
        for (int no : new int[] {-1, 4, 6, 31, 32, 64, LEAST, MOST}) {
            CHECK.bad(x, "way(" + no + ")", x.way(no), 2);
        }
        CHECK.good(x, "the first", x.way(0), 0);
        CHECK.bad(x, "the last", x.way(3), 8);
        RainJury y = new RainJury();
        CHECK.bad(y, "no WEATHERS", y.way(0), 2);
    }

    private static void wayOfNone() {
        CHECK.says("48: days (0: it is)");
        RainJury x = Check.with(COURT);
        for (int day = 0; day < 3; day++) {
            CHECK.good(x, "way(" + day + ")", x.way(day), 0);
            x.endDay();
        }
        CHECK.good(x, "all stays", x.many(8), 2);
    }

    private static void wayIsFewest() {
        CHECK.says("WAY: the fewest days (by any VERDICTS but HUNG)");
        RainJury x = Check.with("weather a;weather b;weather c;weather d;weather e;weather f;follows a guilty b free a;"
                + "follows b guilty b free c;follows c guilty d free a;follows d guilty a free e;follows e guilty f free f;");
        for (int i = 0; i < 6; i++) {
            CHECK.good(x, "five days at the most: way(" + i + ")", x.way(i), i);
        }
        Check.court(x, "weather a;weather b;weather c;weather d;weather e;weather f;follows a guilty b free e;"
                + "follows b guilty c free c;follows c guilty d free d;follows d guilty e free f;follows e guilty d free b;");
        int[] want = {0, 1, 2, 2, 1, 3};
        for (int i = 0; i < 6; i++) {
            CHECK.good(x, "the shorter one: way(" + i + ")", x.way(i), want[i]);
        }
    }

    private static void wayWithoutHung() {
        CHECK.says("WAY: from where one is, by GUILTY or FREE");
        RainJury x = Check.with("juror a leans 1;" + "weather u;weather v;follows u guilty u free v;follows v guilty u free v;");
        CHECK.good(x, "by FREE", x.way(1), 1);
        x.strike(0);
        x.lean(0, 0);
        x.seat(0);
        x.endDay();
        CHECK.good(x, "back by GUILTY", x.way(0), 1);
        CHECK.good(x, "there", x.way(1), 0);
    }

    private static void wayIsNone() {
        CHECK.says("48: 8: none");
        RainJury x = Check.with(COURT);
        CHECK.bad(x, "to x", x.way(3), 8);
        x.endDay();
        CHECK.good(x, "back to u", x.way(0), 1);
        x.endDay();
        for (int i = 0; i < 4; i++) {
            CHECK.due(x, "from w to " + i, x.way(i), i == 2 ? 0 : -1, i == 2 ? 0 : 8);
        }
        RainJury alone = Check.with("weather u;weather v;");
        CHECK.bad(alone, "all stay as they are", alone.way(1), 8);
    }

    // ---- HARVEST

    private static void harvestNumbers() {
        CHECK.says("HARVEST of n days (1 to 20); 49: (2; 5)");
        RainJury x = Check.with(COURT);
        for (int no : new int[] {-1, 2, 4, LEAST, MOST}) {
            CHECK.bad(x, "crop " + no, x.harvest(no, 1), 2);
            CHECK.bad(x, "2 ahead of 5", x.harvest(no, 0), 2);
        }
        for (int no : new int[] {-1, 0, 21, LEAST, MOST}) {
            CHECK.bad(x, "days " + no, x.harvest(0, no), 5);
        }
        CHECK.good(x, "1", x.harvest(1, 1), -3);
        CHECK.good(x, "20", x.harvest(0, 20), 191);
    }

    private static void harvestOfOne() {
        CHECK.says("HARVEST: from now: of one day what this WEATHER gives");
        RainJury x = Check.with(COURT);
        int[] k = {1, 10, -99};
        int[] l = {-3, -4, 0};
        for (int day = 0; day < 3; day++) {
            CHECK.good(x, "k", x.harvest(0, 1), k[day]);
            CHECK.good(x, "l", x.harvest(1, 1), l[day]);
            x.endDay();
        }
    }

    private static void harvestOfTwenty() {
        CHECK.says("HARVEST: the most that a CROP can GROW in n days");
        RainJury x = Check.with("weather a;weather b;weather c;weather d;weather e;weather f;follows a guilty b free a;follows b guilty c free a;"
                + "follows c guilty d free a;follows d guilty e free a;follows e guilty f free a;follows f guilty f free f;"
                + "crop k on a 5 on f 99;crop l on a 1 on b less 50 on f 99;");
        for (int days = 1; days <= 20; days++) {
            int toF = 5 + 99 * (days - 5);
            CHECK.good(x, "k in " + days, x.harvest(0, days), Math.max(5 * days, toF));
            int through = -49 + 99 * (days - 5);
            CHECK.good(x, "l in " + days, x.harvest(1, days), Math.max(days, through));
        }
        RainJury y = Check.with("weather a;crop k on a 99;crop l on a less 99;");
        CHECK.good(y, "the greatest", y.harvest(0, 20), 1980);
        CHECK.good(y, "the least", y.harvest(1, 20), -1980);
    }

    private static void harvestBelowZero() {
        CHECK.says("HARVEST: below 0, too");
        RainJury x = Check.with("weather u;weather v;follows u guilty v free u;crop k on u less 1 on v less 2;");
        for (int days = 1; days <= 20; days++) {
            CHECK.good(x, "in " + days, x.harvest(0, days), -days);
        }
    }

    private static void harvestByHung() {
        CHECK.says("HARVEST: by any VERDICTS (HUNG, too)");
        RainJury x = Check.with("weather u;weather v;follows u guilty v free v;follows v guilty u free u;crop k on u 5 on v less 5;");
        CHECK.good(x, "HUNG each day", x.harvest(0, 20), 100);
        CHECK.good(x, "HUNG now", x.harvestNow(0, 20), 0);
    }

    private static void harvestWithoutWeathers() {
        CHECK.says("49, 50: 8: no WEATHERS");
        RainJury x = Check.with("crop k;");
        CHECK.bad(x, "harvest", x.harvest(0, 1), 8);
        CHECK.bad(x, "harvestNow", x.harvestNow(0, 1), 8);
        CHECK.bad(x, "5 ahead of 8", x.harvest(0, 0), 5);
        CHECK.bad(x, "5 ahead of 8", x.harvestNow(0, 21), 5);
        CHECK.bad(x, "2 ahead of 8", x.harvest(1, 1), 2);
        CHECK.bad(x, "2 ahead of 8", x.harvestNow(1, 1), 2);
    }

    private static void harvestNowNumbers() {
        CHECK.says("50: the VERDICT of this day in HARVEST (2; 5)");
        RainJury x = Check.with(COURT);
        for (int no : new int[] {-1, 2, 4, LEAST, MOST}) {
            CHECK.bad(x, "crop " + no, x.harvestNow(no, 1), 2);
            CHECK.bad(x, "2 ahead of 5", x.harvestNow(no, 0), 2);
        }
        for (int no : new int[] {-1, 0, 21, LEAST, MOST}) {
            CHECK.bad(x, "days " + no, x.harvestNow(0, no), 5);
        }
        CHECK.good(x, "20", x.harvestNow(0, 20), 1);
    }

    private static void harvestNowOfSeveral() {
        CHECK.says("50: of several the greatest");
        RainJury x = Check.with("weather u;weather v;weather w;follows u guilty v free w;crop k;crop l on v less 1;"
                + "crop m on u less 1 on v less 1;crop n on v 5 on w 5;");
        for (int crop = 0; crop < 4; crop++) {
            CHECK.good(x, "one day: all are as good", x.harvestNow(crop, 1), 1);
        }
        CHECK.good(x, "all", x.harvestNow(0, 2), 1);
        CHECK.good(x, "HUNG and FREE", x.harvestNow(1, 2), 0);
        CHECK.good(x, "FREE alone", x.harvestNow(2, 2), -1);
        CHECK.good(x, "GUILTY and FREE", x.harvestNow(3, 2), 1);
    }

    private static void harvestNowLeads() {
        CHECK.says("50: what is best of n days, not of one more or less");
        RainJury x = Check.with("weather u;weather v;weather w;weather x;follows u guilty v free u;follows v guilty w free w;"
                + "follows w guilty x free x;crop k on u 1 on v less 9 on w 20;");
        CHECK.good(x, "u for two days", x.harvestNow(0, 2), 0);
        CHECK.good(x, "by v to w in three", x.harvestNow(0, 3), 1);
        CHECK.good(x, "by v to w in four", x.harvestNow(0, 4), 1);
        CHECK.good(x, "w stays w", x.harvest(0, 4), 1 - 9 + 20 + 20);
    }

    private static void harvestStays() {
        CHECK.says("49: can GROW from now: nothing GROWS by it");
        RainJury x = Check.with(COURT);
        x.endDay();
        x.harvest(0, 20);
        x.harvestNow(0, 20);
        CHECK.good(x, "WEATHER", x.many(8), 1);
        CHECK.good(x, "DAY", x.many(6), 1);
        CHECK.good(x, "crop(0)", x.crop(0), 1);
        CHECK.good(x, "what has GROWN is not in it", x.harvest(0, 1), 10);
    }

    // ---- reach

    private static void reachOfNone() {
        CHECK.says("51: the set of WEATHERS: of none");
        RainJury x = new RainJury();
        CHECK.good(x, "reach()", x.reach(), 0);
        Check.court(x, COURT);
        x.endDay();
        Check.court(x, "juror a;");
        CHECK.good(x, "reach()", x.reach(), 0);
    }

    private static void reachItself() {
        CHECK.says("51: (this one, too)");
        RainJury x = Check.with("juror a leans 1;weather u;weather v;follows u guilty v free v;");
        CHECK.good(x, "u by HUNG", x.reach(), 3);
        x.endDay();
        CHECK.good(x, "v alone", x.reach(), 2);
        RainJury y = Check.with("weather u;");
        CHECK.good(y, "one", y.reach(), 1);
    }

    private static void reachAll() {
        CHECK.says("51: that can come from now on, by any VERDICTS, sooner or later");
        RainJury x = Check.with("juror z;weather a;weather b;weather c;weather d;weather e;weather f;follows a guilty a free f;"
                + "follows f guilty e free f;follows e guilty e free d;follows d guilty c free d;follows c guilty c free b;");
        int[] want = {63, 62};
        for (int day = 0; day < 2; day++) {
            CHECK.good(x, "reach()", x.reach(), want[day]);
            x.endDay();
        }
        RainJury y = Check.with(COURT);
        int[] from = {7, 7, 4};
        for (int day = 0; day < 3; day++) {
            CHECK.good(y, "reach()", y.reach(), from[day]);
            y.endDay();
        }
    }
}

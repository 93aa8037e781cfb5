/** Promises 46 to 51: rows of VERDICTS, ways, harvests, what can come. */
public final class WeatherTest {
    private static final Check CHECK = new Check("WeatherTest");
    private static final String WEATHERS = "weather u;weather v;weather w;weather x;follows u guilty v free u;"
            + "follows v guilty w free u;follows w guilty w free w;follows x guilty u free v;";

    public static void main(String[] args) {
        rows();
        rowFaults();
        ways();
        harvests();
        harvestsNow();
        reaches();
        CHECK.end();
    }

    private static void fill(RainJury x, int tray, int sort, int... verdicts) {
        x.tray(tray, sort, verdicts.length);
        for (int i = 0; i < verdicts.length; i++) {
            x.write(tray, i, verdicts[i]);
        }
    }

    private static void rows() {
        RainJury x = Check.with("juror a leans 1;" + WEATHERS + "crop c on u 1 on v 10 on w less 99;");
        int[] verdicts = {1, 0, -1, -1, 1, 1, 1, -1};
        int[] weathers = {0, 1, 1, 0, 0, 1, 2, 2, 2};
        int[] grown = {0, 1, 11, 21, 22, 23, 33, -66, -165};
        for (int sort = 0; sort < 4; sort++) {
            fill(x, sort, sort, verdicts);
            for (int n = 0; n <= 8; n++) {
                CHECK.good(x, "row of " + n, x.row(sort, n), weathers[n]);
                CHECK.good(x, "rowGrows of " + n, x.rowGrows(sort, n, 0), grown[n]);
            }
        }
        CHECK.good(x, "all stays", x.many(8), 0);
        CHECK.good(x, "all stays", x.crop(0), 0);
        x.endDay();
        CHECK.good(x, "from now on", x.row(0, 1), 2);
        CHECK.good(x, "from now on", x.rowGrows(0, 2, 0), -89);
        x.tray(3, 3, 60);
        CHECK.good(x, "row of 60", x.row(3, 60), 1);
        CHECK.good(x, "rowGrows of 60", x.rowGrows(3, 60, 0), 600);
    }

    private static void rowFaults() {
        RainJury x = Check.with(WEATHERS + "crop c;");
        fill(x, 0, 3, 1, 0, 2, -2);
        x.tray(1, 2, 60);
        CHECK.bad(x, "tray 4", x.row(4, -1), 1);
        CHECK.bad(x, "tray -1", x.row(-1, 0), 1);
        CHECK.bad(x, "missing", x.row(2, -1), 3);
        CHECK.bad(x, "too few", x.row(0, 5), 4);
        CHECK.bad(x, "too few ahead of 61", x.row(1, 61), 4);
        CHECK.bad(x, "n -1", x.row(0, -1), 5);
        CHECK.good(x, "n 2", x.row(0, 2), 1);
        CHECK.bad(x, "2", x.row(0, 3), 5);
        x.write(0, 2, 0);
        CHECK.bad(x, "-2", x.row(0, 4), 5);
        x.write(0, 3, 1L << 32);
        CHECK.bad(x, "a great number", x.row(0, 4), 5);
        CHECK.bad(x, "rowGrows, tray 4", x.rowGrows(4, -1, 9), 1);
        CHECK.bad(x, "rowGrows, missing", x.rowGrows(2, -1, 9), 3);
        CHECK.bad(x, "rowGrows, too few", x.rowGrows(0, 5, 9), 4);
        CHECK.bad(x, "rowGrows, n -1", x.rowGrows(0, -1, 9), 5);
        CHECK.bad(x, "rowGrows, no VERDICT", x.rowGrows(0, 4, 9), 5);
        CHECK.bad(x, "rowGrows, crop 1", x.rowGrows(0, 2, 1), 2);
        CHECK.bad(x, "rowGrows, crop -1", x.rowGrows(0, 2, -1), 2);
        CHECK.good(x, "rowGrows", x.rowGrows(0, 2, 0), 0);
        RainJury y = Check.with("crop c;");
        fill(y, 0, 0, 1, 2);
        CHECK.bad(y, "no WEATHERS", y.row(0, 0), 8);
        CHECK.bad(y, "5 ahead of 8", y.row(0, 2), 5);
        CHECK.bad(y, "8 ahead of 2", y.rowGrows(0, 1, 3), 8);
        CHECK.bad(y, "5 ahead of 8", y.rowGrows(0, 2, 0), 5);
    }

    private static void ways() {
        RainJury x = Check.with("juror a leans 1;" + WEATHERS);
        int[] due = {0, 1, 2, -1};
        for (int i = 0; i < 4; i++) {
            CHECK.due(x, "way(" + i + ")", x.way(i), due[i], due[i] < 0 ? 8 : 0);
        }
        CHECK.bad(x, "way(4)", x.way(4), 2);
        CHECK.bad(x, "way(-1)", x.way(-1), 2);
        x.endDay();
        CHECK.good(x, "back to u", x.way(0), 1);
        CHECK.good(x, "v", x.way(1), 0);
        x.endDay();
        CHECK.bad(x, "no way from w", x.way(0), 8);
        RainJury ring = Check.with("weather a;weather b;weather c;weather d;weather e;weather f;follows a guilty a free b;"
                + "follows b guilty a free c;follows c guilty a free d;follows d guilty e free a;follows e guilty f free a;");
        for (int i = 0; i < 6; i++) {
            CHECK.good(ring, "way(" + i + ")", ring.way(i), i);
        }
        CHECK.good(ring, "reach()", ring.reach(), 63);
    }

    private static void harvests() {
        RainJury x = Check.with("juror a leans 1;" + WEATHERS + "crop c on u 1 on v 10 on w less 9;crop d on u less 5 on v less 6;"
                + "crop e;");
        int[] most = {1, 11, 21, 31};
        for (int n = 1; n <= 4; n++) {
            CHECK.good(x, "harvest(0, " + n + ")", x.harvest(0, n), most[n - 1]);
        }
        CHECK.good(x, "harvest(0, 20)", x.harvest(0, 20), 191);
        CHECK.good(x, "below 0", x.harvest(1, 1), -5);
        CHECK.good(x, "to w", x.harvest(1, 3), -11);
        CHECK.good(x, "stays at u", x.harvest(1, 2), -10);
        CHECK.good(x, "to w", x.harvest(1, 20), -11);
        CHECK.good(x, "nothing", x.harvest(2, 20), 0);
        CHECK.bad(x, "harvest(3, 0)", x.harvest(3, 0), 2);
        CHECK.bad(x, "harvest(-1, 1)", x.harvest(-1, 1), 2);
        CHECK.bad(x, "harvest(0, 0)", x.harvest(0, 0), 5);
        CHECK.bad(x, "harvest(0, 21)", x.harvest(0, 21), 5);
        CHECK.bad(x, "harvest(0, -1)", x.harvest(0, -1), 5);
        x.endDay();
        CHECK.good(x, "from v, HUNG", x.harvest(0, 3), 30);
        CHECK.good(x, "all stays", x.crop(0), 1);
        RainJury y = Check.with("crop c;");
        CHECK.bad(y, "no WEATHERS", y.harvest(0, 1), 8);
        CHECK.bad(y, "5 ahead of 8", y.harvest(0, 21), 5);
        CHECK.bad(y, "no WEATHERS", y.harvestNow(0, 1), 8);
    }

    private static void harvestsNow() {
        RainJury x = Check.with("juror a leans 1;" + WEATHERS + "crop c on u 1 on v 10 on w less 9;crop d on u less 5 on v less 6;"
                + "crop e on u 7;");
        CHECK.good(x, "all alike", x.harvestNow(0, 1), 1);
        CHECK.good(x, "to v", x.harvestNow(0, 2), 1);
        CHECK.good(x, "u stays", x.harvestNow(1, 2), 0);
        CHECK.good(x, "to w", x.harvestNow(1, 3), 1);
        CHECK.good(x, "u stays", x.harvestNow(2, 20), 0);
        x.endDay();
        CHECK.good(x, "v stays", x.harvestNow(0, 5), 0);
        CHECK.good(x, "all alike", x.harvestNow(0, 1), 1);
        CHECK.good(x, "back to u", x.harvestNow(2, 2), -1);
        CHECK.bad(x, "harvestNow(3, 0)", x.harvestNow(3, 0), 2);
        CHECK.bad(x, "harvestNow(0, 0)", x.harvestNow(0, 0), 5);
        CHECK.bad(x, "harvestNow(0, 21)", x.harvestNow(0, 21), 5);
    }

    private static void reaches() {
        RainJury x = Check.with("juror a leans 1;" + WEATHERS);
        CHECK.good(x, "reach() from u", x.reach(), 7);
        x.endDay();
        CHECK.good(x, "reach() from v", x.reach(), 7);
        x.endDay();
        CHECK.good(x, "reach() from w", x.reach(), 4);
        RainJury y = new RainJury();
        CHECK.good(y, "no WEATHERS", y.reach(), 0);
    }
}

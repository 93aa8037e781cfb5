/** Promises 13 to 20, what a COURT tells, a sentence at a time: just within each bound and just beyond it. */
public final class TellEdgeTest {
    private static final Check CHECK = new Check("TellEdgeTest");
    private static final int MOST = Integer.MAX_VALUE;
    private static final int LEAST = Integer.MIN_VALUE;
    private static final String COURT = "juror a leans less 1 stubborn 20 price 99;juror b leans 99;juror c;sways a b 20;sways c b 1;"
            + "proof p less 1;proof q 99;weather u;weather v;follows u guilty v free u;crop k on u less 1 on v 99;crop l;";

    public static void main(String[] args) {
        manyWhats();
        manyHunger();
        manyWeather();
        manyDayAndRound();
        manyCoins();
        manySets();
        jurorNumbers();
        jurorWhats();
        leaningAndTold();
        swayNumbers();
        swayOfItself();
        proofNumbers();
        followsNumbers();
        followsVerdicts();
        growsNumbers();
        cropNumbers();
        cropIsNone();
        copyOrder();
        copyAll();
        copyTooFew();
        copyOfNobody();
        CHECK.end();
    }

    private static void manyWhats() {
        CHECK.says("13: what 0 to 11 (5)");
        RainJury x = Check.with(COURT + "hunger 5;law all;");
        int[] want = {3, 2, 2, 2, 5, 1, 0, 0, 0, 0, 7, 0};
        for (int what = 0; what <= 11; what++) {
            CHECK.good(x, "many(" + what + ")", x.many(what), want[what]);
        }
        for (int what : new int[] {-1, 12, 13, LEAST, MOST}) {
            CHECK.bad(x, "many(" + what + ")", x.many(what), 5);
        }
    }

    private static void manyHunger() {
        CHECK.says("13: HUNGER (4; 8: never)");
        RainJury x = Check.with("hunger 1;");
        CHECK.good(x, "1", x.many(4), 1);
        Check.court(x, "hunger 99;");
        CHECK.good(x, "99", x.many(4), 99);
        Check.court(x, "juror a;");
        CHECK.bad(x, "never", x.many(4), 8);
    }

    private static void manyWeather() {
        CHECK.says("13: the WEATHER (8; 8: there are none)");
        RainJury x = Check.with("juror a leans 1;weather u;weather v;follows u guilty v free u;");
        CHECK.good(x, "the first", x.many(8), 0);
        x.endDay();
        CHECK.good(x, "the next", x.many(8), 1);
        Check.court(x, "juror a leans 1;");
        CHECK.bad(x, "none", x.many(8), 8);
        x.endDay();
        CHECK.bad(x, "none on the next day", x.many(8), 8);
        Check.court(x, "juror a leans 1;weather u;weather v;");
        CHECK.good(x, "the first of a new COURT", x.many(8), 0);
    }

    private static void manyDayAndRound() {
        CHECK.says("13: the DAY (6), the ROUND (7)");
        RainJury x = Check.with(COURT);
        for (int day = 0; day < 3; day++) {
            for (int round = 0; round < 3; round++) {
                CHECK.good(x, "DAY", x.many(6), day);
                CHECK.good(x, "ROUND", x.many(7), round);
                x.talk(1);
            }
            x.endDay();
        }
    }

    private static void manyCoins() {
        CHECK.says("13: COINS spent (9)");
        RainJury x = Check.with(COURT);
        CHECK.good(x, "none", x.many(9), 0);
        x.bribe(2, 1);
        CHECK.good(x, "for nothing", x.many(9), 0);
        x.bribe(0, 1);
        CHECK.good(x, "99", x.many(9), 99);
        x.bribe(0, -1);
        CHECK.good(x, "198", x.many(9), 198);
    }

    private static void manySets() {
        CHECK.says("13: sets of JURORS SEATED (10: 1 for JUROR 0 ..), of PROOFS SHOWN (11)");
        RainJury x = Check.with("juror a;juror b;juror c;juror d;juror e;juror f;juror g;juror h;juror i;juror j;"
                + "proof k 1;proof l 1;proof m 1;proof n 1;proof o 1;proof p 1;");
        int seated = 1023;
        for (int i = 9; i >= 0; i--) {
            CHECK.good(x, "SEATED", x.many(10), seated);
            x.strike(i);
            seated -= 1 << i;
        }
        CHECK.good(x, "nobody", x.many(10), 0);
        int shown = 0;
        for (int i = 5; i >= 0; i--) {
            CHECK.good(x, "SHOWN", x.many(11), shown);
            x.show(i);
            shown += 1 << i;
        }
        CHECK.good(x, "all", x.many(11), 63);
        x.endDay();
        CHECK.good(x, "SEATED again", x.many(10), 1023);
        CHECK.good(x, "none SHOWN", x.many(11), 0);
        Check.court(x, "");
        CHECK.good(x, "nobody", x.many(10), 0);
        CHECK.good(x, "none", x.many(11), 0);
    }

    private static void jurorNumbers() {
        CHECK.says("14: of a JUROR (2)");
        RainJury x = Check.with(COURT);
        CHECK.good(x, "the first", x.juror(0, 2), 20);
        CHECK.good(x, "the last", x.juror(2, 2), 0);
        for (int juror : new int[] {-1, 3, 9, 10, LEAST, MOST}) {
            CHECK.bad(x, "juror(" + juror + ", 0)", x.juror(juror, 0), 2);
            CHECK.bad(x, "2 ahead of 5", x.juror(juror, 4), 2);
        }
        RainJury nobody = new RainJury();
        CHECK.bad(nobody, "of nobody", nobody.juror(0, 0), 2);
    }

    private static void jurorWhats() {
        CHECK.says("14: what 0: LEANING, 1: as told, 2: STUBBORN, 3: PRICE (5)");
        RainJury x = Check.with(COURT);
        x.lean(0, 50);
        int[] want = {50, -1, 20, 99};
        for (int what = 0; what < 4; what++) {
            CHECK.good(x, "juror(0, " + what + ")", x.juror(0, what), want[what]);
        }
        for (int what : new int[] {-1, 4, LEAST, MOST}) {
            CHECK.bad(x, "juror(0, " + what + ")", x.juror(0, what), 5);
        }
    }

    private static void leaningAndTold() {
        CHECK.says("part 5: STATUS tells NONE from -1 wherever an answer may be below 0 (LEANINGS, VERDICTS, CROPS)");
        RainJury x = Check.with(COURT);
        x.tray(0, 0, 1);
        CHECK.bad(x, "ahead of each", x.back(), 8);
        CHECK.good(x, "juror(0, 0)", x.juror(0, 0), -1);
        x.back();
        CHECK.good(x, "juror(0, 1)", x.juror(0, 1), -1);
        x.back();
        CHECK.good(x, "proof(0)", x.proof(0), -1);
        x.back();
        CHECK.good(x, "grows(0, 0)", x.grows(0, 0), -1);
        x.back();
        CHECK.good(x, "verdict()", x.verdict(), -1);
        x.back();
        CHECK.good(x, "verdictBy(0)", x.verdictBy(0), -1);
        x.back();
        CHECK.good(x, "after(0)", x.after(0), -1);
        x.back();
        CHECK.good(x, "pull(1)", x.pull(1), -20);
        x.back();
        CHECK.good(x, "strikes(1)", x.strikes(1), -1);
        x.back();
        CHECK.good(x, "rowGrows(0, 1, 0)", x.rowGrows(0, 1, 0), -1);
        x.back();
        CHECK.good(x, "harvest(0, 1)", x.harvest(0, 1), -1);
        x.back();
        CHECK.good(x, "talk(1)", x.talk(1), -1);
        x.back();
        CHECK.good(x, "endDay()", x.endDay(), -1);
        x.back();
        CHECK.good(x, "crop(0)", x.crop(0), -1);
    }

    private static void swayNumbers() {
        CHECK.says("15: by how much the first JUROR sways the second (2)");
        RainJury x = Check.with(COURT);
        CHECK.good(x, "sways(0, 1)", x.sways(0, 1), 20);
        CHECK.good(x, "sways(1, 0)", x.sways(1, 0), 0);
        CHECK.good(x, "sways(2, 1)", x.sways(2, 1), 1);
        for (int juror : new int[] {-1, 3, 10, LEAST, MOST}) {
            CHECK.bad(x, "sways(" + juror + ", 0)", x.sways(juror, 0), 2);
            CHECK.bad(x, "sways(0, " + juror + ")", x.sways(0, juror), 2);
        }
    }

    private static void swayOfItself() {
        CHECK.says("15: 5: one and itself");
        RainJury x = Check.with(COURT);
        for (int i = 0; i < 3; i++) {
            CHECK.bad(x, "sways(" + i + ", " + i + ")", x.sways(i, i), 5);
        }
        CHECK.bad(x, "2 ahead of 5", x.sways(3, 3), 2);
        CHECK.bad(x, "2 ahead of 5", x.sways(-1, -1), 2);
    }

    private static void proofNumbers() {
        CHECK.says("16: the WEIGHT of a PROOF (2)");
        RainJury x = Check.with(COURT);
        CHECK.good(x, "the first", x.proof(0), -1);
        CHECK.good(x, "the last", x.proof(1), 99);
        for (int proof : new int[] {-1, 2, 6, LEAST, MOST}) {
            CHECK.bad(x, "proof(" + proof + ")", x.proof(proof), 2);
        }
    }

    private static void followsNumbers() {
        CHECK.says("17: the WEATHER behind one (2)");
        RainJury x = Check.with(COURT);
        CHECK.good(x, "the first", x.follows(0, 1), 1);
        CHECK.good(x, "the last", x.follows(1, 1), 1);
        for (int weather : new int[] {-1, 2, 6, LEAST, MOST}) {
            CHECK.bad(x, "follows(" + weather + ", 0)", x.follows(weather, 0), 2);
            CHECK.bad(x, "2 ahead of 5", x.follows(weather, 2), 2);
        }
    }

    private static void followsVerdicts() {
        CHECK.says("17: by a VERDICT (-1, 0, 1) (5); HUNG: it stays");
        RainJury x = Check.with("weather u;weather v;weather w;follows u guilty v free w;follows v guilty w free u;");
        int[][] want = {{2, 0, 1}, {0, 1, 2}, {2, 2, 2}};
        for (int i = 0; i < 3; i++) {
            for (int verdict = -1; verdict <= 1; verdict++) {
                CHECK.good(x, "follows(" + i + ", " + verdict + ")", x.follows(i, verdict), want[i][verdict + 1]);
            }
            for (int verdict : new int[] {-2, 2, LEAST, MOST}) {
                CHECK.bad(x, "follows(" + i + ", " + verdict + ")", x.follows(i, verdict), 5);
            }
        }
    }

    private static void growsNumbers() {
        CHECK.says("18: by how much a CROP GROWS on a day of a WEATHER (2)");
        RainJury x = Check.with(COURT);
        int[][] want = {{-1, 99}, {0, 0}};
        for (int i = 0; i < 2; i++) {
            for (int k = 0; k < 2; k++) {
                CHECK.good(x, "grows(" + i + ", " + k + ")", x.grows(i, k), want[i][k]);
            }
        }
        for (int no : new int[] {-1, 2, 4, 6, LEAST, MOST}) {
            CHECK.bad(x, "grows(" + no + ", 0)", x.grows(no, 0), 2);
            CHECK.bad(x, "grows(0, " + no + ")", x.grows(0, no), 2);
            CHECK.bad(x, "grows(" + no + ", " + no + ")", x.grows(no, no), 2);
        }
        RainJury y = Check.with("crop k;");
        CHECK.bad(y, "no WEATHERS", y.grows(0, 0), 2);
    }

    private static void cropNumbers() {
        CHECK.says("19: how much a CROP has GROWN (2)");
        RainJury x = Check.with(COURT);
        for (int no : new int[] {-1, 2, 4, LEAST, MOST}) {
            CHECK.bad(x, "crop(" + no + ")", x.crop(no), 2);
        }
        for (int day = 0; day < 4; day++) {
            CHECK.good(x, "crop(0)", x.crop(0), -day);
            CHECK.good(x, "crop(1)", x.crop(1), 0);
            x.endDay();
        }
    }

    private static void cropIsNone() {
        CHECK.says("19: 2: no CROPS");
        RainJury x = Check.with("weather u;");
        CHECK.bad(x, "crop(0)", x.crop(0), 2);
        CHECK.bad(x, "grows(0, 0)", x.grows(0, 0), 2);
    }

    private static void copyOrder() {
        CHECK.says("20: (1; 3; 4; asked in this order)");
        RainJury x = Check.with(COURT);
        CHECK.bad(x, "-1", x.copyLeanings(-1), 1);
        CHECK.bad(x, "4", x.copyLeanings(4), 1);
        CHECK.bad(x, "MISSING", x.copyLeanings(3), 3);
        x.tray(3, 0, 2);
        CHECK.bad(x, "too short", x.copyLeanings(3), 4);
        x.tray(3, 0, 3);
        CHECK.good(x, "just long enough", x.copyLeanings(3), 3);
    }

    private static void copyAll() {
        CHECK.says("20: all LEANINGS come to a TRAY: how many");
        RainJury x = Check.with("juror a leans 99;juror b leans less 99;juror c;");
        for (int sort = 0; sort < 4; sort++) {
            x.tray(sort, sort, 5);
            for (int i = 0; i < 5; i++) {
                x.write(sort, i, 55);
            }
            x.strike(1);
            CHECK.good(x, "copyLeanings(" + sort + ")", x.copyLeanings(sort), 3);
            long[] want = {99, -99, 0, 55, 55};
            for (int i = 0; i < 5; i++) {
                CHECK.good(x, "read(" + sort + ", " + i + ")", x.read(sort, i), want[i]);
            }
        }
    }

    private static void copyTooFew() {
        CHECK.says("part 5: 4: too few numbers");
        RainJury x = Check.with("juror a leans 9;juror b leans 9;juror c leans 9;juror d leans 9;juror e leans 9;"
                + "juror f leans 9;juror g leans 9;juror h leans 9;juror i leans 9;juror j leans 9;");
        for (int many = 0; many <= 60; many += many == 11 ? 49 : 1) {
            x.tray(0, 0, many);
            CHECK.due(x, "a TRAY of " + many, x.copyLeanings(0), many < 10 ? -1 : 10, many < 10 ? 4 : 0);
            for (int i = 0; i < many; i++) {
                CHECK.good(x, "read", x.read(0, i), many < 10 || i >= 10 ? 0 : 9);
            }
        }
    }

    private static void copyOfNobody() {
        CHECK.says("20: how many: of nobody 0");
        RainJury x = new RainJury();
        CHECK.bad(x, "MISSING", x.copyLeanings(0), 3);
        x.tray(0, 0, 0);
        CHECK.good(x, "an empty TRAY", x.copyLeanings(0), 0);
        x.tray(0, 0, 1);
        x.write(0, 0, 5);
        CHECK.good(x, "one number", x.copyLeanings(0), 0);
        CHECK.good(x, "it stays", x.read(0, 0), 5);
    }
}

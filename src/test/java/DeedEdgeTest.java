/** Promises 21 to 27 and part 2, what is done, a sentence at a time: just within each bound and just beyond it. */
public final class DeedEdgeTest {
    private static final Check CHECK = new Check("DeedEdgeTest");
    private static final int MOST = Integer.MAX_VALUE;
    private static final int LEAST = Integer.MIN_VALUE;

    public static void main(String[] args) {
        showNumbers();
        showOnceADay();
        showSeated();
        showStubborn();
        showIsCut();
        showCounts();
        talkNumbers();
        talkJurorByJuror();
        talkSwayersLean();
        talkSeatedSwayers();
        talkStubborn();
        talkIsCut();
        talkTells();
        talkOfNobody();
        hungerFromItsRound();
        hungerSides();
        hungerAlike();
        hungerIsCut();
        hungerVotesAsTheyAre();
        roundLimit();
        roundIsOfTheDay();
        dayTells();
        dayGrows();
        dayGrowsFour();
        dayWeather();
        dayBeginsAnew();
        dayWithoutThings();
        dayLimit();
        strikes();
        seats();
        seatsAsItLeans();
        bribeNumbers();
        bribeSides();
        bribeSpends();
        bribeLimit();
        bribeSeated();
        bribeOrder();
        leanNumbers();
        leanThisDay();
        leanUnseated();
        CHECK.end();
    }

    private static void leanings(RainJury x, String when, int... want) {
        for (int i = 0; i < want.length; i++) {
            CHECK.good(x, "juror(" + i + ", 0), " + when, x.juror(i, 0), want[i]);
        }
    }

    // ---- SHOW

    private static void showNumbers() {
        CHECK.says("21: SHOW (2)");
        RainJury x = Check.with("juror a;proof p 1;proof q 2;");
        for (int proof : new int[] {-1, 2, 6, 31, 32, LEAST, MOST}) {
            CHECK.bad(x, "show(" + proof + ")", x.show(proof), 2);
        }
        leanings(x, "nobody moved", 0);
        CHECK.good(x, "none SHOWN", x.many(11), 0);
        CHECK.good(x, "the last", x.show(1), 1);
        CHECK.good(x, "the first", x.show(0), 1);
        for (int proof : new int[] {-32, -31, -1, 2, 32, 33, 64, LEAST, LEAST + 1, MOST}) {
            CHECK.bad(x, "show(" + proof + "), all SHOWN", x.show(proof), 2);
        }
        RainJury y = Check.with("juror a;");
        CHECK.bad(y, "no PROOFS", y.show(0), 2);
    }

    private static void showOnceADay() {
        CHECK.says("SHOW a PROOF (each once a day); 21: 9: it was SHOWN");
        RainJury x = Check.with("juror a;proof p 3;proof q 3;");
        CHECK.good(x, "p", x.show(0), 1);
        CHECK.bad(x, "p again", x.show(0), 9);
        leanings(x, "it moved once", 3);
        CHECK.good(x, "q", x.show(1), 1);
        CHECK.bad(x, "p again", x.show(0), 9);
        CHECK.bad(x, "q again", x.show(1), 9);
        x.talk(9);
        CHECK.bad(x, "behind ROUNDS", x.show(0), 9);
        x.endDay();
        CHECK.good(x, "the next day", x.show(0), 1);
        leanings(x, "from what is told", 3);
        CHECK.bad(x, "again", x.show(0), 9);
    }

    private static void showSeated() {
        CHECK.says("SHOW: each SEATED JUROR; how many JURORS lean otherwise then");
        RainJury x = Check.with("juror a;juror b;juror c;proof p 5;proof q 5;proof r 5;");
        x.strike(1);
        CHECK.good(x, "two", x.show(0), 2);
        leanings(x, "b is struck", 5, 0, 5);
        x.seat(1);
        CHECK.good(x, "three", x.show(1), 3);
        leanings(x, "all", 10, 5, 10);
        x.strike(0);
        x.strike(1);
        x.strike(2);
        CHECK.good(x, "nobody", x.show(2), 0);
        CHECK.good(x, "it was SHOWN", x.many(11), 7);
        RainJury y = Check.with("proof p 5;");
        CHECK.good(y, "a COURT of nobody", y.show(0), 0);
        CHECK.bad(y, "it was SHOWN", y.show(0), 9);
    }

    private static void showStubborn() {
        CHECK.says("its LEANING moves by the WEIGHT, made nearer to 0 by its STUBBORN, at the last 0");
        String jurors = "juror a stubborn 0;juror b stubborn 4;juror c stubborn 5;juror d stubborn 6;juror e stubborn 20;";
        RainJury x = Check.with(jurors + "proof p 5;proof q less 5;proof r 21;proof s less 21;proof t 0;");
        CHECK.good(x, "5", x.show(0), 2);
        leanings(x, "5", 5, 1, 0, 0, 0);
        CHECK.good(x, "-5", x.show(1), 2);
        leanings(x, "-5", 0, 0, 0, 0, 0);
        CHECK.good(x, "0", x.show(4), 0);
        leanings(x, "0", 0, 0, 0, 0, 0);
        CHECK.good(x, "-21", x.show(3), 5);
        leanings(x, "-21", -21, -17, -16, -15, -1);
        CHECK.good(x, "21", x.show(2), 5);
        leanings(x, "21", 0, 0, 0, 0, 0);
    }

    private static void showIsCut() {
        CHECK.says("LEANINGS stay from -99 to 99 (what goes beyond is cut): by SHOW");
        RainJury x = Check.with("juror a leans 97;juror b leans 98;juror c leans 99;juror d leans less 97;juror e leans less 98;"
                + "juror f leans less 99;proof p 1;proof q 2;proof r less 2;proof s 99;proof t less 99;");
        CHECK.good(x, "1", x.show(0), 5);
        leanings(x, "1", 98, 99, 99, -96, -97, -98);
        x.endDay();
        CHECK.good(x, "2", x.show(1), 5);
        leanings(x, "2", 99, 99, 99, -95, -96, -97);
        x.endDay();
        CHECK.good(x, "-2", x.show(2), 5);
        leanings(x, "-2", 95, 96, 97, -99, -99, -99);
        x.endDay();
        x.show(3);
        leanings(x, "99", 99, 99, 99, 2, 1, 0);
        x.endDay();
        x.show(4);
        leanings(x, "-99", -2, -1, 0, -99, -99, -99);
    }

    private static void showCounts() {
        CHECK.says("21: how many JURORS lean otherwise then");
        RainJury x = Check.with("juror a leans 99;juror b leans 98;juror c stubborn 7;juror d;juror e;proof p 7;proof q 0;");
        x.strike(4);
        CHECK.good(x, "b and d: a is at 99, c STUBBORN, e struck", x.show(0), 2);
        CHECK.good(x, "by 0", x.show(1), 0);
    }

    // ---- TALK

    private static void talkNumbers() {
        CHECK.says("22: so many ROUNDS (1 to 99) (5)");
        RainJury x = Check.with("juror a;");
        for (int rounds : new int[] {0, -1, 100, 9999, 10000, LEAST, MOST}) {
            CHECK.bad(x, "talk(" + rounds + ")", x.talk(rounds), 5);
            CHECK.good(x, "ROUND 0", x.many(7), 0);
        }
        CHECK.good(x, "talk(1)", x.talk(1), -1);
        CHECK.good(x, "ROUND 1", x.many(7), 1);
        CHECK.good(x, "talk(99)", x.talk(99), -1);
        CHECK.good(x, "ROUND 100", x.many(7), 100);
    }

    private static void talkJurorByJuror() {
        CHECK.says("TALK, a ROUND: SEATED JUROR by JUROR, by what the others lean then");
        RainJury x = Check.with("juror a;juror b leans 1;juror c;juror d;sways b a 1;sways a c 1;sways c d 1;sways d b 2;");
        x.talk(1);
        leanings(x, "d by c by a by b, all in one ROUND", 1, 1, 1, 1);
        x.talk(1);
        leanings(x, "b by d of the ROUND ahead", 2, 3, 2, 2);
        RainJury y = Check.with("juror a leans 1;juror b leans less 1;sways a b 2;sways b a 2;");
        y.talk(1);
        leanings(y, "a first", -1, -3);
    }

    private static void talkSwayersLean() {
        CHECK.says("each by so much up if it leans above 0, down if below, together");
        RainJury x = Check.with("juror a leans 1;juror b leans less 1;juror c;juror d;"
                + "sways a d 3;sways b d 5;sways c d 20;");
        x.talk(1);
        leanings(x, "3 less 5", 1, -1, 0, -2);
        x.lean(0, 99);
        x.lean(1, 0);
        x.lean(2, -99);
        x.talk(1);
        leanings(x, "3 less 20", 99, 0, -99, -19);
        x.lean(2, 1);
        x.lean(1, 1);
        x.talk(1);
        leanings(x, "3 and 5 and 20", 99, 1, 1, 9);
    }

    private static void talkSeatedSwayers() {
        CHECK.says("all that sway it, SEATED ones");
        RainJury x = Check.with("juror a leans 1;juror b leans 1;juror c;sways a c 3;sways b c 5;");
        x.strike(0);
        x.talk(1);
        leanings(x, "b alone", 1, 1, 5);
        x.strike(1);
        x.talk(1);
        leanings(x, "none", 1, 1, 5);
        x.seat(0);
        x.talk(1);
        leanings(x, "a alone", 1, 1, 8);
        x.strike(2);
        x.talk(1);
        leanings(x, "one struck stays", 1, 1, 8);
    }

    private static void talkStubborn() {
        CHECK.says("if that is more than STUBBORN up or down, its LEANING moves by it");
        RainJury x = Check.with("juror a leans 1;juror b stubborn 6;juror c stubborn 7;juror d stubborn 8;juror e;juror f stubborn 0;"
                + "sways a b 7;sways a c 7;sways a d 7;sways a e 1;sways a f 0;");
        x.talk(1);
        leanings(x, "up", 1, 7, 0, 0, 1, 0);
        x.lean(0, -1);
        x.talk(1);
        leanings(x, "down", -1, 0, 0, 0, 0, 0);
        RainJury y = Check.with("juror a leans 1;juror b leans 1;juror c leans less 1;juror d stubborn 20;juror e stubborn 20;"
                + "sways a d 20;sways b d 1;sways a e 20;sways b e 20;sways c e 20;");
        y.talk(1);
        leanings(y, "21 together, 20 together", 1, 1, -1, 21, 0);
    }

    private static void talkIsCut() {
        CHECK.says("LEANINGS stay from -99 to 99 (what goes beyond is cut): by TALK");
        for (int side = 1; side >= -1; side -= 2) {
            RainJury x = Check.with("juror a;juror b;juror c;juror d;sways a b 5;sways a c 5;sways a d 5;");
            x.lean(0, side);
            x.lean(1, 93 * side);
            x.lean(2, 94 * side);
            x.lean(3, 95 * side);
            x.talk(1);
            leanings(x, "by 5", side, 98 * side, 99 * side, 99 * side);
            x.talk(1);
            leanings(x, "by 5 again", side, 99 * side, 99 * side, 99 * side);
        }
    }

    private static void talkTells() {
        CHECK.says("22: the VERDICT as it would be then");
        RainJury x = Check.with("juror a leans 1;juror b leans less 2;sways a b 1;law all;");
        CHECK.good(x, "-1", x.talk(1), 0);
        CHECK.good(x, "0", x.talk(1), 0);
        CHECK.good(x, "1", x.talk(1), 1);
        CHECK.good(x, "no day ended", x.many(6), 0);
        RainJury y = Check.with("juror a leans 1;juror b leans less 2;sways b a 1;law all;");
        CHECK.good(y, "0", y.talk(1), -1);
        CHECK.good(y, "verdict()", y.verdict(), -1);
    }

    private static void talkOfNobody() {
        CHECK.says("22: ROUNDS of nobody: HUNG");
        RainJury x = new RainJury();
        CHECK.good(x, "talk(99)", x.talk(99), 0);
        CHECK.good(x, "many(7)", x.many(7), 99);
        RainJury y = Check.with("juror a leans 5;hunger 1;");
        y.strike(0);
        CHECK.good(y, "talk(2)", y.talk(2), 0);
        leanings(y, "not moved by HUNGER", 5);
    }

    // ---- HUNGER

    private static void hungerFromItsRound() {
        CHECK.says("if the ROUND (the first of a day is 1) is HUNGER's or later");
        for (int hunger : new int[] {1, 2, 5, 99}) {
            RainJury x = Check.with("juror a leans 3;hunger " + hunger + ";");
            if (hunger > 1) {
                x.talk(hunger - 1);
                leanings(x, "ahead of HUNGER " + hunger, 3);
            }
            x.talk(1);
            leanings(x, "HUNGER's ROUND " + hunger, 4);
            x.talk(1);
            leanings(x, "later than " + hunger, 5);
            x.endDay();
            if (hunger > 1) {
                x.talk(hunger - 1);
                leanings(x, "the next day, ahead of " + hunger, 3);
            }
            x.talk(1);
            leanings(x, "the next day, HUNGER " + hunger, 4);
            x.talk(99);
            leanings(x, "99 more", 99);
        }
        RainJury never = Check.with("juror a leans 3;");
        never.talk(99);
        never.talk(99);
        leanings(never, "never without", 3);
    }

    private static void hungerSides() {
        CHECK.says("each SEATED one moves by 1 to the side of more VOTES");
        RainJury x = Check.with("juror a leans 3;juror b leans 5;juror c leans less 4;juror d leans less 50;hunger 1;");
        x.strike(3);
        x.talk(1);
        leanings(x, "up", 4, 6, -3, -50);
        x.seat(3);
        x.strike(0);
        x.talk(1);
        leanings(x, "down", 4, 5, -4, -51);
        RainJury y = Check.with("juror a stubborn 20;juror b stubborn 20;juror c leans 1;hunger 1;");
        y.talk(1);
        leanings(y, "0 votes FREE; STUBBORN or not", -1, -1, 0);
    }

    private static void hungerAlike() {
        CHECK.says("(alike: nobody moves)");
        RainJury x = Check.with("juror a leans 3;juror b leans less 4;juror c leans 1;juror d;hunger 1;");
        x.talk(99);
        leanings(x, "2 and 2", 3, -4, 1, 0);
        x.strike(3);
        x.talk(1);
        leanings(x, "2 and 1", 4, -3, 2, 0);
        x.strike(2);
        x.strike(1);
        x.talk(1);
        leanings(x, "1 and 0", 5, -3, 2, 0);
        x.strike(0);
        x.talk(1);
        leanings(x, "0 and 0", 5, -3, 2, 0);
    }

    private static void hungerIsCut() {
        CHECK.says("LEANINGS stay from -99 to 99 (what goes beyond is cut): by HUNGER");
        RainJury x = Check.with("juror a leans 98;juror b leans 99;juror c leans less 99;hunger 1;");
        x.talk(1);
        leanings(x, "up", 99, 99, -98);
        x.talk(1);
        leanings(x, "up", 99, 99, -97);
        RainJury y = Check.with("juror a leans less 98;juror b leans less 99;juror c leans 99;hunger 1;");
        y.talk(1);
        leanings(y, "down", -99, -99, 98);
        y.talk(1);
        leanings(y, "down", -99, -99, 97);
    }

    private static void hungerVotesAsTheyAre() {
        CHECK.says("Then: the side of more VOTES as they are then");
        RainJury x = Check.with("juror a leans less 1;juror b;juror c leans 9;sways c b 1;sways c a 2;hunger 1;");
        x.talk(1);
        leanings(x, "all vote GUILTY behind the talk", 2, 2, 10);
        RainJury y = Check.with("juror a leans 1;juror b leans 1;juror c leans less 9;sways c b 1;hunger 1;");
        y.talk(1);
        leanings(y, "2 vote FREE behind the talk; all move by one count", 0, -1, -10);
    }

    // ---- ROUND and DAY

    private static RainJury at9900() {
        RainJury x = Check.with("juror a leans 1;juror b leans less 99;juror c leans less 99;sways a b 1;");
        for (int i = 0; i < 100; i++) {
            x.talk(99);
        }
        return x;
    }

    private static void roundLimit() {
        CHECK.says("22: 7: the ROUND would be above 9,999");
        RainJury x = at9900();
        CHECK.good(x, "ROUND 9,900", x.many(7), 9900);
        CHECK.bad(x, "5 ahead of 7", x.talk(100), 5);
        CHECK.good(x, "talk(99)", x.talk(99), 1);
        CHECK.good(x, "ROUND 9,999", x.many(7), 9999);
        for (int rounds : new int[] {1, 2, 99}) {
            CHECK.bad(x, "talk(" + rounds + ")", x.talk(rounds), 7);
        }
        CHECK.bad(x, "5 ahead of 7", x.talk(0), 5);
        CHECK.good(x, "ROUND 9,999", x.many(7), 9999);
        x.lean(1, -1);
        CHECK.bad(x, "talk(1)", x.talk(1), 7);
        leanings(x, "nobody moved", 1, -1, -99);
        RainJury y = at9900();
        y.talk(98);
        CHECK.bad(y, "two", y.talk(2), 7);
        CHECK.good(y, "ROUND 9,998", y.many(7), 9998);
        CHECK.good(y, "one", y.talk(1), 1);
    }

    private static void roundIsOfTheDay() {
        CHECK.says("the DAY ends: it is ROUND 0");
        RainJury x = at9900();
        x.talk(99);
        x.endDay();
        CHECK.good(x, "ROUND 0", x.many(7), 0);
        CHECK.good(x, "there is room again", x.talk(99), -1);
        CHECK.good(x, "ROUND 99", x.many(7), 99);
    }

    private static void dayTells() {
        CHECK.says("23: the DAY ends: the VERDICT; nobody SEATED: HUNG");
        RainJury x = Check.with("juror a leans 1;juror b;law all;");
        CHECK.good(x, "HUNG", x.endDay(), 0);
        x.strike(1);
        CHECK.good(x, "GUILTY", x.endDay(), 1);
        x.strike(0);
        CHECK.good(x, "FREE", x.endDay(), -1);
        x.strike(0);
        x.strike(1);
        CHECK.good(x, "nobody", x.endDay(), 0);
        CHECK.good(x, "four DAYS", x.many(6), 4);
        RainJury y = new RainJury();
        CHECK.good(y, "a COURT of nobody", y.endDay(), 0);
        CHECK.good(y, "DAY 1", y.many(6), 1);
    }

    private static void dayGrows() {
        CHECK.says("DAY ends: each CROP GROWS by the WEATHER of this day");
        RainJury x = Check.with("juror a leans 1;weather u;weather v;follows u guilty v free u;crop k on u 99 on v less 99;crop l on v 1;crop m;");
        x.endDay();
        int[][] want = {{99, 0, 0}, {0, 1, 0}, {-99, 2, 0}};
        for (int day = 0; day < 3; day++) {
            for (int i = 0; i < 3; i++) {
                CHECK.good(x, "crop(" + i + ") behind DAY " + day, x.crop(i), want[day][i]);
            }
            x.endDay();
        }
    }

    private static void dayGrowsFour() {
        CHECK.says("DAY ends: each CROP GROWS: four CROPS, six WEATHERS");
        RainJury x = Check.with("juror z leans 1;weather a;weather b;weather c;weather d;weather e;weather f;follows a guilty b free a;"
                + "follows b guilty c free a;follows c guilty d free a;follows d guilty e free a;follows e guilty f free a;"
                + "crop k on a 1 on f 9;crop l on b 2 on f 8;crop m on c 3 on f 7;crop n on d 4 on e less 5 on f 6;");
        int[][] want = {{0, 0, 0, 0}, {1, 0, 0, 0}, {1, 2, 0, 0}, {1, 2, 3, 0}, {1, 2, 3, 4}, {1, 2, 3, -1}, {10, 10, 10, 5}, {19, 18, 17, 11}};
        for (int day = 0; day < want.length; day++) {
            CHECK.good(x, "WEATHER of DAY " + day, x.many(8), Math.min(day, 5));
            for (int i = 0; i < 4; i++) {
                CHECK.good(x, "crop(" + i + ") on DAY " + day, x.crop(i), want[day][i]);
            }
            CHECK.good(x, "endDay()", x.endDay(), 1);
        }
    }

    private static void dayWeather() {
        CHECK.says("the next day's WEATHER follows (HUNG: it stays)");
        RainJury x = Check.with("juror a leans 1;juror b leans less 1;weather u;weather v;weather w;follows u guilty v free w;law all;");
        CHECK.good(x, "HUNG", x.endDay(), 0);
        CHECK.good(x, "u", x.many(8), 0);
        x.mark();
        x.strike(1);
        CHECK.good(x, "GUILTY", x.endDay(), 1);
        CHECK.good(x, "v", x.many(8), 1);
        x.strike(1);
        x.endDay();
        CHECK.good(x, "itself without", x.many(8), 1);
        x.back();
        x.strike(0);
        CHECK.good(x, "FREE", x.endDay(), -1);
        CHECK.good(x, "w", x.many(8), 2);
    }

    private static void dayBeginsAnew() {
        CHECK.says("all JURORS are SEATED again and lean as told, no PROOF is SHOWN, it is ROUND 0");
        RainJury x = Check.with("juror a leans 1 price 4;juror b leans less 2;juror c leans 99;proof p 5;");
        x.show(0);
        x.talk(4);
        x.strike(0);
        x.strike(2);
        x.lean(1, 7);
        x.bribe(1, -1);
        x.endDay();
        leanings(x, "as told", 1, -2, 99);
        CHECK.good(x, "SEATED", x.many(10), 7);
        CHECK.good(x, "SHOWN", x.many(11), 0);
        CHECK.good(x, "ROUND", x.many(7), 0);
        CHECK.good(x, "DAY", x.many(6), 1);
    }

    private static void dayWithoutThings() {
        CHECK.says("DAY ends: without WEATHERS, without CROPS");
        RainJury x = Check.with("juror a leans 1;crop k;");
        CHECK.good(x, "GUILTY", x.endDay(), 1);
        CHECK.good(x, "crop(0)", x.crop(0), 0);
        CHECK.bad(x, "no WEATHER", x.many(8), 8);
        RainJury y = Check.with("juror a leans 1;weather u;weather v;follows u guilty v free u;");
        CHECK.good(y, "GUILTY", y.endDay(), 1);
        CHECK.good(y, "v", y.many(8), 1);
        RainJury nobody = Check.with("weather u;weather v;follows u guilty v free v;crop k on u 4 on v 9;");
        CHECK.good(nobody, "HUNG", nobody.endDay(), 0);
        CHECK.good(nobody, "u stays", nobody.many(8), 0);
        CHECK.good(nobody, "crop(0)", nobody.crop(0), 4);
        RainJury one = Check.with("juror a leans 1;weather u;crop k on u 4;");
        CHECK.good(one, "GUILTY", one.endDay(), 1);
        CHECK.good(one, "u behind u", one.many(8), 0);
        CHECK.good(one, "crop(0)", one.crop(0), 4);
    }

    private static void dayLimit() {
        CHECK.says("23: 7: the DAY would be above 9,999");
        RainJury x = Check.with("juror a leans 1;weather u;weather v;follows u guilty v free u;crop k on u 1 on v 1;",
                "loop 99;verdict;verdict;end;");
        for (int i = 0; i < 50; i++) {
            x.live(0);
        }
        CHECK.good(x, "DAY 9,900", x.many(6), 9900);
        for (int day = 9901; day <= 9999; day++) {
            CHECK.good(x, "endDay()", x.endDay(), 1);
        }
        CHECK.good(x, "DAY 9,999", x.many(6), 9999);
        x.talk(3);
        x.strike(0);
        CHECK.bad(x, "one more", x.endDay(), 7);
        CHECK.good(x, "DAY 9,999", x.many(6), 9999);
        CHECK.good(x, "nothing has GROWN", x.crop(0), 9999);
        CHECK.good(x, "the ROUND stays", x.many(7), 3);
        CHECK.good(x, "nobody is SEATED", x.many(10), 0);
        CHECK.good(x, "live(0)", x.live(0), 199);
        CHECK.good(x, "all MISSED", x.lived(0), 198);
        CHECK.good(x, "a new COURT", Check.court(x, "juror a;"), 1);
        CHECK.good(x, "has days", x.endDay(), -1);
    }

    // ---- STRIKE, SEAT

    private static void strikes() {
        CHECK.says("24: STRIKE (2; 9: not SEATED): a JUROR is not SEATED this day");
        RainJury x = Check.with("juror a leans 1;juror b;juror c;");
        for (int juror : new int[] {-1, 3, 10, 31, 32, 33, LEAST, MOST}) {
            CHECK.bad(x, "strike(" + juror + ")", x.strike(juror), 2);
        }
        CHECK.good(x, "all", x.many(10), 7);
        CHECK.good(x, "the last", x.strike(2));
        CHECK.bad(x, "again", x.strike(2), 9);
        CHECK.good(x, "the first", x.strike(0));
        CHECK.bad(x, "again", x.strike(0), 9);
        CHECK.good(x, "b", x.many(10), 2);
        CHECK.good(x, "b votes", x.votes(0) + 10 * x.votes(1), 10);
        CHECK.good(x, "nobody is left", x.strike(1));
        CHECK.good(x, "HUNG", x.verdict(), 0);
        x.endDay();
        CHECK.good(x, "this day alone", x.strike(2));
    }

    private static void seats() {
        CHECK.says("25: a JUROR is SEATED again (2; 9: it is)");
        RainJury x = Check.with("juror a leans 1;juror b;juror c;");
        for (int juror : new int[] {-1, 3, 10, 31, 32, 33, LEAST, MOST}) {
            CHECK.bad(x, "seat(" + juror + ")", x.seat(juror), 2);
        }
        for (int i = 0; i < 3; i++) {
            CHECK.bad(x, "it is", x.seat(i), 9);
            x.strike(i);
        }
        CHECK.good(x, "nobody", x.many(10), 0);
        CHECK.good(x, "the last", x.seat(2));
        CHECK.good(x, "c", x.many(10), 4);
        CHECK.bad(x, "it is", x.seat(2), 9);
        CHECK.good(x, "the first", x.seat(0));
        CHECK.good(x, "a and c", x.many(10), 5);
        x.endDay();
        CHECK.bad(x, "all are, on the next day", x.seat(1), 9);
    }

    private static void seatsAsItLeans() {
        CHECK.says("25: as it leans");
        RainJury x = Check.with("juror a leans 5;proof p 9;");
        x.lean(0, -3);
        x.strike(0);
        x.show(0);
        x.seat(0);
        leanings(x, "not as told", -3);
        x.strike(0);
        x.lean(0, 40);
        x.seat(0);
        leanings(x, "as it was made to lean", 40);
    }

    // ---- BRIBE

    private static void bribeNumbers() {
        CHECK.says("26: BRIBE (2)");
        RainJury x = Check.with("juror a price 1;juror b price 2;");
        for (int juror : new int[] {-1, 2, 10, 31, 32, LEAST, MOST}) {
            CHECK.bad(x, "bribe(" + juror + ", 1)", x.bribe(juror, 1), 2);
            CHECK.bad(x, "2 ahead of 5", x.bribe(juror, 0), 2);
        }
        CHECK.good(x, "none spent", x.many(9), 0);
        CHECK.good(x, "the first", x.bribe(0, 1), 1);
        CHECK.good(x, "the last", x.bribe(1, 1), 3);
    }

    private static void bribeSides() {
        CHECK.says("26: to GUILTY (side 1) or FREE (-1) (5): leans 99 (or -99)");
        RainJury x = Check.with("juror a leans 5 price 1;");
        for (int side : new int[] {0, 2, -2, LEAST, MOST}) {
            CHECK.bad(x, "bribe(0, " + side + ")", x.bribe(0, side), 5);
        }
        leanings(x, "as it leaned", 5);
        CHECK.good(x, "none spent", x.many(9), 0);
        CHECK.good(x, "GUILTY", x.bribe(0, 1), 1);
        leanings(x, "GUILTY", 99);
        CHECK.good(x, "FREE", x.bribe(0, -1), 2);
        leanings(x, "FREE", -99);
    }

    private static void bribeSpends() {
        CHECK.says("26: COINS spent in all");
        RainJury x = Check.with("juror a price 99;juror b;juror c price 1;");
        CHECK.good(x, "0", x.bribe(1, 1), 0);
        CHECK.good(x, "99", x.bribe(0, 1), 99);
        CHECK.good(x, "100", x.bribe(2, -1), 100);
        x.endDay();
        CHECK.good(x, "in all, on the next day too", x.bribe(2, -1), 101);
    }

    private static void bribeLimit() {
        CHECK.says("26: 7: they would be above 9,999");
        RainJury x = Check.with("juror a price 99;juror b price 98;juror c price 2;juror d price 1;juror e;",
                "loop 99;bribe a;end;");
        x.live(0);
        CHECK.good(x, "9,801", x.many(9), 9801);
        CHECK.good(x, "9,900", x.bribe(0, -1), 9900);
        CHECK.good(x, "9,998", x.bribe(1, -1), 9998);
        CHECK.bad(x, "10,000", x.bribe(2, 1), 7);
        CHECK.bad(x, "10,096", x.bribe(1, 1), 7);
        leanings(x, "c is not bribed", -99, -99, 0);
        CHECK.good(x, "9,998 stay", x.many(9), 9998);
        CHECK.good(x, "9,999", x.bribe(3, 1), 9999);
        CHECK.bad(x, "10,000", x.bribe(3, -1), 7);
        CHECK.good(x, "for nothing", x.bribe(4, 1), 9999);
        x.endDay();
        CHECK.bad(x, "on the next day too", x.bribe(3, -1), 7);
        CHECK.good(x, "a new COURT", Check.court(x, "juror a price 99;"), 1);
        CHECK.good(x, "spends anew", x.bribe(0, 1), 99);
    }

    private static void bribeSeated() {
        CHECK.says("26: 9: not SEATED");
        RainJury x = Check.with("juror a leans 5 price 1;juror b;");
        x.strike(0);
        CHECK.bad(x, "struck", x.bribe(0, -1), 9);
        leanings(x, "as it leaned", 5, 0);
        CHECK.good(x, "none spent", x.many(9), 0);
        CHECK.good(x, "another one", x.bribe(1, -1), 0);
        x.seat(0);
        CHECK.good(x, "SEATED again", x.bribe(0, -1), 1);
    }

    private static void bribeOrder() {
        CHECK.says("part 5: the first of these that holds: 2, 5, 7, 9");
        RainJury x = Check.with("juror a price 99;juror b price 99;juror c;", "loop 99;bribe a;end;bribe a;bribe a;");
        x.live(0);
        x.strike(1);
        x.strike(2);
        CHECK.bad(x, "5 ahead of 7, 9", x.bribe(1, 0), 5);
        CHECK.bad(x, "7 ahead of 9", x.bribe(1, 1), 7);
        CHECK.bad(x, "9", x.bribe(2, 1), 9);
        CHECK.bad(x, "7", x.bribe(0, 1), 7);
        CHECK.bad(x, "2 ahead of all", x.bribe(3, 0), 2);
    }

    // ---- LEAN

    private static void leanNumbers() {
        CHECK.says("27: a JUROR leans so (-99 to 99) (2; 5)");
        RainJury x = Check.with("juror a leans 3;juror b leans 4;");
        for (int juror : new int[] {-1, 2, 10, LEAST, MOST}) {
            CHECK.bad(x, "lean(" + juror + ", 0)", x.lean(juror, 0), 2);
            CHECK.bad(x, "2 ahead of 5", x.lean(juror, 100), 2);
        }
        for (int leaning : new int[] {-100, 100, LEAST, MOST}) {
            CHECK.bad(x, "lean(0, " + leaning + ")", x.lean(0, leaning), 5);
        }
        leanings(x, "nobody moved", 3, 4);
        for (int leaning : new int[] {-99, -98, -1, 0, 1, 98, 99}) {
            CHECK.good(x, "lean(1, " + leaning + ")", x.lean(1, leaning));
            leanings(x, "so", 3, leaning);
        }
    }

    private static void leanThisDay() {
        CHECK.says("27: from now on this day");
        RainJury x = Check.with("juror a leans 3;");
        x.lean(0, -50);
        CHECK.good(x, "as told stays", x.juror(0, 1), 3);
        x.talk(5);
        leanings(x, "from now on", -50);
        x.endDay();
        leanings(x, "the next day", 3);
    }

    private static void leanUnseated() {
        CHECK.says("27: a JUROR: SEATED or not");
        RainJury x = Check.with("juror a leans 3;");
        x.strike(0);
        CHECK.good(x, "struck", x.lean(0, 99));
        leanings(x, "so", 99);
        CHECK.good(x, "not SEATED by it", x.many(10), 0);
    }
}

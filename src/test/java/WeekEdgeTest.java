/** Promises 52 to 56 and what STEPS do, a sentence at a time: just within each bound and just beyond it. */
public final class WeekEdgeTest {
    private static final Check CHECK = new Check("WeekEdgeTest");
    private static final int MOST = Integer.MAX_VALUE;
    private static final int LEAST = Integer.MIN_VALUE;
    private static final String COURT = "juror a leans 2 price 9;juror b leans less 3;juror c leans 1;proof p 4;weather u;weather v;"
            + "follows u guilty v free u;follows v guilty u free v;crop k on u 3 on v less 5;";

    public static void main(String[] args) {
        liveSeeds();
        liveWithoutWeeks();
        liveOfNoSteps();
        showIsMissed();
        talkIsMissed();
        verdictIsMissed();
        strikeAndSeatAreMissed();
        bribeIsMissed();
        bribeSides();
        missedAreCounted();
        moodDraws();
        moodIsCut();
        moodOfSeated();
        drawsGoOn();
        votesTest();
        weatherTest();
        cropTest();
        cropTestLimits();
        whenSkips();
        loopTimes();
        loopsWithin();
        stops();
        stepsTo300();
        leftByThe300();
        endsAreNone();
        livedWhats();
        livedLatest();
        livedDays();
        livedStays();
        meanNumbers();
        meanOrder();
        meanOfSeeds();
        meanStays();
        marksAreThree();
        backWithoutMark();
        backToTheLatest();
        marksKeepAll();
        marksOfNothing();
        marksKeepNoMore();
        CHECK.end();
    }

    private static void life(RainJury x, int seed, int steps, int... lived) {
        CHECK.good(x, "live(" + seed + ")", x.live(seed), steps);
        for (int what = 0; what < lived.length; what++) {
            CHECK.good(x, "lived(" + what + ")", x.lived(what), lived[what]);
        }
    }

    // ---- live

    private static void liveSeeds() {
        CHECK.says("LIVED by a seed (0 to 9,999); 52: (5)");
        RainJury x = Check.with(COURT, "mood;");
        life(x, 0, 1, 0, 0, 0, 0, 0);
        life(x, 9999, 1, 0, 0, 0, 0, 0);
        int was = x.juror(0, 0);
        for (int seed : new int[] {-1, 10000, LEAST, MOST}) {
            CHECK.bad(x, "live(" + seed + ")", x.live(seed), 5);
        }
        CHECK.good(x, "no mood came", x.juror(0, 0), was);
    }

    private static void liveWithoutWeeks() {
        CHECK.says("52: 8: no WEEKS");
        RainJury x = new RainJury();
        CHECK.bad(x, "5 ahead of 8", x.live(-1), 5);
        CHECK.bad(x, "5 ahead of 8", x.live(10000), 5);
        CHECK.bad(x, "8", x.live(0), 8);
        CHECK.bad(x, "8", x.live(9999), 8);
        CHECK.bad(x, "none was lived", x.lived(0), 8);
    }

    private static void liveOfNoSteps() {
        CHECK.says("52: how many STEPS were come to: of WEEKS without STEPS none");
        RainJury x = Check.with(COURT, "");
        life(x, 5, 0, 0, 0, 0, 0, 0);
        CHECK.good(x, "DAY 0", x.many(6), 0);
        CHECK.good(x, "nothing GROWS", x.mean(0, 0, 20));
        CHECK.fraction(x, "nothing", 0, 1);
    }

    // ---- what is MISSED

    private static void showIsMissed() {
        CHECK.says("MISSED: a PROOF that was SHOWN");
        RainJury x = Check.with(COURT, "show p;show p;verdict;show p;");
        life(x, 0, 4, 1, 1);
        CHECK.good(x, "it moved a once", x.juror(0, 0), 6);
        life(x, 0, 4, 2, 1);
    }

    private static void talkIsMissed() {
        CHECK.says("talk: so many ROUNDS (MISSED: the ROUND would be above 9,999)");
        RainJury x = Check.with(COURT, "loop 99;talk 99;end;talk 99;talk 98;");
        life(x, 0, 102, 0);
        CHECK.good(x, "ROUND 9,998", x.many(7), 9998);
        Check.weeks(x, "talk 2;");
        life(x, 0, 1, 1);
        CHECK.good(x, "no ROUND came", x.many(7), 9998);
        Check.weeks(x, "talk 1;");
        life(x, 0, 1, 0);
        CHECK.good(x, "ROUND 9,999", x.many(7), 9999);
        life(x, 0, 1, 1);
        Check.weeks(x, "talk 1;verdict;talk 1;");
        life(x, 0, 3, 1);
        CHECK.good(x, "ROUND 1 of the next day", x.many(7), 1);
    }

    private static RainJury at9800() {
        RainJury x = Check.with(COURT, "loop 98;verdict;verdict;end;");
        for (int i = 0; i < 50; i++) {
            x.live(0);
        }
        return x;
    }

    private static void verdictIsMissed() {
        CHECK.says("verdict: the DAY ends (MISSED: the DAY would be above 9,999)");
        RainJury x = at9800();
        Check.weeks(x, "loop 99;verdict;end;loop 99;verdict;end;");
        life(x, 0, 200, 0, 198);
        CHECK.good(x, "DAY 9,998", x.many(6), 9998);
        int grown = x.crop(0);
        Check.weeks(x, "verdict;verdict;verdict;");
        life(x, 0, 3, 2, 1);
        CHECK.good(x, "DAY 9,999", x.many(6), 9999);
        CHECK.good(x, "one day's growth", Math.abs(x.crop(0) - grown) <= 5 ? 1 : 0, 1);
        grown = x.crop(0);
        life(x, 0, 3, 3, 0, 0, 0, 0);
        CHECK.good(x, "no growth", x.crop(0), grown);
    }

    private static void strikeAndSeatAreMissed() {
        CHECK.says("MISSED: one struck that is not SEATED, seated that is");
        RainJury x = Check.with(COURT, "seat a;strike a;strike a;seat a;seat a;strike b;");
        life(x, 0, 6, 3);
        CHECK.good(x, "a and c", x.many(10), 5);
        life(x, 0, 6, 4);
        RainJury y = Check.with(COURT, "strike a;verdict;strike a;seat b;");
        life(y, 0, 4, 1);
        CHECK.good(y, "b and c", y.many(10), 6);
    }

    private static void bribeIsMissed() {
        CHECK.says("MISSED: bribed that is not SEATED; a bribe beyond 9,999 COINS");
        RainJury x = Check.with(COURT, "strike a;bribe a;seat a;bribe a;");
        life(x, 0, 4, 1);
        CHECK.good(x, "9", x.many(9), 9);
        RainJury y = Check.with("juror a price 99;juror b leans 5 price 1;juror c;", "loop 99;bribe a;end;bribe a;bribe a;");
        life(y, 0, 102, 0);
        CHECK.good(y, "9,999", y.many(9), 9999);
        Check.weeks(y, "bribe b less;bribe a less;bribe c;");
        life(y, 0, 3, 2);
        CHECK.good(y, "9,999", y.many(9), 9999);
        CHECK.good(y, "a stays", y.juror(0, 0), 99);
        CHECK.good(y, "b stays", y.juror(1, 0), 5);
        CHECK.good(y, "c, for nothing", y.juror(2, 0), 99);
        RainJury z = Check.with("juror a price 99;juror b price 2;juror c price 1;",
                "loop 99;bribe a;end;bribe a;bribe b;bribe b;bribe a;");
        life(z, 0, 104, 1);
        CHECK.good(z, "9,904", z.many(9), 9904);
    }

    private static void bribeSides() {
        CHECK.says("bribe NAME [less]: a JUROR (less: to -99)");
        RainJury x = Check.with(COURT, "bribe a less;bribe b;bribe c less;");
        life(x, 0, 3, 0);
        CHECK.good(x, "a", x.juror(0, 0), -99);
        CHECK.good(x, "b", x.juror(1, 0), 99);
        CHECK.good(x, "c", x.juror(2, 0), -99);
        CHECK.good(x, "COINS", x.many(9), 9);
    }

    private static void missedAreCounted() {
        CHECK.says("52: how many STEPS were come to, MISSED ones, too");
        RainJury x = Check.with(COURT, "loop 99;seat a;seat b;end;");
        life(x, 0, 199, 198, 0, 0, 0, 0);
    }

    // ---- mood

    private static void moodDraws() {
        CHECK.says("s becomes what is left of s times 2,927 and 10,627 by 65,536; the rest of s by 8, rounded down, by n; 9, less 4");
        for (int seed = 0; seed <= 9999; seed += seed < 40 || seed > 9950 ? 1 : 97) {
            RainJury x = Check.with("juror a;juror b;juror c;", "mood;");
            life(x, seed, 1, 0);
            long s = seed;
            for (int i = 0; i < 3; i++) {
                s = (s * 2927 + 10627) % 65536;
                CHECK.good(x, "JUROR " + i + " by seed " + seed, x.juror(i, 0), s / 8 % 9 - 4);
            }
        }
        // By hand: 10,627 by 8 is 1,328, by 9 is left 5; 10,627 times 2,927 and 10,627 is 31,115,856, by 65,536 is left 51,792.
        RainJury x = Check.with("juror a;juror b;", "mood;");
        life(x, 0, 1, 0);
        CHECK.good(x, "the first by seed 0", x.juror(0, 0), 5 - 4);
        CHECK.good(x, "the second by seed 0", x.juror(1, 0), 51792 / 8 % 9 - 4);
    }

    private static void moodIsCut() {
        CHECK.says("LEANINGS stay from -99 to 99 (what goes beyond is cut): by mood");
        boolean up = false;
        boolean down = false;
        for (int seed = 0; seed < 60; seed++) {
            int draw = (seed * 2927 + 10627) % 65536 / 8 % 9 - 4;
            RainJury x = Check.with("juror a leans 97;", "mood;");
            x.live(seed);
            CHECK.good(x, "from 97 by " + draw, x.juror(0, 0), Math.min(99, 97 + draw));
            RainJury y = Check.with("juror a leans less 97;", "mood;");
            y.live(seed);
            CHECK.good(y, "from -97 by " + draw, y.juror(0, 0), Math.max(-99, -97 + draw));
            up |= draw > 2;
            down |= draw < -2;
        }
        CHECK.due("both sides were cut", up && down, true);
    }

    private static void moodOfSeated() {
        CHECK.says("mood: SEATED JUROR by JUROR a draw");
        RainJury x = Check.with("juror a;juror b;juror c;", "strike b;mood;");
        RainJury y = Check.with("juror a;juror b;", "mood;");
        for (int seed = 0; seed < 30; seed++) {
            x.mark();
            y.mark();
            life(x, seed, 2, 0);
            life(y, seed, 1, 0);
            CHECK.good(x, "a", x.juror(0, 0), y.juror(0, 0));
            CHECK.good(x, "b is struck", x.juror(1, 0), 0);
            CHECK.good(x, "c draws second", x.juror(2, 0), y.juror(1, 0));
            x.back();
            y.back();
        }
        RainJury nobody = Check.with("juror a;", "strike a;mood;seat a;mood;");
        life(nobody, 0, 4, 0);
        CHECK.good(nobody, "the first draw is the second mood's", nobody.juror(0, 0), 1);
    }

    private static void drawsGoOn() {
        CHECK.says("Draws: s, at first the seed");
        RainJury x = Check.with("juror a;juror b;", "mood;mood;");
        life(x, 77, 2, 0);
        long s = 77;
        int[] lean = {0, 0};
        for (int i = 0; i < 4; i++) {
            s = (s * 2927 + 10627) % 65536;
            lean[i % 2] += (int) (s / 8 % 9) - 4;
        }
        CHECK.good(x, "a", x.juror(0, 0), lean[0]);
        CHECK.good(x, "b", x.juror(1, 0), lean[1]);
        life(x, 77, 2, 0);
        CHECK.good(x, "from the seed anew: a", x.juror(0, 0), 2 * lean[0]);
        CHECK.good(x, "from the seed anew: b", x.juror(1, 0), 2 * lean[1]);
    }

    // ---- when

    private static void tested(RainJury x, String test, boolean holds) {
        Check.weeks(x, "when " + test + ";stop;end;");
        CHECK.good(x, "when " + test, x.live(0), holds ? 2 : 1);
    }

    private static void allThree(RainJury x, String thing, int number, int is) {
        String told = number < 0 ? "less " + -number : "" + number;
        tested(x, thing + "<" + told, is < number);
        tested(x, thing + ">" + told, is > number);
        tested(x, thing + "=" + told, is == number);
    }

    private static void votesTest() {
        CHECK.says("when votes: how many SEATED ones vote GUILTY (0 to 10)");
        RainJury x = Check.with("juror a leans 1;juror b leans 1;juror c leans 1;juror d leans 1;juror e leans 1;juror f leans 1;"
                + "juror g leans 1;juror h leans 1;juror i leans 1;juror j leans 1;");
        for (int votes : new int[] {9, 10, 0, 1}) {
            allThree(x, "votes", votes, 10);
        }
        x.strike(0);
        x.lean(1, 0);
        for (int votes = 7; votes <= 10; votes++) {
            allThree(x, "votes", votes, 8);
        }
        for (int i = 1; i < 10; i++) {
            x.strike(i);
        }
        allThree(x, "votes", 0, 0);
        allThree(x, "votes", 1, 0);
        RainJury nobody = new RainJury();
        allThree(nobody, "votes", 0, 0);
        allThree(nobody, "votes", 10, 0);
    }

    private static void weatherTest() {
        CHECK.says("when weather: it is this one");
        RainJury x = Check.with(COURT);
        for (int day = 0; day < 3; day++) {
            tested(x, "weather u", day % 2 == 0);
            tested(x, "weather v", day % 2 == 1);
            x.endDay();
        }
    }

    private static void cropTest() {
        CHECK.says("when crop: how much it has GROWN");
        RainJury x = Check.with(COURT);
        int[] grown = {0, 3, -2, 1};
        for (int one : grown) {
            CHECK.good(x, "crop(0)", x.crop(0), one);
            for (int number = one - 1; number <= one + 1; number++) {
                allThree(x, "crop k", number, one);
            }
            x.endDay();
        }
        tested(x, "crop k=less 0", false);
        RainJury zero = Check.with("crop k;");
        tested(zero, "crop k=less 0", true);
    }

    private static void cropTestLimits() {
        CHECK.says("when crop: how much it has GROWN (0 to 9,999)");
        for (int side = 1; side >= -1; side -= 2) {
            String sign = side < 0 ? "less " : "";
            RainJury x = Check.with("juror a leans 1;weather u;weather v;follows v guilty u free u;crop k on u " + sign + "99 on v " + sign + "1;",
                    "loop 99;verdict;end;verdict;");
            x.live(0);
            for (int grown : new int[] {9900, 9999, 10098}) {
                CHECK.good(x, "crop(0)", x.crop(0), side * grown);
                allThree(x, "crop k", side * 9999, side * grown);
                allThree(x, "crop k", -side * 9999, side * grown);
                x.endDay();
            }
        }
    }

    private static void whenSkips() {
        CHECK.says("when TEST ; {STEP} end: what is within is done if it holds");
        RainJury x = Check.with(COURT, "when votes=2;when votes=3;verdict;end;talk 1;end;talk 2;");
        life(x, 0, 4, 0, 0);
        CHECK.good(x, "talk 1 and talk 2", x.many(7), 3);
        x.strike(0);
        life(x, 0, 2, 0, 0);
        CHECK.good(x, "talk 2", x.many(7), 5);
        RainJury last = Check.with(COURT, "when votes=9;verdict;end;");
        life(last, 0, 1, 0, 0);
    }

    // ---- loop, stop, the 300

    private static void loopTimes() {
        CHECK.says("loop n (1 to 99): as often");
        for (int n : new int[] {1, 2, 98, 99}) {
            RainJury x = Check.with(COURT, "loop " + n + ";talk 1;end;");
            life(x, 0, n + 1, 0);
            CHECK.good(x, "ROUNDS", x.many(7), n);
            life(x, 0, n + 1, 0);
            CHECK.good(x, "as often again", x.many(7), 2 * n);
        }
    }

    private static void loopsWithin() {
        CHECK.says("when, loop count as one each time they are come to from ahead");
        RainJury x = Check.with(COURT, "loop 2;loop 3;loop 4;talk 1;end;end;end;");
        life(x, 0, 1 + 2 + 6 + 24, 0);
        CHECK.good(x, "24", x.many(7), 24);
        RainJury y = Check.with(COURT, "loop 3;when votes=2;end;when votes=9;talk 1;end;end;");
        life(y, 0, 1 + 3 + 3, 0);
        RainJury z = Check.with(COURT, "loop 5;when votes=2;loop 2;strike a;end;end;end;");
        life(z, 0, 1 + 5 + 1 + 2, 1);
        RainJury empty = Check.with(COURT, "loop 99;end;loop 1;end;when votes=2;end;");
        life(empty, 0, 3, 0, 0, 0, 0, 0);
    }

    private static void stops() {
        CHECK.says("stop");
        RainJury x = Check.with(COURT, "stop;verdict;");
        life(x, 0, 1, 0, 0, 0, 0, 0);
        RainJury y = Check.with(COURT, "verdict;loop 99;loop 99;when weather v;stop;verdict;end;verdict;end;end;verdict;");
        life(y, 0, 5, 0, 1, 1, 0, 0);
        RainJury z = Check.with(COURT, "verdict;stop;");
        life(z, 0, 2, 0, 1, 1, 0, 0);
    }

    private static void stepsTo300() {
        CHECK.says("At most 300 STEPS");
        for (int more = 0; more <= 4; more++) {
            RainJury x = Check.with(COURT, "loop 99;talk 1;talk 1;talk 1;end;" + "talk 1;".repeat(more));
            int steps = Math.min(300, 298 + more);
            life(x, 0, steps, 0, 0, 0, 0, 298 + more > 300 ? 1 : 0);
            CHECK.good(x, "ROUNDS", x.many(7), steps - 1);
        }
        RainJury missed = Check.with(COURT, "loop 99;seat a;seat a;seat a;end;seat a;seat a;seat a;");
        life(missed, 0, 300, 299, 0, 0, 0, 1);
        RainJury long1 = Check.with(COURT, "loop 99;loop 99;talk 1;end;end;");
        life(long1, 0, 300, 0, 0, 0, 0, 1);
        CHECK.good(long1, "ROUNDS", long1.many(7), 300 - 1 - 4 + 1);
    }

    private static void leftByThe300() {
        CHECK.says("53: 4: 1 if a STEP was left to be done (by the 300 alone, not by stop), else 0");
        String ahead = "loop 99;mood;mood;mood;end;";
        String[] to300 = {"mood;mood;", "mood;stop;", "mood;when votes=9;end;", "mood;loop 1;end;", "mood;when votes>10;mood;end;",
            "stop;", "mood;stop;mood;mood;", "mood;loop 99;end;", "when votes>10;end;loop 3;end;"};
        int[] steps = {300, 300, 300, 300, 300, 299, 300, 300, 300};
        for (int i = 0; i < to300.length; i++) {
            RainJury x = Check.with(COURT, ahead + to300[i]);
            life(x, 0, steps[i], 0, 0, 0, 0, 0);
        }
        String[] beyond = {"mood;mood;mood;", "mood;mood;stop;", "mood;mood;when votes=9;end;", "mood;mood;loop 1;end;",
            "mood;loop 1;mood;end;", "mood;when votes<10;mood;end;", "loop 2;mood;end;", "mood;mood;stop;mood;"};
        for (String one : beyond) {
            RainJury x = Check.with(COURT, ahead + one);
            life(x, 0, 300, 0, 0, 0, 0, 1);
        }
        RainJury x = Check.with(COURT, "loop 99;loop 2;mood;end;end;mood;mood;mood;");
        life(x, 0, 300, 0, 0, 0, 0, 1);
    }

    private static void endsAreNone() {
        CHECK.says("(.. count as one ..; end does not)");
        RainJury x = Check.with(COURT, "loop 1;loop 1;loop 1;end;end;end;when votes=2;when votes=2;when votes=2;end;end;end;");
        life(x, 0, 6, 0, 0, 0, 0, 0);
        RainJury y = Check.with(COURT, "loop 99;loop 1;when votes=2;end;end;end;loop 1;end;");
        life(y, 0, 200, 0, 0, 0, 0, 0);
    }

    // ---- lived

    private static void livedWhats() {
        CHECK.says("53: what 0 to 4 (5; 8: there was none)");
        RainJury x = Check.with(COURT, "mood;");
        for (int what = 0; what <= 4; what++) {
            CHECK.bad(x, "none: lived(" + what + ")", x.lived(what), 8);
        }
        for (int what : new int[] {-1, 5, LEAST, MOST}) {
            CHECK.bad(x, "5 ahead of 8: lived(" + what + ")", x.lived(what), 5);
        }
        x.mean(0, 0, 1);
        x.live(-1);
        CHECK.bad(x, "none by mean(), by 5", x.lived(0), 8);
        x.live(0);
        for (int what = 0; what <= 4; what++) {
            CHECK.good(x, "lived(" + what + ")", x.lived(what), 0);
        }
        for (int what : new int[] {-1, 5, LEAST, MOST}) {
            CHECK.bad(x, "lived(" + what + ")", x.lived(what), 5);
        }
    }

    private static void livedLatest() {
        CHECK.says("53: of live() latest with STATUS 0, whatever came since");
        RainJury x = Check.with(COURT, "seat a;verdict;verdict;");
        int[] want = {1, 2, 2, 0, 0};
        life(x, 0, 3, want);
        for (int came = 0; came < 6; came++) {
            switch (came) {
                case 0: x.live(10000); break;
                case 1: x.mean(0, 5, 3); break;
                case 2: x.endDay(); break;
                case 3: x.mark(); Check.weeks(x, ""); x.back(); break;
                case 4: Check.weeks(x, "mood;"); break;
                default: Check.court(x, ""); x.live(0); break;
            }
            for (int what = 0; what < 5; what++) {
                CHECK.good(x, "lived(" + what + ") behind " + came, x.lived(what), want[what]);
            }
        }
        Check.weeks(x, "verdict;");
        life(x, 0, 1, 0, 1, 0, 1, 0);
        Check.weeks(x, "loop 99;mood;mood;mood;verdict;end;");
        life(x, 0, 300, 0, 74, 0, 74, 1);
        Check.weeks(x, "mood;");
        life(x, 0, 1, 0, 0, 0, 0, 0);
    }

    private static void livedDays() {
        CHECK.says("53: 1: DAYS that ended, 2: of these GUILTY, 3: HUNG");
        RainJury x = Check.with(COURT + "law all;", "verdict;strike b;verdict;strike a;strike c;verdict;strike b;verdict;strike a;strike b;strike c;verdict;");
        life(x, 0, 12, 0, 5, 2, 2, 0);
        CHECK.good(x, "five", x.many(6), 5);
    }

    private static void livedStays() {
        CHECK.says("LIVED by a seed: all is as it becomes by it, and stays so");
        RainJury x = Check.with(COURT, "verdict;show p;talk 3;strike c;bribe a less;");
        life(x, 0, 5, 0, 1, 1, 0, 0);
        int[] want = {3, 1, 2, 1, -1, 0, 1, 3, 1, 9, 3, 1};
        for (int what = 0; what < 12; what++) {
            CHECK.due(x, "many(" + what + ")", x.many(what), want[what], what == 4 ? 8 : 0);
        }
        CHECK.good(x, "crop(0)", x.crop(0), 3);
        CHECK.good(x, "a", x.juror(0, 0), -99);
        CHECK.good(x, "b", x.juror(1, 0), 1);
        CHECK.good(x, "c", x.juror(2, 0), 5);
    }

    // ---- mean

    private static void meanNumbers() {
        CHECK.says("54: by so many seeds (1 to 20) from one on (2; 5: the last above 9,999, too)");
        RainJury x = Check.with(COURT, "verdict;");
        int[][] fine = {{0, 1}, {0, 20}, {9999, 1}, {9998, 2}, {9980, 20}};
        for (int[] one : fine) {
            CHECK.good(x, "mean(0, " + one[0] + ", " + one[1] + ")", x.mean(0, one[0], one[1]));
            CHECK.fraction(x, "one day", 3, 1);
        }
        int[][] wrong = {{-1, 1}, {-1, 2}, {-1, 20}, {10000, 1}, {9999, 2}, {9981, 20}, {9980, 21}, {0, 0}, {5, 0}, {5, -1}, {0, 21}, {5, LEAST},
            {5, MOST}, {LEAST, 1}, {MOST, 1}, {MOST, 20}, {LEAST, LEAST}, {MOST, MOST}, {10000, 0}, {10000, -1}, {10005, -5}};
        for (int[] one : wrong) {
            CHECK.bad(x, "mean(0, " + one[0] + ", " + one[1] + ")", x.mean(0, one[0], one[1]), 5);
        }
        for (int no : new int[] {-1, 1, 4, LEAST, MOST}) {
            CHECK.bad(x, "crop " + no, x.mean(no, 0, 1), 2);
        }
        CHECK.fraction(x, "wrong ones", 3, 1);
    }

    private static void meanOrder() {
        CHECK.says("54: (2; 5; 8)");
        RainJury x = Check.with(COURT);
        CHECK.bad(x, "2 ahead of 5, 8", x.mean(1, -1, 0), 2);
        CHECK.bad(x, "5 ahead of 8", x.mean(0, 0, 0), 5);
        CHECK.bad(x, "5 ahead of 8", x.mean(0, -1, 1), 5);
        CHECK.bad(x, "8: no WEEKS", x.mean(0, 0, 1), 8);
        CHECK.fraction(x, "none", 0, 1);
    }

    private static void meanOfSeeds() {
        CHECK.says("54: the mean of how much a CROP has GROWN behind the WEEKS");
        String weeks = "loop 5;mood;verdict;end;";
        for (int many = 1; many <= 20; many++) {
            RainJury x = Check.with("juror z;weather u;weather v;follows u guilty v free u;crop k on v 7;crop l on u less 2;", weeks);
            x.endDay();
            int seed = 9980 - 300 * many;
            for (int crop = 0; crop < 2; crop++) {
                long sum = 0;
                for (int i = 0; i < many; i++) {
                    x.mark();
                    x.live(seed + i);
                    sum += x.crop(crop);
                    x.back();
                }
                CHECK.good(x, "mean of " + many, x.mean(crop, seed, many));
                CHECK.due("mean of " + many, x.top() * many, sum * x.bottom());
                CHECK.due("its bottom divides", many % x.bottom(), 0);
            }
        }
    }

    private static void meanStays() {
        CHECK.says("54: (all stays as it is)");
        RainJury x = Check.with(COURT, "show p;talk 4;strike c;bribe a;mood;verdict;mood;");
        x.talk(1);
        x.mean(0, 0, 20);
        int[] want = {3, 1, 2, 1, -1, 0, 0, 1, 0, 0, 7, 0};
        for (int what = 0; what < 12; what++) {
            CHECK.due(x, "many(" + what + ")", x.many(what), want[what], what == 4 ? 8 : 0);
        }
        CHECK.good(x, "a", x.juror(0, 0), 2);
        CHECK.good(x, "b", x.juror(1, 0), -3);
        CHECK.good(x, "crop(0)", x.crop(0), 0);
        CHECK.bad(x, "none was lived", x.lived(0), 8);
    }

    // ---- MARKS

    private static void marksAreThree() {
        CHECK.says("MARKS, at most 3; 55: a MARK more: how many there are (7)");
        RainJury x = Check.with(COURT);
        for (int i = 1; i <= 3; i++) {
            CHECK.good(x, "mark()", x.mark(), i);
        }
        x.lean(0, 50);
        for (int i = 0; i < 3; i++) {
            CHECK.bad(x, "a fourth", x.mark(), 7);
        }
        CHECK.good(x, "back()", x.back(), 2);
        CHECK.good(x, "none was made by a refused one", x.juror(0, 0), 2);
        CHECK.good(x, "room for one", x.mark(), 3);
        CHECK.bad(x, "a fourth", x.mark(), 7);
    }

    private static void backWithoutMark() {
        CHECK.says("56: how many there are left (8)");
        RainJury x = Check.with(COURT);
        x.lean(0, 50);
        CHECK.bad(x, "none", x.back(), 8);
        CHECK.good(x, "all stays", x.juror(0, 0), 50);
        x.mark();
        x.mark();
        CHECK.good(x, "one left", x.back(), 1);
        CHECK.good(x, "none left", x.back(), 0);
        CHECK.bad(x, "none", x.back(), 8);
        CHECK.bad(x, "none", x.back(), 8);
        CHECK.good(x, "a first", x.mark(), 1);
    }

    private static void backToTheLatest() {
        CHECK.says("all is taken back to the latest MARK, which is gone then");
        RainJury x = Check.with(COURT);
        for (int i = 1; i <= 3; i++) {
            x.lean(0, 10 * i);
            x.mark();
        }
        x.lean(0, 77);
        x.back();
        CHECK.good(x, "the third", x.juror(0, 0), 30);
        x.lean(0, 78);
        x.back();
        CHECK.good(x, "the second", x.juror(0, 0), 20);
        x.lean(0, 40);
        x.mark();
        x.lean(0, 79);
        x.back();
        CHECK.good(x, "a new second", x.juror(0, 0), 40);
        x.back();
        CHECK.good(x, "the first", x.juror(0, 0), 10);
    }

    private static void marksKeepAll() {
        CHECK.says("the COURT with all that became of it, the WEEKS are kept as they are");
        RainJury x = Check.with("juror a leans 2 stubborn 3 price 9;juror b leans less 3;juror c;sways a b 4;proof p 4;proof q 1;weather u;weather v;"
                + "follows u guilty v free v;crop k on u 3 on v less 5;hunger 6;law two;", "verdict;bribe a;");
        x.endDay();
        x.endDay();
        x.show(1);
        x.talk(4);
        x.bribe(0, -1);
        x.strike(2);
        int[] many = {3, 2, 2, 1, 6, 2, 2, 4, 1, 9, 3, 2};
        for (int round = 0; round < 2; round++) {
            CHECK.good(x, "mark()", x.mark(), 1);
            x.endDay();
            x.talk(9);
            Check.court(x, round == 0 ? "" : "juror z leans 9;proof zz 1;weather w;crop g on w 4;law all;");
            Check.weeks(x, "mood;stop;mood;");
            x.endDay();
            CHECK.good(x, "back()", x.back(), 0);
            for (int what = 0; what < 12; what++) {
                CHECK.good(x, "many(" + what + ")", x.many(what), many[what]);
            }
            int[][] jurors = {{-99, 2, 3, 9}, {14, -3, 0, 0}, {1, 0, 0, 0}};
            for (int i = 0; i < 3; i++) {
                for (int what = 0; what < 4; what++) {
                    CHECK.good(x, "juror(" + i + ", " + what + ")", x.juror(i, what), jurors[i][what]);
                }
            }
            CHECK.good(x, "sways(0, 1)", x.sways(0, 1), 4);
            CHECK.good(x, "proof(1)", x.proof(1), 1);
            CHECK.good(x, "follows(0, 1)", x.follows(0, 1), 1);
            CHECK.good(x, "grows(0, 1)", x.grows(0, 1), -5);
            CHECK.good(x, "crop(0)", x.crop(0), -2);
        }
        CHECK.good(x, "the WEEKS", x.live(0), 2);
        CHECK.good(x, "and what they do", x.many(6), 3);
        CHECK.good(x, "its NAMES", Check.weeks(x, "show q;when weather v;strike c;end;when crop k=0;end;"), 4);
        CHECK.bad(x, "and no others", Check.weeks(x, "show zz;"), 10);
    }

    private static void marksOfNothing() {
        CHECK.says("MARKS: of a COURT of nobody, of no WEEKS");
        RainJury x = new RainJury();
        CHECK.good(x, "mark()", x.mark(), 1);
        Check.court(x, COURT);
        Check.weeks(x, "mood;");
        CHECK.good(x, "mark()", x.mark(), 2);
        Check.court(x, "");
        CHECK.bad(x, "no WEEKS", x.live(0), 8);
        CHECK.good(x, "back()", x.back(), 1);
        CHECK.good(x, "three JURORS", x.many(0), 3);
        CHECK.good(x, "WEEKS", x.live(0), 1);
        CHECK.good(x, "back()", x.back(), 0);
        CHECK.good(x, "nobody", x.many(0), 0);
        CHECK.bad(x, "no WEATHER", x.many(8), 8);
        CHECK.bad(x, "no WEEKS", x.live(0), 8);
    }

    private static void marksKeepNoMore() {
        CHECK.says("MARKS keep the COURT and the WEEKS: TRAYS, the tape, the FRACTION and what was told latest stay");
        RainJury x = Check.with("juror a leans 1;juror b;proof p 9;weather u;crop k on u 3;law all;", "verdict;");
        x.tray(0, 0, 1);
        x.mark();
        x.write(0, 0, 5);
        x.tray(1, 2, 3);
        x.drawn(1, 0, 1);
        x.bestOrder(1);
        x.bribes(1, 1, 0);
        x.live(0);
        x.feed(0, 0, 0, 0, 0);
        CHECK.bad(x, "a FAULT", x.weeks(1), 10);
        x.feed(0, 0, 0, 0, 0);
        x.back();
        CHECK.good(x, "a TRAY", x.read(0, 0), 5);
        CHECK.good(x, "another", x.read(1, 2), 0);
        CHECK.fraction(x, "the FRACTION", 1, 2);
        CHECK.good(x, "BEST ORDER", x.orderAt(0), 0);
        CHECK.good(x, "BRIBES", x.bribeSet(), 2);
        CHECK.good(x, "LIVED", x.lived(1), 1);
        CHECK.due("fault(0)", x.fault(0), 1);
        CHECK.due("fault(1)", x.fault(1), 0);
        CHECK.due("the tape", x.feed(0, 0, 0, 0, 0), 40);
        CHECK.good(x, "DAY 0", x.many(6), 0);
    }
}

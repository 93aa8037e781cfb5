/** Promises 52 to 56: WEEKS lived, their means, MARKS. */
public final class WeekTest {
    private static final Check CHECK = new Check("WeekTest");
    private static final String COURT = "juror a leans 2 price 99;juror b leans less 3;juror c leans 1;proof p 4;weather u;weather v;"
            + "follows u guilty v free u;follows v guilty u free v;crop k on u 3 on v less 5;";

    public static void main(String[] args) {
        steps();
        misses();
        missesAtLimits();
        tests();
        loops();
        stops();
        threeHundred();
        moods();
        wrongCalls();
        livedStays();
        means();
        marks();
        marksKeepAll();
        CHECK.end();
    }

    private static void life(RainJury x, String told, int... want) {
        for (int i = 0; i < want.length; i++) {
            CHECK.good(x, "lived(" + i + ") of " + told, x.lived(i), want[i]);
        }
    }

    private static void steps() {
        RainJury x = Check.with(COURT, "show p;talk 2;strike c;bribe b less;verdict;");
        CHECK.good(x, "live(0)", x.live(0), 5);
        life(x, "five", 0, 1, 0, 0, 0);
        CHECK.good(x, "a day ended", x.many(6), 1);
        CHECK.good(x, "FREE", x.many(8), 0);
        CHECK.good(x, "crop(0)", x.crop(0), 3);
        RainJury y = Check.with(COURT, "show p;talk 2;strike c;bribe b less;bribe a;");
        CHECK.good(y, "live(0)", y.live(0), 5);
        CHECK.good(y, "SHOWN", y.many(11), 1);
        CHECK.good(y, "ROUND", y.many(7), 2);
        CHECK.good(y, "SEATED", y.many(10), 3);
        CHECK.good(y, "juror(1, 0)", y.juror(1, 0), -99);
        CHECK.good(y, "juror(0, 0)", y.juror(0, 0), 99);
        CHECK.good(y, "juror(2, 0)", y.juror(2, 0), 5);
        CHECK.good(y, "COINS", y.many(9), 99);
        CHECK.good(y, "it goes on from there", y.live(0), 5);
        life(y, "again", 2, 0, 0, 0, 0);
        CHECK.good(y, "ROUND", y.many(7), 4);
    }

    private static void misses() {
        RainJury x = Check.with(COURT, "show p;show p;seat a;strike a;strike a;bribe a;seat a;seat a;bribe b;");
        CHECK.good(x, "live(0)", x.live(0), 9);
        life(x, "misses", 5, 0, 0, 0, 0);
        CHECK.good(x, "no COINS", x.many(9), 0);
        RainJury y = Check.with(COURT + "law all;", "verdict;strike b;verdict;verdict;strike a;strike b;strike c;verdict;");
        CHECK.good(y, "live(0)", y.live(0), 8);
        life(y, "days", 0, 4, 1, 3, 0);
        CHECK.good(y, "a life anew", y.live(0), 8);
        life(y, "days anew", 0, 4, 1, 3, 0);
    }

    private static void missesAtLimits() {
        RainJury x = Check.with(COURT, "loop 99;talk 99;end;loop 99;bribe a;end;talk 99;talk 99;talk 99;bribe a;bribe a;bribe a;bribe b;");
        CHECK.good(x, "live(0)", x.live(0), 2 + 99 + 99 + 7);
        CHECK.good(x, "ROUND 9,999", x.many(7), 9999);
        CHECK.good(x, "COINS 9,999", x.many(9), 9999);
        life(x, "limits", 2, 0, 0, 0, 0);
        Check.weeks(x, "talk 1;");
        x.live(0);
        life(x, "a ROUND more", 1, 0, 0, 0, 0);
    }

    private static void tested(String test, boolean holds) {
        RainJury x = Check.with(COURT, "verdict;when " + test + ";verdict;verdict;end;");
        CHECK.good(x, "when " + test, x.live(0), holds ? 4 : 2);
    }

    /** Behind a day that ended GUILTY it is v, k has GROWN 3, and 2 vote GUILTY. */
    private static void tests() {
        tested("votes=2", true);
        tested("votes=1", false);
        tested("votes<3", true);
        tested("votes<2", false);
        tested("votes>1", true);
        tested("votes>2", false);
        tested("weather v", true);
        tested("weather u", false);
        tested("crop k=3", true);
        tested("crop k=less 3", false);
        tested("crop k<4", true);
        tested("crop k<3", false);
        tested("crop k>2", true);
        tested("crop k>3", false);
        tested("crop k>less 9999", true);
        tested("crop k<9999", true);
    }

    private static void loops() {
        RainJury x = Check.with(COURT, "loop 3;verdict;end;");
        CHECK.good(x, "a loop counts once", x.live(0), 4);
        life(x, "three days", 0, 3, 3, 0, 0);
        RainJury y = Check.with(COURT, "loop 3;loop 2;verdict;end;end;");
        CHECK.good(y, "the inner one each time", y.live(0), 1 + 3 + 6);
        RainJury z = Check.with(COURT, "loop 2;when votes>9;verdict;end;when votes<9;mood;end;end;");
        CHECK.good(z, "whens in a loop", z.live(0), 1 + 2 * 3);
        RainJury empty = Check.with(COURT, "loop 99;loop 2;loop 99;end;end;end;verdict;");
        CHECK.good(empty, "loops of nothing", empty.live(0), 1 + 99 + 198 + 1);
        life(empty, "loops of nothing", 0, 1, 1, 0, 0);
    }

    private static void stops() {
        RainJury x = Check.with(COURT, "verdict;stop;verdict;");
        CHECK.good(x, "stop", x.live(0), 2);
        life(x, "stop", 0, 1, 1, 0, 0);
        RainJury y = Check.with(COURT, "loop 9;verdict;when weather u;stop;end;end;");
        CHECK.good(y, "stop in a loop", y.live(0), 1 + 2 + 2 + 1);
        life(y, "stop in a loop", 0, 2, 2, 0, 0);
    }

    private static void limit(String weeks, int steps, int left) {
        RainJury x = Check.with(COURT, weeks);
        CHECK.good(x, "live of '" + weeks + "'", x.live(0), steps);
        CHECK.good(x, "lived(4) of '" + weeks + "'", x.lived(4), left);
    }

    private static void threeHundred() {
        String most = "loop 99;mood;mood;mood;end;";
        limit(most + "mood;", 299, 0);
        limit(most + "mood;mood;", 300, 0);
        limit(most + "mood;mood;mood;", 300, 1);
        limit(most + "mood;stop;", 300, 0);
        limit(most + "mood;stop;mood;", 300, 0);
        limit(most + "mood;mood;stop;", 300, 1);
        limit(most + "loop 1;mood;end;", 300, 0);
        limit(most + "loop 2;mood;end;", 300, 1);
        limit(most + "mood;loop 99;end;", 300, 0);
        limit(most + "mood;loop 99;end;loop 1;end;", 300, 1);
        limit(most + "mood;when votes>10;mood;end;", 300, 0);
        limit(most + "mood;when votes<10;mood;end;", 300, 1);
        limit(most + "mood;mood;when votes>10;end;", 300, 1);
    }

    private static void moods() {
        RainJury x = Check.with("juror a;juror b leans 98;juror c;juror d leans less 98;", "strike c;mood;mood;");
        int[] want = {0, 98, 0, -98};
        for (int seed = 0; seed <= 9999; seed += 1111) {
            x.mark();
            CHECK.good(x, "live(" + seed + ")", x.live(seed), 3);
            long s = seed;
            int[] lean = want.clone();
            for (int mood = 0; mood < 2; mood++) {
                for (int i = 0; i < 4; i++) {
                    if (i != 2) {
                        s = (s * 2927 + 10627) % 65536;
                        lean[i] = Math.max(-99, Math.min(99, lean[i] + (int) (s / 8 % 9) - 4));
                    }
                }
            }
            for (int i = 0; i < 4; i++) {
                CHECK.good(x, "mood by " + seed, x.juror(i, 0), lean[i]);
            }
            x.back();
        }
        // By hand: 0 * 2,927 + 10,627 is 10,627; by 8 1,328; by 9 is left 5; less 4 is 1.
        RainJury y = Check.with("juror a;", "mood;");
        y.live(0);
        CHECK.good(y, "the first draw of seed 0", y.juror(0, 0), 1);
    }

    private static void wrongCalls() {
        RainJury x = Check.with(COURT);
        CHECK.bad(x, "no WEEKS", x.live(0), 8);
        CHECK.bad(x, "live(-1)", x.live(-1), 5);
        CHECK.bad(x, "live(10000)", x.live(10000), 5);
        CHECK.bad(x, "none lived", x.lived(0), 8);
        CHECK.bad(x, "lived(5)", x.lived(5), 5);
        CHECK.bad(x, "lived(-1)", x.lived(-1), 5);
        CHECK.bad(x, "no WEEKS", x.mean(0, 0, 1), 8);
        CHECK.bad(x, "no such CROP", x.mean(1, -1, 1), 2);
        CHECK.bad(x, "no such CROP", x.mean(-1, 0, 1), 2);
        CHECK.bad(x, "seed -1", x.mean(0, -1, 1), 5);
        CHECK.bad(x, "seed 10000", x.mean(0, 10000, 1), 5);
        CHECK.bad(x, "many 0", x.mean(0, 0, 0), 5);
        CHECK.bad(x, "many 21", x.mean(0, 0, 21), 5);
        CHECK.bad(x, "the last 10000", x.mean(0, 9981, 20), 5);
        CHECK.bad(x, "seed max", x.mean(0, Integer.MAX_VALUE, 20), 5);
        CHECK.bad(x, "the last 9999, no WEEKS", x.mean(0, 9980, 20), 8);
        CHECK.good(x, "WEEKS", Check.weeks(x, "mood;"), 1);
        CHECK.good(x, "live(9999)", x.live(9999), 1);
        CHECK.good(x, "the last 9999", x.mean(0, 9980, 20));
    }

    private static void livedStays() {
        RainJury x = Check.with(COURT, "seat a;verdict;");
        x.mark();
        x.live(0);
        x.back();
        life(x, "taken back", 1, 1, 1, 0, 0);
        x.live(-1);
        x.mean(0, 0, 5);
        Check.court(x, "");
        x.live(0);
        life(x, "whatever came", 1, 1, 1, 0, 0);
    }

    private static void means() {
        RainJury x = Check.with(COURT, "verdict;verdict;");
        CHECK.good(x, "mean", x.mean(0, 7, 20));
        CHECK.fraction(x, "3 less 5", -2, 1);
        CHECK.good(x, "all stays", x.many(6), 0);
        CHECK.bad(x, "none lived", x.lived(0), 8);
        x.live(3);
        CHECK.good(x, "mean", x.mean(0, 0, 1));
        CHECK.fraction(x, "what has GROWN ahead, too", -4, 1);
        RainJury y = Check.with("juror a;weather u;weather v;follows u guilty v free u;crop k on v 6;", "mood;verdict;verdict;");
        int sum = 0;
        for (int seed = 40; seed < 51; seed++) {
            y.mark();
            y.live(seed);
            sum += y.crop(0);
            y.back();
        }
        y.mean(0, 40, 11);
        CHECK.due("the mean is no whole number", y.bottom() > 1, true);
        CHECK.due("mean of 11", y.top() * 11, sum * y.bottom());
        CHECK.due("without a common divisor", gcd(y.top(), y.bottom()), 1);
        CHECK.bad(y, "wrong", y.mean(1, 0, 1), 2);
        CHECK.due("the FRACTION stays", y.top() * 11, sum * y.bottom());
        RainJury z = Check.with("crop k;", "mood;");
        z.mean(0, 0, 20);
        CHECK.fraction(z, "0 of 20", 0, 1);
    }

    private static long gcd(long a, long b) {
        return b == 0 ? Math.abs(a) : gcd(b, a % b);
    }

    private static void marks() {
        RainJury x = Check.with(COURT);
        CHECK.bad(x, "back()", x.back(), 8);
        for (int i = 1; i <= 3; i++) {
            x.lean(0, i);
            CHECK.good(x, "mark()", x.mark(), i);
        }
        CHECK.bad(x, "mark()", x.mark(), 7);
        x.lean(0, 50);
        for (int i = 3; i >= 1; i--) {
            CHECK.good(x, "back()", x.back(), i - 1);
            CHECK.good(x, "taken back", x.juror(0, 0), i);
        }
        CHECK.bad(x, "back()", x.back(), 8);
        CHECK.good(x, "stays", x.juror(0, 0), 1);
        CHECK.good(x, "mark() anew", x.mark(), 1);
    }

    private static void marksKeepAll() {
        RainJury x = Check.with(COURT + "hunger 5;law two;", "verdict;show p;");
        x.endDay();
        x.show(0);
        x.talk(3);
        x.bribe(0, -1);
        x.strike(2);
        x.tray(0, 0, 1);
        int[] was = new int[12];
        for (int what = 0; what < 12; what++) {
            was[what] = x.many(what);
        }
        x.mark();
        Check.court(x, "juror z leans 44;proof y 1;weather w;crop q on w 9;");
        Check.weeks(x, "mood;");
        x.endDay();
        x.write(0, 0, 5);
        CHECK.good(x, "back()", x.back(), 0);
        for (int what = 0; what < 12; what++) {
            CHECK.good(x, "many(" + what + ")", x.many(what), was[what]);
        }
        CHECK.good(x, "juror(0, 0)", x.juror(0, 0), -99);
        CHECK.good(x, "juror(0, 3)", x.juror(0, 3), 99);
        CHECK.good(x, "follows(0, 1)", x.follows(0, 1), 1);
        CHECK.good(x, "grows(0, 1)", x.grows(0, 1), -5);
        CHECK.good(x, "crop(0)", x.crop(0), 3);
        CHECK.good(x, "TRAYS stay", x.read(0, 0), 5);
        CHECK.good(x, "WEEKS as they were", x.live(0), 2);
        CHECK.good(x, "NAMES as they were", Check.weeks(x, "show p;strike a;"), 2);
        CHECK.bad(x, "and no others", Check.weeks(x, "show y;"), 10);
        RainJury y = new RainJury();
        y.mark();
        Check.court(y, COURT);
        Check.weeks(y, "mood;");
        y.back();
        CHECK.good(y, "nobody again", y.many(0), 0);
        CHECK.bad(y, "no WEEKS again", y.live(0), 8);
    }
}

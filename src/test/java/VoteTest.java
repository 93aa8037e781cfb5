/** Promises 28 to 38: VOTES, VERDICTS, SWING, what talk will come to. */
public final class VoteTest {
    private static final Check CHECK = new Check("VoteTest");

    public static void main(String[] args) {
        votes();
        verdicts();
        swings();
        lacks();
        nearest();
        pulls();
        pullsAreCut();
        behind();
        settles();
        after();
        soonest();
        CHECK.end();
    }

    /** A COURT of so many that vote GUILTY, and behind them so many that vote FREE. */
    private static RainJury jury(int guilty, int free, String law) {
        StringBuilder text = new StringBuilder();
        for (int i = 0; i < guilty + free; i++) {
            text.append("juror j").append((char) ('a' + i)).append(i < guilty ? " leans 1;" : ";");
        }
        return Check.with(text.append("law ").append(law).append(';').toString());
    }

    private static void votes() {
        RainJury x = Check.with("juror a leans 1;juror b;juror c leans less 1;juror d leans 99;");
        CHECK.good(x, "votes(0)", x.votes(0), 2);
        CHECK.good(x, "votes(1)", x.votes(1), 2);
        x.strike(0);
        CHECK.good(x, "votes(0)", x.votes(0), 1);
        x.strike(1);
        CHECK.good(x, "votes(1)", x.votes(1), 1);
        CHECK.bad(x, "votes(2)", x.votes(2), 5);
        CHECK.bad(x, "votes(-1)", x.votes(-1), 5);
    }

    private static int due(int law, int guilty, int free) {
        double part = (double) guilty / (guilty + free);
        if (guilty + free == 0) {
            return 0;
        }
        switch (law) {
            case 0: return part > 0.5 ? 1 : -1;
            case 1: return free == 0 ? 1 : guilty == 0 ? -1 : 0;
            default: return part > 0.6666 ? 1 : part < 0.3334 ? -1 : 0;
        }
    }

    private static void verdicts() {
        String[] laws = {"most", "all", "two"};
        for (int law = 0; law < 3; law++) {
            for (int guilty = 0; guilty <= 10; guilty++) {
                for (int free = 0; guilty + free <= 10; free++) {
                    RainJury x = jury(guilty, free, laws[law]);
                    String told = laws[law] + " of " + guilty + ", " + free;
                    CHECK.good(x, told, x.verdict(), due(law, guilty, free));
                    for (int by = 0; by < 3; by++) {
                        CHECK.good(x, told + " by " + by, x.verdictBy(by), due(by, guilty, free));
                    }
                    CHECK.good(x, told + " after(0)", x.after(0), due(law, guilty, free));
                }
            }
        }
        RainJury x = jury(2, 2, "two");
        CHECK.bad(x, "verdictBy(3)", x.verdictBy(3), 5);
        CHECK.bad(x, "verdictBy(-1)", x.verdictBy(-1), 5);
        CHECK.good(x, "2 of 4 by two", x.verdict(), 0);
        CHECK.good(x, "2 of 3 by two", jury(2, 1, "two").verdict(), 1);
        CHECK.good(x, "1 of 3 by two", jury(1, 2, "two").verdict(), -1);
    }

    private static void swings() {
        String[] laws = {"most", "all", "two"};
        for (int law = 0; law < 3; law++) {
            for (int guilty = 0; guilty <= 5; guilty++) {
                for (int free = 0; free <= 5; free++) {
                    RainJury x = jury(guilty, free, laws[law]);
                    int want = 0;
                    for (int i = 0; i < guilty + free; i++) {
                        int without = i < guilty ? due(law, guilty - 1, free) : due(law, guilty, free - 1);
                        want |= without == due(law, guilty, free) ? 0 : 1 << i;
                    }
                    CHECK.good(x, "swing() by " + laws[law] + " of " + guilty + ", " + free, x.swing(), want);
                }
            }
        }
        RainJury x = jury(1, 0, "most");
        CHECK.good(x, "the only one", x.swing(), 1);
        RainJury y = jury(2, 3, "most");
        y.strike(2);
        y.strike(0);
        CHECK.good(y, "of SEATED ones", y.swing(), 0);
        y.seat(0);
        CHECK.good(y, "of 2 to 2", y.swing(), 24);
    }

    private static void lacks() {
        CHECK.good(new RainJury(), "2 of 5", jury(2, 3, "most").lacks(), 1);
        CHECK.good(new RainJury(), "2 of 4", jury(2, 2, "most").lacks(), 1);
        CHECK.good(new RainJury(), "0 of 10", jury(0, 10, "most").lacks(), 6);
        CHECK.good(new RainJury(), "0 of 9", jury(0, 9, "most").lacks(), 5);
        CHECK.good(new RainJury(), "3 of 5", jury(3, 2, "most").lacks(), 0);
        CHECK.good(new RainJury(), "2 of 5 by all", jury(2, 3, "all").lacks(), 3);
        CHECK.good(new RainJury(), "5 of 5 by all", jury(5, 0, "all").lacks(), 0);
        CHECK.good(new RainJury(), "0 of 3 by two", jury(0, 3, "two").lacks(), 2);
        CHECK.good(new RainJury(), "0 of 4 by two", jury(0, 4, "two").lacks(), 3);
        CHECK.good(new RainJury(), "1 of 10 by two", jury(1, 9, "two").lacks(), 6);
        CHECK.good(new RainJury(), "6 of 9 by two", jury(6, 3, "two").lacks(), 0);
        RainJury x = jury(0, 1, "most");
        CHECK.good(x, "1 of 1", x.lacks(), 1);
        x.strike(0);
        CHECK.bad(x, "nobody", x.lacks(), 8);
    }

    private static void nearest() {
        RainJury x = Check.with("juror a leans 3;juror b leans less 2;juror c leans less 1;juror d leans 2;juror e;");
        CHECK.good(x, "nearest()", x.nearest(), 4);
        x.strike(4);
        CHECK.good(x, "the first of two", x.nearest(), 2);
        x.strike(2);
        CHECK.good(x, "nearest()", x.nearest(), 3);
        x.strike(3);
        CHECK.good(x, "the first of two", x.nearest(), 0);
        x.strike(0);
        CHECK.good(x, "nearest()", x.nearest(), 1);
        x.strike(1);
        CHECK.bad(x, "nobody", x.nearest(), 8);
    }

    private static void pulls() {
        RainJury x = Check.with("juror a leans 1;juror b leans less 1;juror c;juror d stubborn 4;"
                + "sways a d 9;sways b d 4;sways c d 20;sways b c 1;");
        CHECK.good(x, "more than STUBBORN", x.pull(3), 5);
        CHECK.good(x, "-1", x.pull(2), -1);
        CHECK.good(x, "nobody", x.pull(0), 0);
        x.lean(2, 1);
        CHECK.good(x, "all three", x.pull(3), 25);
        x.strike(0);
        x.lean(2, 0);
        CHECK.good(x, "no more than STUBBORN", x.pull(3), 0);
        x.lean(2, -1);
        CHECK.good(x, "down", x.pull(3), -24);
        x.strike(3);
        CHECK.bad(x, "not SEATED", x.pull(3), 9);
        CHECK.bad(x, "pull(4)", x.pull(4), 2);
        CHECK.bad(x, "pull(-1)", x.pull(-1), 2);
    }

    /** A LEANING stays from -99 to 99, so it moves no further than there is room. */
    private static void pullsAreCut() {
        RainJury x = Check.with("juror a leans 1;juror b stubborn 5 price 2;juror c stubborn 6;sways a b 6;sways a c 6;hunger 1;");
        int[] leanings = {99, 98, 94, 93, 92, 0, -99};
        int[] moves = {0, 1, 5, 6, 6, 6, 6};
        for (int side = 1; side >= -1; side -= 2) {
            x.lean(0, side);
            for (int i = 0; i < leanings.length; i++) {
                x.lean(1, side * leanings[i]);
                CHECK.good(x, "at " + side * leanings[i] + " to " + side, x.pull(1), side * moves[i]);
                CHECK.good(x, "all stays", x.juror(1, 0), side * leanings[i]);
            }
            x.lean(2, side * 98);
            CHECK.good(x, "no more than STUBBORN, near the end", x.pull(2), 0);
            x.bribe(1, side);
            CHECK.good(x, "bribed to where it is pulled", x.pull(1), 0);
            x.bribe(1, -side);
            CHECK.good(x, "bribed away from it", x.pull(1), 6 * side);
        }
        CHECK.good(x, "the ROUND stays", x.many(7), 0);
    }

    private static void behind() {
        RainJury x = Check.with("juror a;juror b;juror c;juror d;juror e;sways a b 1;sways b c 20;sways c a 1;"
                + "sways d c 0;sways d e 1;sways e d 1;sways a d 3;");
        CHECK.good(x, "behind(0)", x.behind(0), 6);
        CHECK.good(x, "behind(1)", x.behind(1), 5);
        CHECK.good(x, "behind(2)", x.behind(2), 3);
        CHECK.good(x, "behind(3)", x.behind(3), 23);
        CHECK.good(x, "behind(4)", x.behind(4), 15);
        x.strike(2);
        CHECK.good(x, "SEATED or not", x.behind(0), 6);
        CHECK.bad(x, "behind(5)", x.behind(5), 2);
        CHECK.bad(x, "behind(-1)", x.behind(-1), 2);
        RainJury y = Check.with("juror a;juror b;juror c;juror d;juror e;juror f;juror g;juror h;juror i;juror j;"
                + "sways j i 1;sways i h 1;sways h g 1;sways g f 1;sways f e 1;sways e d 1;sways d c 1;sways c b 1;sways b a 1;");
        CHECK.good(y, "a long row", y.behind(0), 1022);
        CHECK.good(y, "its last", y.behind(9), 0);
    }

    private static void settles() {
        RainJury x = Check.with("juror a leans 1;juror b;sways a b 20;hunger 1;");
        CHECK.good(x, "LEAD", x.settles(0), 5);
        CHECK.good(x, "CYCLE", x.settles(1), 1);
        CHECK.good(x, "all stays", x.juror(1, 0), 0);
        CHECK.good(x, "all stays", x.many(7), 0);
        CHECK.bad(x, "settles(2)", x.settles(2), 5);
        CHECK.bad(x, "settles(-1)", x.settles(-1), 5);
        x.strike(0);
        CHECK.good(x, "LEAD of 0", x.settles(0), 0);
        CHECK.good(x, "CYCLE of 1", x.settles(1), 1);
        RainJury slow = Check.with("juror a leans 1;juror b leans less 99;sways a b 1;");
        CHECK.good(slow, "LEAD of 198", slow.settles(0), 198);
        CHECK.good(slow, "CYCLE", slow.settles(1), 1);
        RainJury wheel = Check.with("juror a leans less 1;juror b leans 2;juror c leans less 1;"
                + "sways a c 4;sways b a 2;sways c b 4;hunger 1;");
        CHECK.good(wheel, "LEAD of a wheel", wheel.settles(0), 0);
        CHECK.good(wheel, "CYCLE of a wheel", wheel.settles(1), 2);
        wheel.talk(1);
        wheel.lean(0, 3);
        wheel.lean(1, -2);
        wheel.lean(2, 3);
        // Behind a ROUND more a is 1, which the wheel never was, and then all goes up or down.
        CHECK.good(wheel, "CYCLE", wheel.settles(1), 1);
        String last = "juror c leans less 99;sways a b 1;sways b c 1;";
        RainJury at200 = Check.with("juror a leans 1;juror b leans less 1;" + last);
        CHECK.good(at200, "LEAD of 199", at200.settles(0), 199);
        CHECK.good(at200, "CYCLE at ROUND 200", at200.settles(1), 1);
        RainJury at201 = Check.with("juror a leans 1;juror b leans less 2;" + last);
        CHECK.bad(at201, "not within 200", at201.settles(0), 8);
        CHECK.bad(at201, "not within 200", at201.settles(1), 8);
    }

    private static void after() {
        RainJury x = Check.with("juror a leans 3;juror b leans 1;juror c leans less 2;hunger 2;law all;");
        CHECK.good(x, "after(0)", x.after(0), 0);
        CHECK.good(x, "after(3)", x.after(3), 0);
        CHECK.good(x, "after(4)", x.after(4), 1);
        CHECK.good(x, "after(200)", x.after(200), 1);
        CHECK.bad(x, "after(201)", x.after(201), 5);
        CHECK.bad(x, "after(-1)", x.after(-1), 5);
        CHECK.good(x, "many(7)", x.many(7), 0);
        CHECK.good(x, "juror(2, 0)", x.juror(2, 0), -2);
        x.talk(1);
        CHECK.good(x, "after(3)", x.after(3), 1);
        CHECK.good(x, "after(2)", x.after(2), 0);
    }

    private static void soonest() {
        RainJury x = Check.with("juror a leans 3;juror b leans 1;juror c leans less 2;hunger 2;law all;");
        CHECK.good(x, "soonest(1)", x.soonest(1), 4);
        CHECK.good(x, "soonest(0)", x.soonest(0), 0);
        CHECK.bad(x, "soonest(-1)", x.soonest(-1), 8);
        CHECK.bad(x, "soonest(2)", x.soonest(2), 5);
        CHECK.bad(x, "soonest(-2)", x.soonest(-2), 5);
        x.talk(1);
        CHECK.good(x, "soonest(1)", x.soonest(1), 3);
        CHECK.good(x, "many(7)", x.many(7), 1);
        RainJury far = Check.with("juror a leans 1;juror b leans less 99;sways a b 1;hunger 99;law all;");
        CHECK.good(far, "ROUND 100", far.soonest(1), 100);
        far.strike(0);
        CHECK.good(far, "FREE", far.soonest(-1), 0);
        // c leans above 0 behind ROUND 199, and d, whose turn is ahead of c's, moves from ROUND 200 on.
        String chain = "juror a leans 1;juror b leans less 99;juror d leans less 1 stubborn 1;juror c leans less 99;"
                + "sways a b 1;sways b c 1;sways a d 1;sways c d 1;law all;";
        RainJury at200 = Check.with(chain);
        CHECK.good(at200, "ROUND 200", at200.soonest(1), 200);
        CHECK.good(at200, "after(199)", at200.after(199), 0);
        CHECK.good(at200, "after(200)", at200.after(200), 1);
        at200.lean(2, -2);
        CHECK.bad(at200, "ROUND 201", at200.soonest(1), 8);
    }
}

/** Promises 28 to 38, VOTES and VERDICTS, a sentence at a time: just within each bound and just beyond it. */
public final class VoteEdgeTest {
    private static final Check CHECK = new Check("VoteEdgeTest");
    private static final int MOST = Integer.MAX_VALUE;
    private static final int LEAST = Integer.MIN_VALUE;

    public static void main(String[] args) {
        votesAboveZero();
        votesWhats();
        votesOfNobody();
        mostIsMoreThanHalf();
        allIsAll();
        twoIsTwoThirds();
        nobodyIsHung();
        lawsByNumber();
        verdictNow();
        swingSeated();
        swingOfNobody();
        swingOfOne();
        lacksNone();
        lacksOfNobody();
        lacksByLaw();
        nearestMoves();
        nearestFirst();
        nearestSeated();
        pullNumbers();
        pullSeated();
        pullOfNobody();
        pullStubborn();
        pullIsCut();
        behindNumbers();
        behindNotItself();
        behindMoreThanZero();
        behindAndSoOn();
        settlesWhats();
        settlesAtOnce();
        settlesWithoutHunger();
        settlesWithin200();
        settlesCycles();
        settlesOfTen();
        settlesSeated();
        afterNumbers();
        afterStays();
        afterHunger();
        soonestVerdicts();
        soonestNow();
        soonestTo200();
        soonestHunger();
        beyondTheRoundLimit();
        CHECK.end();
    }

    /** A COURT of so many that vote GUILTY, and behind them so many that vote FREE. */
    private static RainJury jury(int guilty, int free, String law) {
        StringBuilder text = new StringBuilder();
        for (int i = 0; i < guilty + free; i++) {
            text.append("juror j").append((char) ('a' + i)).append(i < guilty ? " leans 1;" : ";");
        }
        return Check.with(text.append("law ").append(law).append(';').toString());
    }

    // ---- VOTES and VERDICTS

    private static void votesAboveZero() {
        CHECK.says("VOTES: a JUROR votes GUILTY if it leans above 0, else FREE");
        RainJury x = Check.with("juror a;");
        for (int leaning = -99; leaning <= 99; leaning++) {
            x.lean(0, leaning);
            CHECK.due("votes(0) at " + leaning, x.votes(0), leaning > 0 ? 1 : 0);
            CHECK.due("votes(1) at " + leaning, x.votes(1), leaning > 0 ? 0 : 1);
        }
    }

    private static void votesWhats() {
        CHECK.says("28: SEATED JURORS that vote GUILTY (what 0), FREE (1) (5)");
        RainJury x = jury(4, 6, "most");
        CHECK.good(x, "votes(0)", x.votes(0), 4);
        CHECK.good(x, "votes(1)", x.votes(1), 6);
        for (int what : new int[] {-1, 2, LEAST, MOST}) {
            CHECK.bad(x, "votes(" + what + ")", x.votes(what), 5);
        }
        x.strike(0);
        x.strike(9);
        CHECK.good(x, "SEATED ones", x.votes(0), 3);
        CHECK.good(x, "SEATED ones", x.votes(1), 5);
    }

    private static void votesOfNobody() {
        CHECK.says("28: how many: nobody SEATED");
        RainJury x = jury(1, 1, "most");
        x.strike(0);
        x.strike(1);
        for (int what = 0; what < 2; what++) {
            CHECK.good(x, "struck ones", x.votes(what), 0);
            RainJury y = new RainJury();
            CHECK.good(y, "no JURORS", y.votes(what), 0);
        }
    }

    private static void verdicts(String law, int guilty, int free, int want) {
        String told = law + " of " + guilty + " and " + free;
        RainJury x = jury(guilty, free, law);
        CHECK.good(x, told, x.verdict(), want);
        int number = law.equals("most") ? 0 : law.equals("all") ? 1 : 2;
        RainJury y = jury(guilty, free, number == 0 ? "all" : "most");
        CHECK.good(y, told + " by number", y.verdictBy(number), want);
        CHECK.good(x, told + " at the day's end", x.endDay(), want);
    }

    private static void mostIsMoreThanHalf() {
        CHECK.says("most: GUILTY if more than half of them vote so, else FREE");
        for (int all = 1; all <= 10; all++) {
            for (int guilty = 0; guilty <= all; guilty++) {
                verdicts("most", guilty, all - guilty, guilty > all - guilty ? 1 : -1);
            }
        }
    }

    private static void allIsAll() {
        CHECK.says("all: GUILTY, FREE if all vote so, else HUNG");
        for (int all = 1; all <= 10; all++) {
            for (int guilty = 0; guilty <= all; guilty++) {
                verdicts("all", guilty, all - guilty, guilty == all ? 1 : guilty == 0 ? -1 : 0);
            }
        }
    }

    private static void twoIsTwoThirds() {
        CHECK.says("two: GUILTY if two thirds at least do, FREE if two thirds at least vote FREE, else HUNG");
        int[] least = {0, 1, 2, 2, 3, 4, 4, 5, 6, 6, 7};
        for (int all = 1; all <= 10; all++) {
            for (int guilty = 0; guilty <= all; guilty++) {
                int want = guilty >= least[all] ? 1 : all - guilty >= least[all] ? -1 : 0;
                verdicts("two", guilty, all - guilty, want);
            }
        }
    }

    private static void nobodyIsHung() {
        CHECK.says("nobody SEATED: HUNG");
        for (String law : new String[] {"most", "all", "two"}) {
            RainJury x = jury(1, 1, law);
            x.strike(0);
            x.strike(1);
            CHECK.good(x, "struck, by " + law, x.verdict(), 0);
            for (int by = 0; by < 3; by++) {
                CHECK.good(x, "struck, by " + by, x.verdictBy(by), 0);
            }
            RainJury y = Check.with("law " + law + ";");
            CHECK.good(y, "no JURORS, by " + law, y.verdict(), 0);
            CHECK.good(y, "after(200)", y.after(200), 0);
        }
    }

    private static void lawsByNumber() {
        CHECK.says("30: the VERDICT by a LAW (0 to 2) (5)");
        RainJury x = jury(3, 2, "all");
        int[] want = {1, 0, 0};
        for (int law = 0; law < 3; law++) {
            CHECK.good(x, "verdictBy(" + law + ")", x.verdictBy(law), want[law]);
        }
        for (int law : new int[] {-1, 3, LEAST, MOST}) {
            CHECK.bad(x, "verdictBy(" + law + ")", x.verdictBy(law), 5);
        }
        CHECK.good(x, "its own LAW stays", x.many(5), 1);
    }

    private static void verdictNow() {
        CHECK.says("29: the VERDICT as all lean now");
        RainJury x = jury(1, 0, "most");
        CHECK.good(x, "as told", x.verdict(), 1);
        x.lean(0, 0);
        CHECK.good(x, "at 0", x.verdict(), -1);
        x.lean(0, 1);
        CHECK.good(x, "at 1", x.verdict(), 1);
    }

    // ---- SWING, lacks, nearest

    private static void swingSeated() {
        CHECK.says("SWING: a SEATED JUROR without whom the VERDICT, as all lean now, would be another one");
        RainJury x = jury(3, 2, "most");
        CHECK.good(x, "3 and 2", x.swing(), 7);
        x.strike(0);
        CHECK.good(x, "2 and 2: without one that votes FREE", x.swing(), 24);
        x.strike(1);
        CHECK.good(x, "1 and 2: FREE all the same", x.swing(), 0);
        RainJury y = jury(2, 1, "all");
        CHECK.good(y, "2 and 1 by all", y.swing(), 4);
        y.strike(0);
        CHECK.good(y, "1 and 1 by all", y.swing(), 6);
        RainJury z = jury(2, 1, "two");
        CHECK.good(z, "2 and 1 by two", z.swing(), 3);
        RainJury ten = jury(1, 9, "all");
        CHECK.good(ten, "1 and 9 by all", ten.swing(), 1);
        RainJury last = Check.with("juror a;juror b;juror c;juror d;juror e;juror f;juror g;juror h;juror i;juror j leans 1;law all;");
        CHECK.good(last, "the tenth", last.swing(), 512);
    }

    private static void swingOfNobody() {
        CHECK.says("31: the set of JURORS that SWING it: of nobody");
        RainJury x = new RainJury();
        CHECK.good(x, "no JURORS", x.swing(), 0);
        RainJury y = jury(1, 0, "most");
        y.strike(0);
        CHECK.good(y, "none is SEATED", y.swing(), 0);
    }

    private static void swingOfOne() {
        CHECK.says("SWING: without the only one it is HUNG");
        for (String law : new String[] {"most", "all", "two"}) {
            RainJury x = jury(1, 0, law);
            CHECK.good(x, "GUILTY by " + law, x.swing(), 1);
            RainJury y = jury(0, 2, law);
            y.strike(0);
            CHECK.good(y, "FREE by " + law, y.swing(), 2);
        }
    }

    private static void lacksNone() {
        CHECK.says("32: 0: it is GUILTY");
        CHECK.good(new RainJury(), "10 and 0", jury(10, 0, "all").lacks(), 0);
        CHECK.good(new RainJury(), "1 and 0", jury(1, 0, "most").lacks(), 0);
        CHECK.good(new RainJury(), "6 and 4", jury(6, 4, "most").lacks(), 0);
        CHECK.good(new RainJury(), "4 and 2 by two", jury(4, 2, "two").lacks(), 0);
    }

    private static void lacksOfNobody() {
        CHECK.says("32: 8: nobody is SEATED");
        RainJury x = jury(1, 0, "most");
        CHECK.good(x, "one", x.lacks(), 0);
        x.strike(0);
        CHECK.bad(x, "none", x.lacks(), 8);
        RainJury y = new RainJury();
        CHECK.bad(y, "no JURORS", y.lacks(), 8);
    }

    private static void lacksByLaw() {
        CHECK.says("32: how many JURORS more must vote GUILTY that the VERDICT is GUILTY");
        int[] two = {0, 1, 2, 2, 3, 4, 4, 5, 6, 6, 7};
        for (int all = 1; all <= 10; all++) {
            for (int guilty = 0; guilty <= all; guilty++) {
                String told = guilty + " of " + all;
                RainJury x = jury(guilty, all - guilty, "most");
                CHECK.good(x, told + " by most", x.lacks(), Math.max(0, all / 2 + 1 - guilty));
                x = jury(guilty, all - guilty, "all");
                CHECK.good(x, told + " by all", x.lacks(), all - guilty);
                x = jury(guilty, all - guilty, "two");
                CHECK.good(x, told + " by two", x.lacks(), Math.max(0, two[all] - guilty));
            }
        }
        RainJury x = jury(2, 3, "all");
        x.strike(0);
        x.strike(4);
        CHECK.good(x, "of SEATED ones", x.lacks(), 2);
    }

    private static void nearestMoves() {
        CHECK.says("33: the nearest to voting otherwise (by how much its LEANING must move)");
        RainJury x = Check.with("juror a;juror b;");
        int[][] cases = {{1, 1, 0}, {2, 1, 1}, {2, 0, 1}, {1, 0, 0}, {0, 1, 0}, {-1, 1, 1}, {-1, 2, 0}, {-1, 3, 0}, {-2, 2, 1},
            {99, -98, 0}, {99, -97, 1}, {-99, 99, 1}, {-98, 99, 0}, {-99, -99, 0}, {-1, 0, 1}};
        for (int[] one : cases) {
            x.lean(0, one[0]);
            x.lean(1, one[1]);
            CHECK.good(x, "of " + one[0] + " and " + one[1], x.nearest(), one[2]);
        }
    }

    private static void nearestFirst() {
        CHECK.says("33: of several the first");
        RainJury x = Check.with("juror a leans 9;juror b leans 3;juror c leans less 2;juror d leans 3;");
        CHECK.good(x, "b, c and d by 3", x.nearest(), 1);
        x.strike(1);
        CHECK.good(x, "c and d by 3", x.nearest(), 2);
        x.strike(2);
        CHECK.good(x, "d by 3", x.nearest(), 3);
    }

    private static void nearestSeated() {
        CHECK.says("33: the SEATED JUROR (8: nobody is SEATED)");
        RainJury x = Check.with("juror a leans 1;juror b leans 50;");
        x.strike(0);
        CHECK.good(x, "b alone", x.nearest(), 1);
        x.strike(1);
        CHECK.bad(x, "none", x.nearest(), 8);
        RainJury y = new RainJury();
        CHECK.bad(y, "no JURORS", y.nearest(), 8);
    }

    // ---- pull, behind

    private static void pullNumbers() {
        CHECK.says("34: by how much a JUROR's LEANING would move (2)");
        RainJury x = Check.with("juror a leans 1;juror b;sways a b 4;");
        CHECK.good(x, "the first", x.pull(0), 0);
        CHECK.good(x, "the last", x.pull(1), 4);
        for (int juror : new int[] {-1, 2, 10, 31, 32, LEAST, MOST}) {
            CHECK.bad(x, "pull(" + juror + ")", x.pull(juror), 2);
        }
    }

    private static void pullSeated() {
        CHECK.says("34: 9: not SEATED");
        RainJury x = Check.with("juror a leans 1;juror b;sways a b 4;");
        x.strike(1);
        CHECK.bad(x, "b is struck", x.pull(1), 9);
        x.seat(1);
        x.strike(0);
        CHECK.bad(x, "a is struck", x.pull(0), 9);
        CHECK.good(x, "a is struck and sways nobody", x.pull(1), 0);
    }

    private static void pullOfNobody() {
        CHECK.says("34: as all lean now: nobody sways it, one that leans 0");
        RainJury x = Check.with("juror a;juror b;sways a b 20;");
        CHECK.good(x, "nobody", x.pull(0), 0);
        CHECK.good(x, "by one at 0", x.pull(1), 0);
        x.lean(0, -1);
        CHECK.good(x, "by one at -1", x.pull(1), -20);
        x.lean(0, 1);
        CHECK.good(x, "by one at 1", x.pull(1), 20);
        CHECK.good(x, "nobody moved", x.juror(1, 0), 0);
        CHECK.good(x, "ROUND 0", x.many(7), 0);
    }

    private static void pullStubborn() {
        CHECK.says("34: in its turn: if that is more than STUBBORN up or down");
        for (int side = 1; side >= -1; side -= 2) {
            RainJury x = Check.with("juror a;juror b stubborn 4;juror c stubborn 5;juror d stubborn 6;juror e stubborn 20;juror f;"
                    + "sways a b 5;sways a c 5;sways a d 5;sways a e 20;sways f e 1;hunger 1;");
            x.lean(0, side);
            CHECK.good(x, "5 against 4", x.pull(1), 5 * side);
            CHECK.good(x, "5 against 5", x.pull(2), 0);
            CHECK.good(x, "5 against 6", x.pull(3), 0);
            CHECK.good(x, "20 against 20", x.pull(4), 0);
            x.lean(5, side);
            CHECK.good(x, "21 against 20", x.pull(4), 21 * side);
            x.lean(5, -side);
            CHECK.good(x, "19 against 20", x.pull(4), 0);
        }
    }

    private static void pullIsCut() {
        CHECK.says("LEANINGS stay from -99 to 99 (what goes beyond is cut): by how much it would move");
        for (int side = 1; side >= -1; side -= 2) {
            RainJury x = Check.with("juror a;juror b;sways a b 5;");
            x.lean(0, side);
            int[][] cases = {{93, 5}, {94, 5}, {95, 4}, {98, 1}, {99, 0}, {-99, 5}};
            for (int[] one : cases) {
                x.lean(1, one[0] * side);
                CHECK.good(x, "at " + one[0] * side, x.pull(1), one[1] * side);
                x.mark();
                x.talk(1);
                CHECK.good(x, "and so it moves", x.juror(1, 0), (one[0] + one[1]) * side);
                x.back();
            }
        }
    }

    private static void behindNumbers() {
        CHECK.says("35: the set of JURORS that sway a JUROR (2)");
        RainJury x = Check.with("juror a;juror b;sways a b 1;");
        CHECK.good(x, "the first", x.behind(0), 0);
        CHECK.good(x, "the last", x.behind(1), 1);
        for (int juror : new int[] {-1, 2, 10, 31, 32, LEAST, MOST}) {
            CHECK.bad(x, "behind(" + juror + ")", x.behind(juror), 2);
        }
    }

    private static void behindNotItself() {
        CHECK.says("35: (not itself)");
        RainJury x = Check.with("juror a;juror b;juror c;sways a b 1;sways b a 1;sways b c 1;sways c b 1;");
        CHECK.good(x, "a", x.behind(0), 6);
        CHECK.good(x, "b", x.behind(1), 5);
        CHECK.good(x, "c", x.behind(2), 3);
    }

    private static void behindMoreThanZero() {
        CHECK.says("35: by more than 0");
        RainJury x = Check.with("juror a;juror b;juror c;sways a b 0;sways b c 1;sways c a 1;sways c a 0;");
        CHECK.good(x, "by 0", x.behind(1), 0);
        CHECK.good(x, "by 1", x.behind(2), 2);
        CHECK.good(x, "told again: 0", x.behind(0), 0);
        Check.court(x, "juror a;juror b;juror c;sways a b 0;sways a b 20;");
        CHECK.good(x, "told again: 20", x.behind(1), 1);
    }

    private static void behindAndSoOn() {
        CHECK.says("35: and those that sway these, and so on");
        RainJury x = Check.with("juror a;juror b;juror c;juror d;juror e;juror f;juror g;juror h;juror i;juror j;"
                + "sways a b 1;sways b c 1;sways c d 1;sways d e 1;sways e f 1;sways f g 1;sways g h 1;sways h i 1;sways i j 1;");
        for (int i = 0; i < 10; i++) {
            CHECK.good(x, "behind(" + i + ")", x.behind(i), (1 << i) - 1);
        }
        x = Check.with("juror a;juror b;juror c;juror d;juror e;juror f;juror g;juror h;juror i;juror j;"
                + "sways j i 1;sways i h 1;sways h g 1;sways g f 1;sways f e 1;sways e d 1;sways d c 1;sways c b 1;sways b a 1;");
        for (int i = 0; i < 10; i++) {
            CHECK.good(x, "behind(" + i + ")", x.behind(i), 1023 - (2 << i) + 1);
        }
    }

    // ---- SETTLES

    private static void settlesWhats() {
        CHECK.says("36: what 0: LEAD, 1: CYCLE (5)");
        RainJury x = Check.with("juror a leans 1;juror b leans 97;sways a b 1;");
        CHECK.good(x, "LEAD", x.settles(0), 2);
        CHECK.good(x, "CYCLE", x.settles(1), 1);
        for (int what : new int[] {-1, 2, LEAST, MOST}) {
            CHECK.bad(x, "settles(" + what + ")", x.settles(what), 5);
        }
        CHECK.good(x, "all stays", x.juror(1, 0), 97);
        CHECK.good(x, "ROUND 0", x.many(7), 0);
    }

    private static void settlesAtOnce() {
        CHECK.says("SETTLES: as they were .. now: LEAD 0, CYCLE 1 where nobody moves");
        RainJury x = new RainJury();
        CHECK.good(x, "no JURORS: LEAD", x.settles(0), 0);
        CHECK.good(x, "no JURORS: CYCLE", x.settles(1), 1);
        RainJury y = Check.with("juror a leans 5;juror b leans 99;sways a b 20;");
        CHECK.good(y, "at 99: LEAD", y.settles(0), 0);
        CHECK.good(y, "at 99: CYCLE", y.settles(1), 1);
        y.lean(1, 98);
        CHECK.good(y, "at 98: LEAD", y.settles(0), 1);
        CHECK.good(y, "at 98: CYCLE", y.settles(1), 1);
    }

    private static void settlesWithoutHunger() {
        CHECK.says("SETTLES: talk goes on (HUNGER not minded, as if none were)");
        RainJury x = Check.with("juror a leans 5;hunger 1;");
        x.talk(1);
        CHECK.good(x, "LEAD", x.settles(0), 0);
        CHECK.good(x, "CYCLE", x.settles(1), 1);
    }

    private static void settlesWithin200() {
        CHECK.says("SETTLES: (within 200); 36: 8: not within 200 ROUNDS");
        String chain = "juror a leans 1;juror b leans less 2;juror c leans less 99;sways a b 1;sways b c 1;";
        RainJury x = Check.with(chain);
        CHECK.bad(x, "ROUND 201: LEAD", x.settles(0), 8);
        CHECK.bad(x, "ROUND 201: CYCLE", x.settles(1), 8);
        CHECK.good(x, "all stays", x.juror(2, 0), -99);
        x.lean(1, -1);
        CHECK.good(x, "ROUND 200: LEAD", x.settles(0), 199);
        CHECK.good(x, "ROUND 200: CYCLE", x.settles(1), 1);
        x.lean(1, 0);
        CHECK.good(x, "ROUND 199: LEAD", x.settles(0), 198);
        x.lean(1, -2);
        x.talk(1);
        CHECK.good(x, "from ROUND 1 on", x.settles(0), 199);
    }

    private static void settlesCycles() {
        CHECK.says("CYCLE: how many till it comes again");
        RainJury x = Check.with("juror a leans 1;juror b leans less 1;sways b a 2;sways a b 2;");
        CHECK.good(x, "both down at last", x.settles(1), 1);
        RainJury wheel = Check.with("juror a leans less 1;juror b leans 2;juror c leans less 1;sways a c 4;sways b a 2;sways c b 4;");
        CHECK.good(wheel, "LEAD of a wheel", wheel.settles(0), 0);
        CHECK.good(wheel, "CYCLE of a wheel", wheel.settles(1), 2);
        int[] now = {wheel.juror(0, 0), wheel.juror(1, 0), wheel.juror(2, 0)};
        wheel.talk(1);
        CHECK.due("not yet", wheel.juror(0, 0) == now[0] && wheel.juror(1, 0) == now[1] && wheel.juror(2, 0) == now[2], false);
        wheel.talk(1);
        for (int i = 0; i < 3; i++) {
            CHECK.good(wheel, "again", wheel.juror(i, 0), now[i]);
        }
    }

    /** Each of ten by itself still moves while all others stand. */
    private static void settlesOfTen() {
        CHECK.says("SETTLES: till LEANINGS are as they were: those of all JURORS");
        for (int i = 1; i < 10; i++) {
            StringBuilder text = new StringBuilder();
            for (int k = 0; k < 10; k++) {
                text.append("juror j").append((char) ('a' + k)).append(" leans ").append(k == 0 ? 1 : 90).append(';');
            }
            text.append("sways ja j").append((char) ('a' + i)).append(" 1;");
            RainJury x = Check.with(text.toString());
            CHECK.good(x, "LEAD of JUROR " + i, x.settles(0), 9);
            CHECK.good(x, "CYCLE of JUROR " + i, x.settles(1), 1);
            x.lean(i, -99);
            CHECK.good(x, "LEAD of JUROR " + i, x.settles(0), 198);
            x.lean(0, -99);
            CHECK.good(x, "LEAD of JUROR " + i, x.settles(0), 0);
        }
        RainJury first = Check.with("juror a leans 90;juror b;juror c;juror d;juror e;juror f;juror g;juror h;juror i;juror j leans 1;sways j a 3;");
        CHECK.good(first, "LEAD of JUROR 0", first.settles(0), 3);
    }

    private static void settlesSeated() {
        CHECK.says("SETTLES: talk goes on: of SEATED ones");
        RainJury x = Check.with("juror a leans 1;juror b leans 90;sways a b 1;");
        x.strike(0);
        CHECK.good(x, "a is struck", x.settles(0), 0);
        x.seat(0);
        x.strike(1);
        CHECK.good(x, "b is struck", x.settles(0), 0);
        x.seat(1);
        CHECK.good(x, "both are SEATED", x.settles(0), 9);
    }

    // ---- after, soonest

    private static void afterNumbers() {
        CHECK.says("37: so many ROUNDS (0 to 200) (5)");
        RainJury x = Check.with("juror a leans 1;juror b leans less 99;juror c leans less 99;sways a b 1;sways b c 1;law all;");
        for (int rounds : new int[] {-1, 201, LEAST, MOST}) {
            CHECK.bad(x, "after(" + rounds + ")", x.after(rounds), 5);
        }
        CHECK.good(x, "after(0)", x.after(0), 0);
        // b leans 1 behind ROUND 100, c moves from then on and leans 1 behind ROUND 199.
        CHECK.good(x, "after(198)", x.after(198), 0);
        CHECK.good(x, "after(199)", x.after(199), 1);
        CHECK.good(x, "after(200)", x.after(200), 1);
        x.lean(1, -98);
        x.talk(1);
        x.lean(1, -99);
        x.lean(2, -99);
        CHECK.good(x, "from now on: 198", x.after(198), 0);
        CHECK.good(x, "from now on: 199", x.after(199), 1);
    }

    private static void afterStays() {
        CHECK.says("37: all stays as it is");
        RainJury x = Check.with("juror a leans 1;juror b;sways a b 9;hunger 1;");
        x.talk(1);
        CHECK.good(x, "after(200)", x.after(200), 1);
        CHECK.good(x, "a", x.juror(0, 0), 2);
        CHECK.good(x, "b", x.juror(1, 0), 10);
        CHECK.good(x, "ROUND 1", x.many(7), 1);
    }

    private static void afterHunger() {
        CHECK.says("37: HUNGER minded");
        RainJury x = Check.with("juror a leans 5;juror b leans 5;juror c leans less 3;hunger 99;law all;");
        CHECK.good(x, "after(98)", x.after(98), 0);
        CHECK.good(x, "after(99): -2", x.after(99), 0);
        CHECK.good(x, "after(101): 0", x.after(101), 0);
        CHECK.good(x, "after(102): 1", x.after(102), 1);
        x.talk(1);
        CHECK.good(x, "after(100)", x.after(100), 0);
        CHECK.good(x, "after(101)", x.after(101), 1);
    }

    private static void soonestVerdicts() {
        CHECK.says("38: behind which the VERDICT is told (-1, 0, 1) (5)");
        RainJury x = Check.with("juror a leans 1;juror b leans less 3;sways a b 1;law all;");
        CHECK.good(x, "soonest(1)", x.soonest(1), 4);
        CHECK.good(x, "soonest(0)", x.soonest(0), 0);
        CHECK.bad(x, "soonest(-1)", x.soonest(-1), 8);
        for (int verdict : new int[] {-2, 2, LEAST, MOST}) {
            CHECK.bad(x, "soonest(" + verdict + ")", x.soonest(verdict), 5);
        }
        CHECK.good(x, "all stays", x.juror(1, 0), -3);
    }

    private static void soonestNow() {
        CHECK.says("38: the first ROUND from now on (0: as it is)");
        RainJury x = Check.with("juror a leans 1;juror b leans less 3;sways a b 1;law all;");
        x.talk(3);
        CHECK.good(x, "one more", x.soonest(1), 1);
        CHECK.good(x, "HUNG now", x.soonest(0), 0);
        x.talk(1);
        CHECK.good(x, "GUILTY now", x.soonest(1), 0);
        CHECK.bad(x, "HUNG no more", x.soonest(0), 8);
        RainJury y = new RainJury();
        CHECK.good(y, "nobody is HUNG", y.soonest(0), 0);
        CHECK.bad(y, "nobody is GUILTY", y.soonest(1), 8);
        CHECK.bad(y, "nobody is FREE", y.soonest(-1), 8);
    }

    private static void soonestTo200() {
        CHECK.says("38: to 200 (8: none)");
        // c leans 1 behind ROUND 199; d, whose turn is ahead of c's, moves from ROUND 200 on.
        RainJury x = Check.with("juror a leans 1;juror b leans less 99;juror d stubborn 1;juror c leans less 99;"
                + "sways a b 1;sways b c 1;sways a d 1;sways c d 1;law all;");
        CHECK.good(x, "ROUND 200", x.soonest(1), 200);
        x.lean(2, -1);
        CHECK.good(x, "by 2 at once", x.soonest(1), 200);
        x.lean(2, -2);
        CHECK.bad(x, "ROUND 201", x.soonest(1), 8);
        CHECK.good(x, "all stays", x.juror(3, 0), -99);
        x.talk(1);
        CHECK.good(x, "ROUND 200 from now on", x.soonest(1), 200);
    }

    private static void soonestHunger() {
        CHECK.says("38: HUNGER minded");
        RainJury x = Check.with("juror a leans 5;juror b leans 5;juror c leans less 3;hunger 99;law all;");
        CHECK.good(x, "ROUND 102", x.soonest(1), 102);
        x.talk(2);
        CHECK.good(x, "100 more", x.soonest(1), 100);
        Check.court(x, "juror a leans 5;juror b leans 5;juror c leans less 3;law all;");
        CHECK.bad(x, "never without", x.soonest(1), 8);
    }

    private static void beyondTheRoundLimit() {
        CHECK.says("36, 37, 38: if talk went on: no ROUND is too many for these");
        RainJury x = Check.with("juror a leans 1;juror b leans less 3;sways a b 1;law all;");
        for (int i = 0; i < 101; i++) {
            x.talk(99);
        }
        x.lean(1, -3);
        CHECK.good(x, "ROUND 9,999", x.many(7), 9999);
        CHECK.good(x, "after(3)", x.after(3), 0);
        CHECK.good(x, "after(4)", x.after(4), 1);
        CHECK.good(x, "soonest(1)", x.soonest(1), 4);
        CHECK.good(x, "settles(0)", x.settles(0), 102);
    }
}

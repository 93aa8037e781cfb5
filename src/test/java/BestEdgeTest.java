/** Promises 39 to 45, the best there is, a sentence at a time: just within each bound and just beyond it. */
public final class BestEdgeTest {
    private static final Check CHECK = new Check("BestEdgeTest");
    private static final int MOST = Integer.MAX_VALUE;
    private static final int LEAST = Integer.MIN_VALUE;
    private static final String SIX = "proof p 1;proof q 2;proof r 2;proof s 2;proof t 2;proof u 2;";

    public static void main(String[] args) {
        orderVerdicts();
        orderOfNone();
        orderOfFour();
        orderNotShown();
        orderShortest();
        orderFirst();
        orderRounds();
        orderHunger();
        orderStays();
        orderIsNone();
        orderAtNumbers();
        orderAtLatest();
        bribeNumbers();
        bribesForNothing();
        bribesOfSeated();
        bribesAreCheapest();
        bribesLeastNumber();
        bribesBySide();
        bribesBehindRounds();
        bribesByHunger();
        bribesStay();
        bribesAreNone();
        bribeSetLatest();
        strikeNumbers();
        strikesOfTooFew();
        strikesOfAll();
        strikesOfSeated();
        strikesByLaw();
        strikesInTurn();
        firstOfSeveral();
        firstByN();
        strikesStay();
        drawnNumbers();
        drawnOfNobody();
        drawnByRounds();
        drawnAsTold();
        drawnFirstOfADay();
        drawnOdds();
        CHECK.end();
    }

    // ---- BEST ORDER

    private static void order(RainJury x, int verdict, int... want) {
        CHECK.good(x, "bestOrder(" + verdict + ")", x.bestOrder(verdict), want.length);
        for (int k = 0; k < want.length; k++) {
            CHECK.good(x, "orderAt(" + k + ")", x.orderAt(k), want[k]);
        }
        CHECK.bad(x, "orderAt(" + want.length + ")", x.orderAt(want.length), 8);
    }

    private static void orderVerdicts() {
        CHECK.says("39: BEST ORDER for a VERDICT (5)");
        RainJury x = Check.with("juror a leans 1;juror b;proof p 5;proof q less 9;law all;");
        order(x, 1, 0);
        order(x, 0);
        order(x, -1, 1);
        for (int verdict : new int[] {-2, 2, LEAST, MOST}) {
            CHECK.bad(x, "bestOrder(" + verdict + ")", x.bestOrder(verdict), 5);
        }
        CHECK.good(x, "the latest with STATUS 0", x.orderAt(0), 1);
    }

    private static void orderOfNone() {
        CHECK.says("BEST ORDER: none at all too");
        RainJury x = Check.with("juror a leans 1;proof p 5;");
        order(x, 1);
        RainJury y = new RainJury();
        order(y, 0);
        CHECK.bad(y, "nobody is GUILTY", y.bestOrder(1), 8);
        RainJury z = Check.with("juror a;");
        order(z, -1);
        CHECK.bad(z, "no PROOFS", z.bestOrder(1), 8);
    }

    private static void orderOfFour() {
        CHECK.says("BEST ORDER: at most 4");
        RainJury x = Check.with("juror a leans less 5;" + SIX);
        order(x, 1, 1, 2, 3);
        x.lean(0, -6);
        order(x, 1, 0, 1, 2, 3);
        x.lean(0, -7);
        order(x, 1, 1, 2, 3, 4);
        x.lean(0, -8);
        CHECK.bad(x, "five", x.bestOrder(1), 8);
    }

    private static void orderNotShown() {
        CHECK.says("BEST ORDER: of rows of PROOFS that were not SHOWN (each once)");
        RainJury x = Check.with("juror a leans less 9;proof p 5;proof q 5;proof r 4;");
        order(x, 1, 0, 1);
        x.show(0);
        x.lean(0, -9);
        CHECK.bad(x, "9 of 9", x.bestOrder(1), 8);
        x.lean(0, -8);
        order(x, 1, 1, 2);
        x.show(1);
        x.lean(0, -4);
        CHECK.bad(x, "r once", x.bestOrder(1), 8);
        x.lean(0, -3);
        order(x, 1, 2);
        x.show(2);
        x.lean(0, 0);
        CHECK.bad(x, "all were SHOWN", x.bestOrder(1), 8);
        order(x, -1);
    }

    private static void orderShortest() {
        CHECK.says("BEST ORDER: the shortest behind which the VERDICT is that");
        RainJury x = Check.with("juror a leans less 5;proof p 2;proof q 2;proof r 2;proof s 3;proof t 3;proof u 6;");
        order(x, 1, 5);
        x.show(5);
        x.lean(0, -5);
        order(x, 1, 3, 4);
        x.show(4);
        x.lean(0, -5);
        order(x, 1, 0, 1, 2);
    }

    private static void orderFirst() {
        CHECK.says("BEST ORDER: of several the first by PROOFS' numbers");
        RainJury x = Check.with("juror a leans less 5;proof p 1;proof q 6;proof r 6;");
        order(x, 1, 1);
        RainJury y = Check.with("juror a leans less 5;proof p 3;proof q 1;proof r 3;proof s 3;");
        order(y, 1, 0, 2);
        // b is too STUBBORN for p; from q on it sways a, so that q ahead of p gives two ROUNDS of it.
        RainJury z = Check.with("juror a leans less 20;juror b stubborn 5;proof p 3;proof q 7;sways b a 8;law all;");
        order(z, 1, 1, 0);
    }

    private static void orderRounds() {
        CHECK.says("BEST ORDER: behind each of which comes a ROUND of TALK");
        RainJury x = Check.with("juror a leans 1;juror b leans less 8;proof p 0;proof q 0;proof r 0;proof s 0;sways a b 3;law all;");
        order(x, 1, 0, 1, 2);
        x.lean(1, -9);
        order(x, 1, 0, 1, 2, 3);
        x.lean(1, -11);
        order(x, 1, 0, 1, 2, 3);
        x.lean(1, -12);
        CHECK.bad(x, "twelve", x.bestOrder(1), 8);
    }

    private static void orderHunger() {
        CHECK.says("BEST ORDER: (HUNGER minded)");
        RainJury x = Check.with("juror a leans 5;juror b leans 5;juror c leans less 1;proof p 0;proof q 0;proof r 0;hunger 2;law all;");
        order(x, 1, 0, 1, 2);
        x.talk(1);
        order(x, 1, 0, 1);
        RainJury y = Check.with("juror a leans 5;juror b leans 5;juror c leans less 1;proof p 0;proof q 0;proof r 0;hunger 3;law all;");
        CHECK.bad(y, "ROUND 3 alone", y.bestOrder(1), 8);
        RainJury z = Check.with("juror a leans 5;juror b leans 5;juror c;proof p 0;proof q 0;proof r 0;hunger 3;law all;");
        order(z, 1, 0, 1, 2);
    }

    private static void orderStays() {
        CHECK.says("BEST ORDER is looked for: nothing is SHOWN by it");
        RainJury x = Check.with("juror a leans less 5;juror b;sways a b 1;" + SIX);
        x.talk(2);
        x.bestOrder(1);
        CHECK.good(x, "a", x.juror(0, 0), -5);
        CHECK.good(x, "b", x.juror(1, 0), -2);
        CHECK.good(x, "SHOWN", x.many(11), 0);
        CHECK.good(x, "ROUND", x.many(7), 2);
        CHECK.good(x, "all can be SHOWN", x.show(0), 2);
    }

    private static void orderIsNone() {
        CHECK.says("39: how many PROOFS (8: none)");
        RainJury x = Check.with("juror a;proof p 5;");
        CHECK.bad(x, "one JUROR is never HUNG by most", x.bestOrder(0), 8);
        x.strike(0);
        order(x, 0);
        CHECK.bad(x, "nobody is GUILTY", x.bestOrder(1), 8);
        CHECK.bad(x, "nobody is FREE", x.bestOrder(-1), 8);
    }

    private static void orderAtNumbers() {
        CHECK.says("40: the k-th PROOF in that (8: no such)");
        RainJury x = Check.with("juror a leans less 6;" + SIX);
        for (int k : new int[] {-1, 0, 1, LEAST, MOST}) {
            CHECK.bad(x, "ahead of bestOrder(): orderAt(" + k + ")", x.orderAt(k), 8);
        }
        x.bestOrder(1);
        for (int k = 0; k < 4; k++) {
            CHECK.good(x, "orderAt(" + k + ")", x.orderAt(k), k);
        }
        for (int k : new int[] {-1, 4, 5, LEAST, MOST}) {
            CHECK.bad(x, "orderAt(" + k + ")", x.orderAt(k), 8);
        }
        x.bestOrder(-1);
        CHECK.bad(x, "none of none", x.orderAt(0), 8);
    }

    private static void orderAtLatest() {
        CHECK.says("40: by bestOrder() latest with STATUS 0");
        RainJury x = Check.with("juror a leans less 1;" + SIX);
        order(x, 1, 1);
        x.bestOrder(0);
        CHECK.good(x, "behind 8", x.orderAt(0), 1);
        x.bestOrder(7);
        CHECK.good(x, "behind 5", x.orderAt(0), 1);
        x.mark();
        x.lean(0, -6);
        x.bestOrder(1);
        x.back();
        CHECK.good(x, "taken back", x.orderAt(3), 3);
        Check.court(x, "");
        CHECK.good(x, "a new COURT", x.orderAt(3), 3);
        x.bestOrder(0);
        CHECK.bad(x, "none at all", x.orderAt(0), 8);
    }

    // ---- BRIBES

    private static void bribed(RainJury x, String call, int got, int coins, int set) {
        CHECK.good(x, call, got, coins);
        CHECK.good(x, "bribeSet() behind " + call, x.bribeSet(), set);
    }

    private static void bribeNumbers() {
        CHECK.says("41: a VERDICT (-1, 0, 1) by a side (1, -1), behind n ROUNDS (0 to 9) (5)");
        RainJury x = Check.with("juror a leans 1 price 3;juror b price 2;law all;");
        bribed(x, "bribes(1, 1, 0)", x.bribes(1, 1, 0), 2, 2);
        bribed(x, "bribes(0, 1, 0)", x.bribes(0, 1, 0), 0, 0);
        bribed(x, "bribes(-1, -1, 0)", x.bribes(-1, -1, 0), 3, 1);
        bribed(x, "bribes(-1, -1, 9)", x.bribes(-1, -1, 9), 3, 1);
        for (int no : new int[] {-2, 2, LEAST, MOST}) {
            CHECK.bad(x, "verdict " + no, x.bribes(no, 1, 0), 5);
        }
        for (int no : new int[] {-2, 0, 2, LEAST, MOST}) {
            CHECK.bad(x, "side " + no, x.bribes(1, no, 0), 5);
        }
        for (int no : new int[] {-1, 10, LEAST, MOST}) {
            CHECK.bad(x, "rounds " + no, x.bribes(1, 1, no), 5);
        }
        CHECK.good(x, "the latest with STATUS 0", x.bribeSet(), 1);
    }

    private static void bribesForNothing() {
        CHECK.says("BRIBES: the set of SEATED JURORS: of nobody");
        RainJury x = Check.with("juror a leans 1 price 3;");
        bribed(x, "GUILTY as it is", x.bribes(1, -1, 0), 0, 0);
        RainJury y = new RainJury();
        bribed(y, "HUNG as nobody is", y.bribes(0, 1, 9), 0, 0);
        CHECK.bad(y, "GUILTY", y.bribes(1, 1, 9), 8);
        RainJury z = Check.with("juror a;juror b;juror c;");
        bribed(z, "for no COINS", z.bribes(1, 1, 0), 0, 3);
    }

    private static void bribesOfSeated() {
        CHECK.says("BRIBES: the set of SEATED JURORS");
        RainJury x = Check.with("juror a price 1;juror b price 9;juror c price 9;sways a b 20;sways a c 20;");
        bribed(x, "a behind a ROUND", x.bribes(1, 1, 1), 1, 1);
        x.strike(0);
        bribed(x, "b and c", x.bribes(1, 1, 1), 18, 6);
        x.strike(1);
        bribed(x, "c", x.bribes(1, 1, 1), 9, 4);
        x.strike(2);
        CHECK.bad(x, "nobody", x.bribes(1, 1, 1), 8);
    }

    private static void bribesAreCheapest() {
        CHECK.says("BRIBES: for the least COINS");
        RainJury x = Check.with("juror a price 9;juror b price 4;juror c price 4;juror d price 99;law two;juror e price 99;");
        bribed(x, "4 of 5", x.bribes(1, 1, 0), 116, 15);
        x.lean(3, 1);
        x.lean(4, 1);
        bribed(x, "2 more", x.bribes(1, 1, 0), 8, 6);
        RainJury y = Check.with("juror a price 99;juror b price 99;juror c price 99;juror d price 99;juror e price 99;juror f price 99;"
                + "juror g price 99;juror h price 99;juror i price 99;juror j price 99;law all;");
        bribed(y, "all ten", y.bribes(1, 1, 0), 990, 1023);
        RainJury z = Check.with("juror a price 10;juror b price 5;juror c price 4;sways a b 1;sways a c 1;law most;");
        bribed(z, "two of three now", z.bribes(1, 1, 0), 9, 6);
        bribed(z, "two of three behind a ROUND, too", z.bribes(1, 1, 1), 9, 6);
        Check.court(z, "juror a price 8;juror b price 5;juror c price 4;sways a b 1;sways a c 1;law most;");
        bribed(z, "a alone behind a ROUND", z.bribes(1, 1, 1), 8, 1);
    }

    private static void bribesLeastNumber() {
        CHECK.says("BRIBES: of several the least as a number (1 for JUROR 0 ..)");
        RainJury x = Check.with("juror a price 3;juror b price 2;juror c price 1;juror d price 3;juror e leans 1;law most;juror f leans 1;");
        bribed(x, "2 of a, b, c, d: b and c", x.bribes(1, 1, 0), 3, 6);
        RainJury y = Check.with("juror a price 2;juror b price 2;juror c price 2;");
        bribed(y, "any two", y.bribes(1, 1, 0), 4, 3);
        RainJury two = Check.with("juror a price 1;juror b price 1;juror c price 2;sways c a 20;");
        bribed(two, "a and b (3), or c (4)", two.bribes(1, 1, 1), 2, 3);
        RainJury one = Check.with("juror a price 1;juror b price 2;juror c price 1;sways b a 20;");
        bribed(one, "b (2), or a and c (5)", one.bribes(1, 1, 1), 2, 2);
        RainJury tie = Check.with("juror a price 1;juror b price 1;juror c price 2;juror d leans 1;juror e leans 1 price 9;");
        bribed(tie, "a (1), or b (2)", tie.bribes(1, 1, 0), 1, 1);
        tie.strike(0);
        bribed(tie, "as it is, of four", tie.bribes(-1, 1, 0), 0, 0);
        bribed(tie, "b (2), as c is dearer", tie.bribes(1, 1, 0), 1, 2);
    }

    private static void bribesBySide() {
        CHECK.says("BRIBES: all to lean 99 (or all -99) now");
        RainJury x = Check.with("juror a leans 1 price 3;juror b leans 1 price 2;juror c price 1;law most;");
        bribed(x, "FREE by FREE's", x.bribes(-1, -1, 0), 2, 2);
        CHECK.bad(x, "FREE by GUILTY's", x.bribes(-1, 1, 0), 8);
        bribed(x, "GUILTY by FREE's", x.bribes(1, -1, 0), 0, 0);
        // One that is bribed to 99 is moved from there by 11 a ROUND: in eight to 11, in nine to 0.
        RainJury y = Check.with("juror a leans less 50 price 5;juror b leans less 50 price 99;sways b a 11;law all;");
        bribed(y, "HUNG behind eight ROUNDS", y.bribes(0, 1, 8), 5, 1);
        CHECK.bad(y, "HUNG behind nine ROUNDS", y.bribes(0, 1, 9), 8);
    }

    private static void bribesBehindRounds() {
        CHECK.says("BRIBES for a told VERDICT behind n ROUNDS (0 to 9)");
        for (int rounds = 0; rounds <= 9; rounds++) {
            RainJury x = Check.with("juror a price 1;juror b leans less 8 price 50;sways a b 1;law all;");
            boolean enough = rounds == 9;
            bribed(x, "behind " + rounds, x.bribes(1, 1, rounds), enough ? 1 : 51, enough ? 1 : 3);
        }
    }

    private static void bribesByHunger() {
        CHECK.says("BRIBES: behind n ROUNDS of this day");
        RainJury x = Check.with("juror a leans 2 price 9;juror b leans 2 price 9;juror c leans less 1 price 9;hunger 4;law all;");
        bribed(x, "ROUNDS 1 to 4", x.bribes(1, 1, 4), 9, 4);
        bribed(x, "ROUNDS 1 to 5", x.bribes(1, 1, 5), 0, 0);
        x.talk(3);
        bribed(x, "ROUND 4", x.bribes(1, 1, 1), 9, 4);
        bribed(x, "ROUNDS 4 and 5", x.bribes(1, 1, 2), 0, 0);
    }

    private static void bribesStay() {
        CHECK.says("BRIBES are looked for: nobody is bribed by it");
        RainJury x = Check.with("juror a leans less 4 price 5;juror b;sways a b 1;");
        x.talk(2);
        x.bribes(1, 1, 9);
        CHECK.good(x, "a", x.juror(0, 0), -4);
        CHECK.good(x, "b", x.juror(1, 0), -2);
        CHECK.good(x, "COINS", x.many(9), 0);
        CHECK.good(x, "ROUND", x.many(7), 2);
    }

    private static void bribesAreNone() {
        CHECK.says("41: COINS (8: none)");
        RainJury x = Check.with("juror a;juror b;juror c;");
        CHECK.bad(x, "three are never HUNG by most", x.bribes(0, 1, 0), 8);
        CHECK.bad(x, "GUILTY by FREE's", x.bribes(1, -1, 9), 8);
        CHECK.bad(x, "no set ever", x.bribeSet(), 8);
    }

    private static void bribeSetLatest() {
        CHECK.says("42: by bribes() latest with STATUS 0 (8: there was none)");
        RainJury x = Check.with("juror a price 3;juror b leans 1;juror c leans 1;law all;");
        CHECK.bad(x, "none", x.bribeSet(), 8);
        x.bribes(1, 2, 0);
        CHECK.bad(x, "none behind 5", x.bribeSet(), 8);
        x.bribes(-1, 1, 0);
        CHECK.bad(x, "none behind 8", x.bribeSet(), 8);
        bribed(x, "a", x.bribes(1, 1, 0), 3, 1);
        x.bribes(1, 2, 0);
        CHECK.good(x, "behind 5", x.bribeSet(), 1);
        x.bribes(1, -1, 0);
        CHECK.good(x, "behind 8", x.bribeSet(), 1);
        x.mark();
        x.bribes(-1, -1, 0);
        x.back();
        CHECK.good(x, "taken back", x.bribeSet(), 6);
        Check.court(x, "");
        CHECK.good(x, "a new COURT", x.bribeSet(), 6);
        bribed(x, "of nobody", x.bribes(0, 1, 0), 0, 0);
    }

    // ---- STRIKES

    private static String jury(int guilty, int free) {
        StringBuilder text = new StringBuilder();
        for (int i = 0; i < guilty + free; i++) {
            text.append("juror j").append((char) ('a' + i)).append(i < guilty ? " leans 1;" : ";");
        }
        return text.toString();
    }

    private static void strikeNumbers() {
        CHECK.says("STRIKES of n each (1 to 3); 43, 44: (5; 9)");
        RainJury x = Check.with(jury(6, 4));
        for (int n = 1; n <= 3; n++) {
            CHECK.good(x, "strikes(" + n + ")", x.strikes(n), 1);
            CHECK.good(x, "firstStrike(" + n + ")", x.firstStrike(n), 0);
        }
        for (int n : new int[] {-1, 0, 4, 5, LEAST, MOST}) {
            CHECK.bad(x, "strikes(" + n + ")", x.strikes(n), 5);
            CHECK.bad(x, "firstStrike(" + n + ")", x.firstStrike(n), 5);
        }
        RainJury y = new RainJury();
        CHECK.bad(y, "5 ahead of 9", y.strikes(0), 5);
        CHECK.bad(y, "5 ahead of 9", y.firstStrike(4), 5);
        CHECK.bad(y, "nobody", y.strikes(1), 9);
        CHECK.bad(y, "nobody", y.firstStrike(1), 9);
    }

    private static void strikesOfTooFew() {
        CHECK.says("STRIKES: (Fewer SEATED than 2 n: it can't be.)");
        for (int seated = 0; seated <= 7; seated++) {
            RainJury x = Check.with(jury(seated, 0));
            for (int n = 1; n <= 3; n++) {
                boolean few = seated < 2 * n;
                int want = seated == 2 * n ? 0 : 1;
                CHECK.due(x, seated + " by " + n, x.strikes(n), few ? -1 : want, few ? 9 : 0);
                CHECK.due(x, seated + " by " + n + ", first", x.firstStrike(n), few ? -1 : 0, few ? 9 : 0);
            }
        }
        RainJury x = Check.with(jury(5, 5));
        for (int i = 0; i < 4; i++) {
            x.strike(i);
        }
        CHECK.good(x, "six are SEATED", x.strikes(3), 0);
        x.strike(4);
        CHECK.bad(x, "five are SEATED", x.strikes(3), 9);
        CHECK.bad(x, "five are SEATED", x.firstStrike(3), 9);
        CHECK.good(x, "five are SEATED", x.strikes(2), -1);
    }

    private static void strikesOfAll() {
        CHECK.says("STRIKES: then the VERDICT: of nobody HUNG");
        for (String law : new String[] {"most", "all", "two"}) {
            for (int n = 1; n <= 3; n++) {
                for (int guilty = 0; guilty <= 2 * n; guilty++) {
                    RainJury x = Check.with(jury(guilty, 2 * n - guilty) + "law " + law + ";");
                    CHECK.good(x, "strikes(" + n + ") of " + guilty, x.strikes(n), 0);
                    CHECK.good(x, "all are as good", x.firstStrike(n), 0);
                }
            }
            for (int n = 1; n <= 3; n++) {
                RainJury free = Check.with(jury(0, 2 * n + 1) + "law " + law + ";");
                CHECK.good(free, "one is left, FREE", free.strikes(n), -1);
                RainJury guilty = Check.with(jury(2 * n + 1, 0) + "law " + law + ";");
                CHECK.good(guilty, "one is left, GUILTY", guilty.strikes(n), 1);
            }
        }
    }

    private static void strikesOfSeated() {
        CHECK.says("FREE's side strikes a SEATED JUROR");
        RainJury x = Check.with(jury(3, 3));
        CHECK.good(x, "2 and 2", x.strikes(1), -1);
        CHECK.good(x, "the first GUILTY one", x.firstStrike(1), 0);
        x.strike(0);
        CHECK.good(x, "1 and 2", x.strikes(1), -1);
        CHECK.good(x, "the first SEATED one: 2 and 2 of 5, or 1 and 3", x.firstStrike(1), 1);
        x.strike(3);
        x.strike(4);
        CHECK.good(x, "2 and 1", x.strikes(1), 1);
        CHECK.good(x, "all are as good", x.firstStrike(1), 1);
        x.seat(0);
        x.strike(1);
        CHECK.good(x, "0 again", x.firstStrike(1), 0);
    }

    private static void strikesByLaw() {
        CHECK.says("then, as all lean now, the VERDICT: GUILTY's side wants it the greatest, FREE's the least");
        RainJury all = Check.with(jury(3, 2) + "law all;");
        CHECK.good(all, "all of 3 and 2: 2 and 1", all.strikes(1), 0);
        CHECK.good(all, "all of 3 and 2 by two: 1 and 0", all.strikes(2), 1);
        all.strike(4);
        CHECK.good(all, "all of 3 and 1: 2 and 0", all.strikes(1), 1);
        RainJury two = Check.with(jury(4, 3) + "law two;");
        CHECK.good(two, "two of 4 and 3: 3 and 2", two.strikes(1), 0);
        CHECK.good(two, "two of 4 and 3: 2 and 1", two.strikes(2), 1);
        RainJury most = Check.with(jury(5, 5));
        CHECK.good(most, "most of 5 and 5: 4 and 4", most.strikes(1), -1);
        CHECK.good(most, "most of 5 and 5: 2 and 2", most.strikes(3), -1);
        most.lean(9, 1);
        CHECK.good(most, "most of 6 and 4: 5 and 3", most.strikes(1), 1);
        most.lean(0, 0);
        most.lean(1, -1);
        CHECK.good(most, "most of 4 and 6: 3 and 5", most.strikes(1), -1);
    }

    // A game played out over sets, to hold the answers against.
    private static int played(int law, int lean, int seated, int left) {
        if (left == 0) {
            int all = Integer.bitCount(seated);
            int guilty = Integer.bitCount(seated & lean);
            if (all == 0) {
                return 0;
            }
            int share = law == 0 ? 0 : law == 1 ? 3 : 2;
            if (law == 0) {
                return guilty > all - guilty ? 1 : -1;
            }
            return 3 * guilty >= share * all ? 1 : 3 * (all - guilty) >= share * all ? -1 : 0;
        }
        int best = left % 2 == 0 ? 2 : -2;
        for (int i = 0; i < 10; i++) {
            if ((seated >> i & 1) != 0) {
                int now = played(law, lean, seated & ~(1 << i), left - 1);
                best = left % 2 == 0 ? Math.min(best, now) : Math.max(best, now);
            }
        }
        return best;
    }

    private static void strikesInTurn() {
        CHECK.says("FREE's side strikes a SEATED JUROR, then GUILTY's, and so on: what comes by best play");
        String[] laws = {"most", "all", "two"};
        for (int law = 0; law < 3; law++) {
            for (int all = 1; all <= 7; all++) {
                for (int lean = 0; lean < 1 << all; lean += all > 5 ? 3 : 1) {
                    RainJury x = Check.with(jury(0, all) + "law " + laws[law] + ";");
                    for (int i = 0; i < all; i++) {
                        x.lean(i, lean >> i & 1);
                    }
                    for (int n = 1; n <= 3 && 2 * n <= all; n++) {
                        int seated = (1 << all) - 1;
                        int want = played(law, lean, seated, 2 * n);
                        CHECK.good(x, "strikes(" + n + ") of set " + lean + " of " + all, x.strikes(n), want);
                        int first = 0;
                        while (played(law, lean, seated & ~(1 << first), 2 * n - 1) != want) {
                            first++;
                        }
                        CHECK.good(x, "firstStrike(" + n + ") of set " + lean + " of " + all, x.firstStrike(n), first);
                    }
                }
            }
        }
    }

    private static void firstOfSeveral() {
        CHECK.says("FIRST: FREE's first strike, of several as good the first");
        RainJury x = Check.with("juror a;juror b;juror c leans 1;juror d leans 1;");
        CHECK.good(x, "FREE", x.strikes(1), -1);
        CHECK.good(x, "c, of c and d", x.firstStrike(1), 2);
        x.lean(2, 0);
        CHECK.good(x, "FREE all the same", x.strikes(1), -1);
        CHECK.good(x, "any", x.firstStrike(1), 0);
        RainJury ten = Check.with("juror a;juror b;juror c;juror d;juror e;juror f leans 1;juror g leans 1;juror h leans 1;"
                + "juror i leans 1;juror j leans 1;");
        CHECK.good(ten, "f, of five", ten.firstStrike(1), 5);
        RainJury all = Check.with("juror a;juror b;juror c;juror d;juror e;juror f;juror g;juror h;juror i;juror j leans 1;law all;");
        CHECK.good(all, "FREE", all.strikes(1), -1);
        CHECK.good(all, "the tenth alone", all.firstStrike(1), 9);
    }

    private static void firstByN() {
        CHECK.says("44: FIRST of STRIKES of n each");
        RainJury x = Check.with("juror a;juror b;juror c;juror d leans 1;juror e leans 1;juror f leans 1;juror g leans 1;law two;");
        CHECK.good(x, "HUNG by one each", x.strikes(1), 0);
        CHECK.good(x, "d, lest it be GUILTY", x.firstStrike(1), 3);
        CHECK.good(x, "GUILTY by two each", x.strikes(2), 1);
        CHECK.good(x, "any", x.firstStrike(2), 0);
        CHECK.good(x, "GUILTY by three each", x.strikes(3), 1);
        CHECK.good(x, "any", x.firstStrike(3), 0);
        RainJury y = Check.with("juror a;juror b;juror c;juror d leans 1;juror e leans 1;juror f leans 1;");
        CHECK.good(y, "FREE by one each", y.strikes(1), -1);
        CHECK.good(y, "d", y.firstStrike(1), 3);
        CHECK.good(y, "FREE by two each", y.strikes(2), -1);
        CHECK.good(y, "d", y.firstStrike(2), 3);
        CHECK.good(y, "nobody is left by three each", y.strikes(3), 0);
        CHECK.good(y, "any", y.firstStrike(3), 0);
    }

    private static void strikesStay() {
        CHECK.says("43, 44: STRIKES are looked for: nobody is struck by it");
        RainJury x = Check.with(jury(5, 5));
        x.strikes(3);
        x.firstStrike(3);
        CHECK.good(x, "all are SEATED", x.many(10), 1023);
    }

    // ---- DRAWN

    private static void odds(RainJury x, int n, int rounds, int verdict, int top, int bottom) {
        String call = "drawn(" + n + ", " + rounds + ", " + verdict + ")";
        CHECK.good(x, call, x.drawn(n, rounds, verdict));
        CHECK.fraction(x, call, top, bottom);
    }

    private static void drawnNumbers() {
        CHECK.says("45: n 1 to all, ROUNDS 0 to 9 (5)");
        RainJury x = Check.with(jury(2, 3));
        odds(x, 1, 0, 1, 2, 5);
        odds(x, 5, 9, 1, 0, 1);
        odds(x, 5, 9, -1, 1, 1);
        odds(x, 2, 0, -1, 9, 10);
        odds(x, 2, 0, 0, 0, 1);
        odds(x, 1, 0, 1, 2, 5);
        for (int no : new int[] {-1, 0, 6, 10, 11, LEAST, MOST}) {
            CHECK.bad(x, "n " + no, x.drawn(no, 0, 1), 5);
        }
        for (int no : new int[] {-1, 10, LEAST, MOST}) {
            CHECK.bad(x, "rounds " + no, x.drawn(1, no, 1), 5);
        }
        for (int no : new int[] {-2, 2, LEAST, MOST}) {
            CHECK.bad(x, "verdict " + no, x.drawn(1, 0, no), 5);
        }
        CHECK.fraction(x, "wrong ones", 2, 5);
    }

    private static void drawnOfNobody() {
        CHECK.says("45: n 1 to all: of a COURT of nobody");
        RainJury x = new RainJury();
        CHECK.bad(x, "none", x.drawn(0, 0, 0), 5);
        CHECK.bad(x, "one", x.drawn(1, 0, 0), 5);
        CHECK.fraction(x, "as it was", 0, 1);
    }

    private static void drawnByRounds() {
        CHECK.says("DRAWN: VERDICT behind r ROUNDS (0 to 9) of TALK");
        RainJury x = Check.with("juror a leans 1;juror b leans less 8;juror c leans less 7;sways a b 1;sways a c 1;law all;");
        for (int rounds = 0; rounds <= 9; rounds++) {
            odds(x, 2, rounds, 1, rounds >= 9 ? 2 : rounds >= 8 ? 1 : 0, rounds >= 8 ? 3 : 1);
        }
        odds(x, 3, 8, 1, 0, 1);
        odds(x, 3, 9, 1, 1, 1);
        odds(x, 2, 9, -1, 1, 3);
        odds(x, 2, 9, 0, 0, 1);
        odds(x, 2, 8, 0, 1, 3);
    }

    private static void drawnAsTold() {
        CHECK.says("DRAWN: n JURORS of all, SEATED as told");
        RainJury x = Check.with("juror a leans 1;juror b;juror c;proof p 50;");
        x.show(0);
        x.strike(0);
        x.lean(1, 99);
        odds(x, 1, 0, 1, 1, 3);
        odds(x, 3, 0, -1, 1, 1);
        CHECK.good(x, "all stays", x.many(10), 6);
        CHECK.good(x, "all stays", x.juror(1, 0), 99);
        CHECK.good(x, "all stays", x.juror(0, 0), 51);
        CHECK.good(x, "all stays", x.many(11), 1);
    }

    private static void drawnFirstOfADay() {
        CHECK.says("DRAWN: ROUNDS of TALK, the first of a day");
        RainJury x = Check.with("juror a leans 5;juror b leans 5;juror c;hunger 9;law all;");
        x.talk(50);
        odds(x, 3, 8, 1, 0, 1);
        odds(x, 3, 9, 1, 1, 1);
        CHECK.good(x, "the ROUND stays", x.many(7), 50);
        RainJury y = Check.with("juror a leans 5;juror b leans 5;juror c;hunger 10;law all;");
        y.talk(50);
        odds(y, 3, 9, 1, 0, 1);
    }

    private static void drawnOdds() {
        CHECK.says("DRAWN: each set of n as likely: ODDS; without a common divisor");
        RainJury x = Check.with(jury(3, 7));
        int[][] guilty = {{3, 10}, {1, 15}, {11, 60}, {1, 30}, {1, 12}, {0, 1}, {0, 1}, {0, 1}, {0, 1}, {0, 1}};
        for (int n = 1; n <= 10; n++) {
            odds(x, n, 0, 1, guilty[n - 1][0], guilty[n - 1][1]);
            int bottom = guilty[n - 1][1];
            odds(x, n, 0, -1, bottom - guilty[n - 1][0], bottom);
        }
        RainJury all = Check.with(jury(3, 7) + "law all;");
        odds(all, 3, 0, 1, 1, 120);
        odds(all, 3, 0, -1, 7, 24);
        odds(all, 3, 0, 0, 7, 10);
        odds(all, 7, 0, -1, 1, 120);
        odds(all, 8, 0, -1, 0, 1);
        RainJury two = Check.with(jury(3, 7) + "law two;");
        odds(two, 3, 0, 1, 11, 60);
        odds(two, 4, 0, 1, 1, 30);
        odds(two, 4, 0, 0, 3, 10);
        odds(two, 4, 0, -1, 2, 3);
    }
}

/** Promises 39 to 45: the best there is, by hand and against trying it all by marks. */
public final class BestTest {
    private static final Check CHECK = new Check("BestTest");

    public static void main(String[] args) {
        orders();
        orderStays();
        ordersByHunger();
        bribes();
        bribeSetStays();
        strikes();
        draws();
        CHECK.end();
    }

    private static void orders() {
        RainJury x = Check.with("juror a leans less 20;proof p 5;proof q 9;proof r 8;proof s 4;proof t 1;proof u less 9;");
        CHECK.good(x, "FREE as it is", x.bestOrder(-1), 0);
        CHECK.bad(x, "orderAt(0)", x.orderAt(0), 8);
        CHECK.good(x, "GUILTY", x.bestOrder(1), 3);
        CHECK.good(x, "orderAt(0)", x.orderAt(0), 0);
        CHECK.good(x, "orderAt(1)", x.orderAt(1), 1);
        CHECK.good(x, "orderAt(2)", x.orderAt(2), 2);
        CHECK.bad(x, "orderAt(3)", x.orderAt(3), 8);
        CHECK.bad(x, "orderAt(-1)", x.orderAt(-1), 8);
        CHECK.good(x, "nothing was SHOWN", x.many(11), 0);
        CHECK.good(x, "no ROUND", x.many(7), 0);
        CHECK.bad(x, "HUNG can't be", x.bestOrder(0), 8);
        CHECK.bad(x, "bestOrder(2)", x.bestOrder(2), 5);
        CHECK.bad(x, "bestOrder(-2)", x.bestOrder(-2), 5);
        x.show(1);
        CHECK.good(x, "without q", x.bestOrder(1), 2);
        CHECK.good(x, "orderAt(0)", x.orderAt(0), 0);
        CHECK.good(x, "orderAt(1)", x.orderAt(1), 2);
        x.show(2);
        x.show(0);
        CHECK.good(x, "GUILTY as it is", x.bestOrder(1), 0);
        x.show(5);
        CHECK.good(x, "s alone does not, s with t does not", x.bestOrder(-1), 0);
        CHECK.bad(x, "none is left that helps", x.bestOrder(1), 8);
    }

    private static void orderStays() {
        RainJury x = Check.with("juror a leans less 4;proof p 1;proof q 5;");
        CHECK.good(x, "GUILTY", x.bestOrder(1), 1);
        CHECK.good(x, "q", x.orderAt(0), 1);
        CHECK.bad(x, "none", x.bestOrder(0), 8);
        CHECK.good(x, "the latest with STATUS 0", x.orderAt(0), 1);
        Check.court(x, "juror z;");
        CHECK.good(x, "whatever came", x.orderAt(0), 1);
        RainJury four = Check.with("juror a leans less 7;proof p 1;proof q 2;proof r 2;proof s 2;proof t 2;");
        CHECK.good(four, "four", four.bestOrder(1), 4);
        for (int i = 0; i < 4; i++) {
            CHECK.good(four, "orderAt", four.orderAt(i), i + 1);
        }
        four.lean(0, -8);
        CHECK.bad(four, "five are too many", four.bestOrder(1), 8);
        // The ROUND behind q sways a first, so that the order counts.
        RainJury turn = Check.with("juror a leans less 30;juror b leans less 2;proof p 20;proof q 3;sways b a 9;law all;");
        CHECK.good(turn, "GUILTY", turn.bestOrder(1), 2);
        CHECK.good(turn, "orderAt(0)", turn.orderAt(0), 0);
        CHECK.good(turn, "orderAt(1)", turn.orderAt(1), 1);
    }

    private static void ordersByHunger() {
        RainJury x = Check.with("juror a leans 5;juror b leans 5;juror c leans less 1;proof p 0;proof q 0;hunger 2;law all;");
        CHECK.bad(x, "ROUND 2 alone", x.bestOrder(1), 8);
        x.talk(1);
        CHECK.good(x, "ROUNDS 2 and 3", x.bestOrder(1), 2);
        x.talk(2);
        CHECK.good(x, "as it is", x.bestOrder(1), 0);
    }

    private static void bribes() {
        RainJury x = Check.with("juror a leans less 5 price 4;juror b leans less 5 price 3;juror c leans less 5 price 4;"
                + "juror d leans 5 price 1;sways b a 6;sways b c 6;");
        CHECK.good(x, "FREE for nothing", x.bribes(-1, 1, 0), 0);
        CHECK.good(x, "nobody", x.bribeSet(), 0);
        CHECK.good(x, "GUILTY now", x.bribes(1, 1, 0), 7);
        CHECK.good(x, "the least set", x.bribeSet(), 3);
        CHECK.good(x, "GUILTY behind a ROUND", x.bribes(1, 1, 1), 3);
        CHECK.good(x, "b", x.bribeSet(), 2);
        CHECK.bad(x, "by the other side", x.bribes(1, -1, 0), 8);
        CHECK.good(x, "the latest with STATUS 0", x.bribeSet(), 2);
        CHECK.good(x, "nothing was spent", x.many(9), 0);
        CHECK.good(x, "nobody was bribed", x.juror(1, 0), -5);
        x.strike(1);
        CHECK.good(x, "without b", x.bribes(1, 1, 0), 4);
        CHECK.good(x, "a", x.bribeSet(), 1);
        CHECK.good(x, "with ROUNDS", x.bribes(1, 1, 9), 4);
        CHECK.bad(x, "verdict 2", x.bribes(2, 1, 0), 5);
        CHECK.bad(x, "verdict -2", x.bribes(-2, 1, 0), 5);
        CHECK.bad(x, "side 0", x.bribes(1, 0, 0), 5);
        CHECK.bad(x, "side 2", x.bribes(1, 2, 0), 5);
        CHECK.bad(x, "rounds -1", x.bribes(1, 1, -1), 5);
        CHECK.bad(x, "rounds 10", x.bribes(1, 1, 10), 5);
        RainJury free = Check.with("juror a leans 5 price 2;juror b leans 5;juror c leans 5;law two;");
        CHECK.good(free, "FREE", free.bribes(-1, -1, 0), 0);
        CHECK.good(free, "those for nothing", free.bribeSet(), 6);
        CHECK.good(free, "HUNG can't be of three", free.bribes(1, -1, 9), 0);
    }

    private static void bribeSetStays() {
        RainJury x = Check.with("juror a price 2;");
        CHECK.bad(x, "none yet", x.bribeSet(), 8);
        x.bribes(0, 1, 0);
        CHECK.bad(x, "none yet", x.bribeSet(), 8);
        CHECK.good(x, "GUILTY", x.bribes(1, 1, 0), 2);
        Check.court(x, "");
        CHECK.good(x, "whatever came", x.bribeSet(), 1);
        CHECK.good(x, "nobody is HUNG", x.bribes(0, -1, 3), 0);
        CHECK.good(x, "bribeSet()", x.bribeSet(), 0);
        RainJury hungry = Check.with("juror a leans 2 price 9;juror b leans less 1;juror c leans 1 price 8;hunger 2;law all;");
        CHECK.good(hungry, "HUNGER is minded", hungry.bribes(1, 1, 3), 0);
        hungry.talk(1);
        CHECK.good(hungry, "bribeSet()", hungry.bribeSet(), 0);
        CHECK.good(hungry, "nobody", hungry.bribes(1, 1, 2), 0);
        CHECK.good(hungry, "bribeSet()", hungry.bribeSet(), 0);
        CHECK.good(hungry, "b for nothing", hungry.bribes(1, 1, 1), 0);
        CHECK.good(hungry, "b", hungry.bribeSet(), 2);
        RainJury cut = Check.with("juror a price 1;juror b leans less 50 price 99;juror c leans 50 price 99;sways b a 11;");
        CHECK.good(cut, "99 is 0 behind nine ROUNDS", cut.bribes(1, 1, 9), 99);
        CHECK.good(cut, "but not behind eight", cut.bribes(1, 1, 8), 1);
    }

    private static void strikes() {
        RainJury x = Check.with("juror a;juror b leans 1;juror c leans 1;juror d;juror e leans 1;");
        CHECK.good(x, "strikes(1)", x.strikes(1), 1);
        CHECK.good(x, "all alike", x.firstStrike(1), 0);
        CHECK.good(x, "strikes(2)", x.strikes(2), 1);
        CHECK.bad(x, "strikes(3)", x.strikes(3), 9);
        CHECK.bad(x, "firstStrike(3)", x.firstStrike(3), 9);
        CHECK.bad(x, "strikes(0)", x.strikes(0), 5);
        CHECK.bad(x, "strikes(4)", x.strikes(4), 5);
        CHECK.bad(x, "firstStrike(0)", x.firstStrike(0), 5);
        CHECK.bad(x, "firstStrike(4)", x.firstStrike(4), 5);
        x.strike(4);
        CHECK.good(x, "2 to 2", x.strikes(1), -1);
        CHECK.good(x, "a GUILTY one", x.firstStrike(1), 1);
        CHECK.good(x, "nobody is left", x.strikes(2), 0);
        CHECK.good(x, "firstStrike(2)", x.firstStrike(2), 0);
        CHECK.good(x, "all stays", x.many(10), 15);
        x.strike(0);
        CHECK.bad(x, "three", x.strikes(2), 9);
    }

    private static void draws() {
        RainJury x = Check.with("juror a leans 1;juror b leans 1;juror c;juror d;");
        CHECK.good(x, "drawn(1, 0, 1)", x.drawn(1, 0, 1));
        CHECK.fraction(x, "1 of 4", 1, 2);
        CHECK.good(x, "drawn(2, 0, 1)", x.drawn(2, 0, 1));
        CHECK.fraction(x, "2 of 4", 1, 6);
        CHECK.good(x, "drawn(4, 9, -1)", x.drawn(4, 9, -1));
        CHECK.fraction(x, "all", 1, 1);
        CHECK.good(x, "drawn(2, 0, 0)", x.drawn(2, 0, 0));
        CHECK.fraction(x, "never", 0, 1);
        x.drawn(3, 0, 1);
        CHECK.fraction(x, "3 of 4", 1, 2);
        x.drawn(2, 0, -1);
        CHECK.fraction(x, "2 of 4", 5, 6);
        CHECK.bad(x, "n 0", x.drawn(0, 0, 1), 5);
        CHECK.bad(x, "n 5", x.drawn(5, 0, 1), 5);
        CHECK.bad(x, "n -1", x.drawn(-1, 0, 1), 5);
        CHECK.bad(x, "rounds 10", x.drawn(1, 10, 1), 5);
        CHECK.bad(x, "rounds -1", x.drawn(1, -1, 1), 5);
        CHECK.bad(x, "verdict 2", x.drawn(1, 0, 2), 5);
        CHECK.bad(x, "verdict -2", x.drawn(1, 0, -2), 5);
        CHECK.fraction(x, "wrong ones", 5, 6);
        x.lean(2, 9);
        x.lean(3, 9);
        x.strike(0);
        x.talk(1);
        x.drawn(1, 0, 1);
        CHECK.fraction(x, "as told", 1, 2);
        CHECK.good(x, "all stays", x.many(10), 14);
        CHECK.good(x, "all stays", x.juror(2, 0), 9);
        RainJury sway = Check.with("juror a leans 1;juror b;juror c;sways a b 1;sways b c 1;hunger 3;law all;");
        sway.talk(5);
        sway.drawn(2, 1, 1);
        CHECK.fraction(sway, "by a ROUND", 1, 3);
        sway.drawn(3, 1, 1);
        CHECK.fraction(sway, "by a ROUND", 1, 1);
        RainJury hungry = Check.with("juror a leans 1;juror b leans 1;juror c;hunger 3;law all;");
        hungry.talk(5);
        hungry.drawn(3, 2, 1);
        CHECK.fraction(hungry, "ahead of HUNGER", 0, 1);
        hungry.drawn(3, 3, 1);
        CHECK.fraction(hungry, "HUNGER", 1, 1);
    }
}

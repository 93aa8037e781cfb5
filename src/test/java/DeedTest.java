/** Promises 21 to 27: what is done in a COURT. */
public final class DeedTest {
    private static final Check CHECK = new Check("DeedTest");

    public static void main(String[] args) {
        shows();
        talks();
        talksInTurn();
        hungers();
        talkLimits();
        endsDays();
        dayLimit();
        strikesAndSeats();
        bribes();
        bribeLimit();
        leans();
        CHECK.end();
    }

    private static void leanings(RainJury x, String when, int... want) {
        for (int i = 0; i < want.length; i++) {
            CHECK.good(x, "juror(" + i + ", 0) " + when, x.juror(i, 0), want[i]);
        }
    }

    private static void shows() {
        RainJury x = Check.with("juror a leans 95;juror b leans 99;juror c stubborn 12;juror d stubborn 13;"
                + "juror e leans less 3 stubborn 4;juror f;proof p 12;proof q less 12;proof r 0;");
        x.strike(5);
        CHECK.good(x, "show(0)", x.show(0), 2);
        leanings(x, "behind p", 99, 99, 0, 0, 5, 0);
        CHECK.bad(x, "show(0) again", x.show(0), 9);
        CHECK.good(x, "show(2)", x.show(2), 0);
        CHECK.good(x, "show(1)", x.show(1), 3);
        leanings(x, "behind q", 87, 87, 0, 0, -3, 0);
        CHECK.good(x, "many(11)", x.many(11), 7);
        CHECK.bad(x, "show(3)", x.show(3), 2);
        CHECK.bad(x, "show(-1)", x.show(-1), 2);
        x.endDay();
        leanings(x, "on the next day", 95, 99, 0, 0, -3, 0);
        CHECK.good(x, "show(0) on the next day", x.show(0), 3);
        RainJury y = Check.with("juror a leans less 95;proof p less 9;");
        CHECK.good(y, "show(0)", y.show(0), 1);
        leanings(y, "cut", -99);
    }

    private static void talks() {
        RainJury x = Check.with("juror a leans 1;juror b leans less 1;juror c;juror d stubborn 3;juror e stubborn 2;"
                + "juror f leans 97;sways a d 3;sways a e 3;sways b f 1;sways a f 6;sways c d 20;sways c e 20;");
        CHECK.good(x, "talk(1)", x.talk(1), -1);
        leanings(x, "behind a ROUND", 1, -1, 0, 0, 3, 99);
        CHECK.good(x, "many(7)", x.many(7), 1);
        x.strike(0);
        CHECK.good(x, "talk(2)", x.talk(2), -1);
        leanings(x, "without a", 1, -1, 0, 0, 3, 97);
        CHECK.good(x, "many(7)", x.many(7), 3);
        x.seat(0);
        x.strike(5);
        x.talk(1);
        leanings(x, "one struck stays", 1, -1, 0, 0, 6, 97);
        CHECK.bad(x, "talk(0)", x.talk(0), 5);
        CHECK.bad(x, "talk(100)", x.talk(100), 5);
        CHECK.bad(x, "talk(-1)", x.talk(-1), 5);
        CHECK.bad(x, "talk(max)", x.talk(Integer.MAX_VALUE), 5);
    }

    /** A JUROR's turn comes behind that of those ahead of it in the same ROUND. */
    private static void talksInTurn() {
        RainJury x = Check.with("juror a leans 1;juror b;juror c;sways a b 2;sways b c 5;sways c a 20;");
        x.talk(1);
        leanings(x, "in turn", 1, 2, 5);
        x.talk(1);
        leanings(x, "in turn", 21, 4, 10);
        RainJury y = Check.with("juror a;juror b;juror c leans 1;sways b a 5;sways c b 2;");
        y.talk(1);
        leanings(y, "against the turn", 0, 2, 1);
        y.talk(1);
        leanings(y, "against the turn", 5, 4, 1);
    }

    private static void hungers() {
        RainJury x = Check.with("juror a leans 98;juror b leans 1;juror c leans less 1;hunger 3;");
        x.talk(2);
        leanings(x, "ahead of HUNGER", 98, 1, -1);
        x.talk(1);
        leanings(x, "HUNGER", 99, 2, 0);
        x.talk(1);
        leanings(x, "HUNGER", 99, 3, 1);
        x.endDay();
        x.talk(2);
        leanings(x, "a day anew", 98, 1, -1);
        x.strike(0);
        x.talk(5);
        leanings(x, "alike", 98, 1, -1);
        x.strike(1);
        x.talk(99);
        leanings(x, "FREE", 98, 1, -99);
        x.strike(2);
        CHECK.good(x, "talk of nobody", x.talk(1), 0);
        RainJury y = Check.with("juror a leans less 5;juror b leans 1;juror c leans 1;sways a b 1;hunger 1;");
        y.talk(1);
        leanings(y, "votes behind the talk", -6, -1, 0);
    }

    private static void talkLimits() {
        RainJury x = Check.with("juror a leans 1;juror b leans 1;sways a b 3;sways b a 3;");
        for (int i = 0; i < 101; i++) {
            CHECK.good(x, "talk(99)", x.talk(99), 1);
        }
        CHECK.good(x, "many(7)", x.many(7), 9999);
        CHECK.bad(x, "talk(1)", x.talk(1), 7);
        CHECK.bad(x, "talk(0)", x.talk(0), 5);
        CHECK.good(x, "many(7)", x.many(7), 9999);
        CHECK.good(x, "after(200)", x.after(200), 1);
        CHECK.good(x, "soonest(1)", x.soonest(1), 0);
        x.endDay();
        x.talk(99);
        for (int i = 0; i < 99; i++) {
            x.talk(99);
        }
        x.talk(98);
        CHECK.bad(x, "talk(2)", x.talk(2), 7);
        CHECK.good(x, "talk(1)", x.talk(1), 1);
    }

    private static void endsDays() {
        RainJury x = Check.with("juror a leans 1;juror b leans less 1;juror c;proof p 9;weather u;weather v;weather w;"
                + "follows u guilty v free w;follows v guilty w free u;crop k on u 5 on v less 7;"
                + "crop d on w 1;law all;");
        CHECK.good(x, "HUNG", x.endDay(), 0);
        CHECK.good(x, "the WEATHER stays", x.many(8), 0);
        CHECK.good(x, "crop(0)", x.crop(0), 5);
        CHECK.good(x, "many(6)", x.many(6), 1);
        x.show(0);
        x.talk(3);
        x.strike(1);
        x.bribe(0, 1);
        CHECK.good(x, "GUILTY", x.endDay(), 1);
        CHECK.good(x, "v", x.many(8), 1);
        CHECK.good(x, "crop(0)", x.crop(0), 10);
        CHECK.good(x, "ROUND 0", x.many(7), 0);
        CHECK.good(x, "all SEATED", x.many(10), 7);
        CHECK.good(x, "none SHOWN", x.many(11), 0);
        leanings(x, "as told", 1, -1, 0);
        x.strike(0);
        CHECK.good(x, "FREE", x.endDay(), -1);
        CHECK.good(x, "u", x.many(8), 0);
        CHECK.good(x, "crop(0)", x.crop(0), 3);
        x.strike(0);
        CHECK.good(x, "FREE", x.endDay(), -1);
        CHECK.good(x, "w", x.many(8), 2);
        x.strike(0);
        x.strike(1);
        x.strike(2);
        CHECK.good(x, "nobody", x.endDay(), 0);
        CHECK.good(x, "w", x.many(8), 2);
        CHECK.good(x, "crop(0)", x.crop(0), 8);
        CHECK.good(x, "crop(1)", x.crop(1), 1);
        CHECK.good(x, "many(6)", x.many(6), 5);
        RainJury y = Check.with("juror a leans 1;crop c;");
        CHECK.good(y, "without WEATHERS", y.endDay(), 1);
        CHECK.good(y, "crop(0)", y.crop(0), 0);
    }

    private static void dayLimit() {
        RainJury x = Check.with("juror a leans 1;weather u;crop c on u less 99;",
                "loop 99;loop 5;verdict;verdict;verdict;verdict;verdict;verdict;verdict;verdict;verdict;end;end;");
        int days = 0;
        for (int i = 0; i < 60 && days < 9999; i++) {
            x.live(0);
            days = x.many(6);
        }
        CHECK.good(x, "many(6)", x.many(6), 9999);
        CHECK.due("MISSED ones", x.lived(0) > 0, true);
        CHECK.bad(x, "endDay()", x.endDay(), 7);
        CHECK.good(x, "many(6)", x.many(6), 9999);
        CHECK.good(x, "crop(0)", x.crop(0), -99 * 9999);
    }

    private static void strikesAndSeats() {
        RainJury x = Check.with("juror a leans 3;juror b;");
        CHECK.bad(x, "seat(0)", x.seat(0), 9);
        CHECK.good(x, "strike(0)", x.strike(0));
        CHECK.good(x, "many(10)", x.many(10), 2);
        CHECK.bad(x, "strike(0)", x.strike(0), 9);
        CHECK.bad(x, "strike(2)", x.strike(2), 2);
        CHECK.bad(x, "strike(-1)", x.strike(-1), 2);
        CHECK.bad(x, "seat(2)", x.seat(2), 2);
        CHECK.bad(x, "seat(-1)", x.seat(-1), 2);
        CHECK.bad(x, "strike(32)", x.strike(32), 2);
        x.lean(0, -7);
        CHECK.good(x, "seat(0)", x.seat(0));
        CHECK.good(x, "many(10)", x.many(10), 3);
        leanings(x, "as it leans", -7, 0);
    }

    private static void bribes() {
        RainJury x = Check.with("juror a leans less 3 price 7;juror b price 99;juror c;");
        CHECK.good(x, "bribe(0, 1)", x.bribe(0, 1), 7);
        CHECK.good(x, "bribe(1, -1)", x.bribe(1, -1), 106);
        CHECK.good(x, "bribe(2, 1)", x.bribe(2, 1), 106);
        leanings(x, "bribed", 99, -99, 99);
        CHECK.good(x, "bribe(0, 1) again", x.bribe(0, 1), 113);
        CHECK.good(x, "many(9)", x.many(9), 113);
        x.endDay();
        CHECK.good(x, "COINS stay spent", x.many(9), 113);
        leanings(x, "a day anew", -3, 0, 0);
        x.strike(0);
        CHECK.bad(x, "not SEATED", x.bribe(0, 1), 9);
        CHECK.bad(x, "side 0", x.bribe(0, 0), 5);
        CHECK.bad(x, "side 2", x.bribe(0, 2), 5);
        CHECK.bad(x, "no such", x.bribe(3, 0), 2);
        CHECK.bad(x, "no such", x.bribe(-1, 1), 2);
        CHECK.good(x, "many(9)", x.many(9), 113);
    }

    private static void bribeLimit() {
        RainJury x = Check.with("juror a price 99;juror b price 1;juror c;");
        for (int i = 0; i < 101; i++) {
            x.bribe(0, 1);
        }
        CHECK.good(x, "many(9)", x.many(9), 9999);
        x.lean(1, 5);
        CHECK.bad(x, "bribe(1, 1)", x.bribe(1, 1), 7);
        leanings(x, "not bribed", 99, 5);
        x.strike(1);
        x.strike(2);
        CHECK.bad(x, "7 ahead of 9", x.bribe(1, 1), 7);
        CHECK.bad(x, "9", x.bribe(2, 1), 9);
        x.seat(2);
        CHECK.good(x, "for nothing", x.bribe(2, 1), 9999);
    }

    private static void leans() {
        RainJury x = Check.with("juror a leans 3;juror b;");
        CHECK.good(x, "lean(0, -99)", x.lean(0, -99));
        CHECK.good(x, "lean(1, 99)", x.lean(1, 99));
        leanings(x, "leans so", -99, 99);
        CHECK.bad(x, "lean(0, 100)", x.lean(0, 100), 5);
        CHECK.bad(x, "lean(0, -100)", x.lean(0, -100), 5);
        CHECK.bad(x, "lean(2, 100)", x.lean(2, 100), 2);
        CHECK.bad(x, "lean(-1, 0)", x.lean(-1, 0), 2);
        x.strike(0);
        CHECK.good(x, "one struck", x.lean(0, 8));
        leanings(x, "leans so", 8, 99);
        x.endDay();
        leanings(x, "this day alone", 3, 0);
    }
}

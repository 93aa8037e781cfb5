/** Promises 9 to 20: the tape, COURTS and WEEKS as texts, FAULTS, what a COURT tells. */
public final class TextTest {
    private static final Check CHECK = new Check("TextTest");

    public static void main(String[] args) {
        tape();
        emptyTexts();
        courtFaults();
        courtNames();
        courtLimits();
        weeksFaults();
        weeksLimits();
        faultStays();
        courtIsTaken();
        oldOnesStay();
        tellsMany();
        tellsJurors();
        tellsThings();
        copies();
        CHECK.end();
    }

    private static void tape() {
        RainJury x = new RainJury();
        for (int i = 1; i <= 45; i++) {
            CHECK.due("feed", x.feed(538976288, 538976288, 538976288, 538976288, 538976288), 20 * i);
        }
        CHECK.due("feed beyond 900", x.feed(0, 0, 0, 0, 0), -1);
        CHECK.due("status()", x.status(), 0);
        CHECK.bad(x, "court(901)", x.court(901), 5);
        CHECK.bad(x, "court(-1)", x.court(-1), 5);
        CHECK.bad(x, "court(min)", x.court(Integer.MIN_VALUE), 5);
        CHECK.bad(x, "weeks(301)", x.weeks(301), 5);
        CHECK.bad(x, "weeks(-1)", x.weeks(-1), 5);
        CHECK.good(x, "weeks(300)", x.weeks(300), 0);
        CHECK.due("the tape is empty", x.feed(0, 0, 0, 0, 0), 20);
        CHECK.bad(x, "court(21)", x.court(21), 5);
        CHECK.due("it was not emptied by 5", x.feed(0, 0, 0, 0, 0), 40);
        CHECK.bad(x, "court(1)", x.court(1), 10);
        CHECK.due("emptied by 10", x.feed(0, 0, 0, 0, 0), 20);
        x.court(0);
        CHECK.good(x, "court of 900 bytes", longCourt(x), 1);
        x.feed(0x6a75726f, 0x7220617a, 0x3b202020, 0x20202020, 0x20202020);
        CHECK.good(x, "highest byte first", x.court(9), 1);
        x.feed(-1, 0, 0, 0, 0);
        CHECK.bad(x, "a byte of 255", x.court(1), 10);
        CHECK.due("fault(0)", x.fault(0), 1);
        Check.feed(x, "juror abc leans 123;");
        CHECK.bad(x, "a NUMBER that the text's end cuts", x.court(17), 10);
        CHECK.due("fault(0)", x.fault(0), 2);
        CHECK.due("fault(1)", x.fault(1), 17);
        Check.feed(x, "juror lawn;law all;");
        CHECK.bad(x, "a NAME that the text's end cuts", x.court(9), 10);
        CHECK.due("fault(0)", x.fault(0), 2);
        CHECK.due("fault(1)", x.fault(1), 6);
    }

    private static int longCourt(RainJury x) {
        StringBuilder text = new StringBuilder();
        while (text.length() < 891) {
            text.append(text.length() % 2 == 0 ? ' ' : '\n');
        }
        text.append("juror az;");
        return Check.court(x, text.toString());
    }

    private static void emptyTexts() {
        RainJury x = new RainJury();
        CHECK.good(x, "court(0)", x.court(0), 0);
        CHECK.due("fault(0)", x.fault(0), 0);
        CHECK.due("fault(1)", x.fault(1), -1);
        CHECK.good(x, "weeks(0)", x.weeks(0), 0);
        CHECK.good(x, "live of no STEPS", x.live(0), 0);
    }

    private static void fault(String text, int kind, int place) {
        RainJury x = new RainJury();
        CHECK.bad(x, "court '" + text + "'", Check.court(x, text), 10);
        CHECK.due("fault(0) of '" + text + "'", x.fault(0), kind);
        CHECK.due("fault(1) of '" + text + "'", x.fault(1), place);
    }

    private static void fine(String text) {
        RainJury x = new RainJury();
        Check.court(x, text);
        CHECK.due("status() of '" + text + "'", x.status(), 0);
        CHECK.due("fault(0) of '" + text + "'", x.fault(0), 0);
        CHECK.due("fault(1) of '" + text + "'", x.fault(1), -1);
    }

    private static void courtFaults() {
        String noTokens = "\t\r!#A Z_`{~\u0000\u007f\u0080\u00e9\u00ff:?@/-,.".replace(" ", "");
        for (int i = 0; i < noTokens.length(); i++) {
            fault("juror a" + noTokens.charAt(i) + ";", 1, 7);
            fault("" + noTokens.charAt(i), 1, 0);
        }
        fault("juror a leans 00001;", 1, 14);
        fault("juror a leans 12345 @", 1, 14);
        fault("12345", 1, 0);
        fault("1234", 2, 0);
        fault("juror a leans 0001 stubborn @;", 1, 28);
        fault("ann;", 2, 0);
        fault(";", 2, 0);
        fault("juror a;;", 2, 8);
        fault("juror", 2, 5);
        fault("juror  \n ", 2, 9);
        fault("juror a", 2, 7);
        fault("juror a leans", 2, 13);
        fault("juror a leans ;", 2, 14);
        fault("juror a leans less;", 2, 18);
        fault("juror a leans less less 1;", 2, 19);
        fault("juror a leans 1 leans 2;", 2, 16);
        fault("juror a price 1 stubborn 2;", 2, 16);
        fault("juror a stubborn 1 leans 2;", 2, 19);
        fault("juror a stubborn less 1;", 2, 17);
        fault("juror a price less 1;", 2, 14);
        fault("juror a b;", 2, 8);
        fault("juror 1;", 2, 6);
        fault("juror a 1;", 2, 8);
        fault("juror a1;", 2, 7);
        fault("jurora;", 2, 0);
        fault("juror a leans 100;", 4, 14);
        fault("juror a leans less 100;", 4, 19);
        fault("juror a stubborn 21;", 4, 17);
        fault("juror a price 100;", 4, 14);
        fault("juror a;juror a;", 3, 14);
        fault("juror a;proof a 1;", 3, 14);
        fault("sways a b 1;", 3, 6);
        fault("juror a;sways a b 1;", 3, 16);
        fault("juror a;sways a a 1;", 5, 16);
        fault("juror a;juror b;sways a b 21;", 4, 26);
        fault("juror a;juror b;sways a b less 1;", 2, 26);
        fault("juror a;juror b;sways a b;", 2, 25);
        fault("juror a;proof b 1;sways a b 1;", 3, 26);
        fault("proof a;", 2, 7);
        fault("proof a 100;", 4, 8);
        fault("proof a less 100;", 4, 13);
        fault("weather a b;", 2, 10);
        fault("weather a;weather a;", 3, 18);
        fault("follows a guilty a free a;", 3, 8);
        fault("weather a;follows a free a guilty a;", 2, 20);
        fault("weather a;follows a guilty b free a;", 3, 27);
        fault("weather a;follows a guilty a free b;", 3, 34);
        fault("weather a;follows a guilty a free a", 2, 35);
        fault("juror a;follows a guilty a free a;", 3, 16);
        fault("crop a on b 1;", 3, 10);
        fault("crop a on a 1;", 3, 10);
        fault("weather b;crop b;", 3, 15);
        fault("weather b;crop a on b;", 2, 21);
        fault("weather b;crop a on b 100;", 4, 22);
        fault("weather b;crop a on b less 100;", 4, 27);
        fault("weather b;crop a b 1;", 2, 17);
        fault("hunger 0;", 4, 7);
        fault("hunger 100;", 4, 7);
        fault("hunger less 1;", 2, 7);
        fault("hunger 1;hunger 2;", 5, 9);
        fault("hunger 1;hunger", 5, 9);
        fault("law some;", 2, 4);
        fault("law juror;", 2, 4);
        fault("law ;", 2, 4);
        fault("law all;law two;", 5, 8);
        fault("law most;law most;", 5, 9);
        fault("juror a < ;", 2, 8);
        fault("show a;", 2, 0);
        fault("end;", 2, 0);
        fault("juror a @ juror a;", 1, 8);
        fault("juror a; ann @", 2, 9);
        fine("");
        fine(" \n ");
        fine("juror a;");
        fine("juror\na\nleans\nless\n99\nstubborn\n20\nprice\n99\n;");
        fine("juror a leans 0099 stubborn 0020 price 0000;");
        fine("juror a leans less 0;juror b leans 99;");
        fine("juror a;juror b;sways a b 0;sways a b 20;sways b a 0001;");
        fine("proof a less 99;proof b 99;proof c 0;");
        fine("weather a;follows a guilty a free a;follows a guilty a free a;");
        fine("weather a;crop b;crop c on a less 99;crop d on a 99 on a 1;");
        fine("hunger 1;law two;");
        fine("hunger 99;law most;");
        fine("juror a leans5stubborn6price7;");
        fine("juror abcdefgh;");
    }

    private static void courtNames() {
        String[] reserved = {"juror", "leans", "less", "stubborn", "price", "sways", "proof", "weather", "follows",
            "guilty", "free", "crop", "on", "hunger", "law", "most", "all", "two", "show", "talk", "verdict", "strike",
            "seat", "bribe", "mood", "when", "votes", "loop", "end", "stop"};
        String[] parts = {"juror", "proof", "weather", "crop", "sways", "follows"};
        for (String part : parts) {
            for (String word : reserved) {
                fault(part + " " + word + ";", 2, part.length() + 1);
            }
            fault(part + " abcdefghi;", 2, part.length() + 1);
            fault(part + " stubbornx;", 2, part.length() + 1);
        }
        for (String word : reserved) {
            if (word.length() < 8) {
                fine("juror " + word + "x;");
            }
            fine("juror " + word.substring(0, word.length() - 1) + "q;");
        }
        String[] makers = {"juror a;", "proof a 1;", "weather a;", "crop a;"};
        for (String first : makers) {
            for (String second : makers) {
                fault(first + second, 3, first.length() + second.indexOf(' ') + 1);
            }
        }
        fine("juror a;juror aa;juror aaa;juror aaaaaaaa;proof b 1;weather c;crop d;");
    }

    private static String things(String part, String rest, int many) {
        StringBuilder text = new StringBuilder();
        for (int i = 0; i < many; i++) {
            text.append(part).append(' ').append(part.charAt(0)).append((char) ('a' + i)).append(rest).append(';');
        }
        return text.toString();
    }

    private static void courtLimits() {
        String[] parts = {"juror", "proof", "weather", "crop"};
        String[] rests = {"", " 1", "", ""};
        int[] most = {10, 6, 6, 4};
        for (int i = 0; i < 4; i++) {
            String full = things(parts[i], rests[i], most[i]);
            fine(full);
            fault(full + parts[i] + " @", 6, full.length());
            fault(full + parts[i], 6, full.length());
            RainJury x = Check.with(full);
            CHECK.good(x, "many(" + i + ")", x.many(i), most[i]);
        }
        fine(things("juror", "", 10) + things("proof", " 1", 6) + things("weather", "", 6) + things("crop", "", 4));
    }

    private static final String COURT = "juror ann leans 10 price 5;juror bob leans less 4;proof gun 12;weather sun;"
            + "weather rain;crop rye on sun 3;";

    private static void weeksFault(String text, int kind, int place) {
        RainJury x = Check.with(COURT);
        CHECK.bad(x, "weeks '" + text + "'", Check.weeks(x, text), 10);
        CHECK.due("fault(0) of weeks '" + text + "'", x.fault(0), kind);
        CHECK.due("fault(1) of weeks '" + text + "'", x.fault(1), place);
    }

    private static void weeksFine(String text, int steps) {
        RainJury x = Check.with(COURT);
        CHECK.good(x, "weeks '" + text + "'", Check.weeks(x, text), steps);
        CHECK.due("fault(0)", x.fault(0), 0);
        CHECK.due("fault(1)", x.fault(1), -1);
    }

    private static void weeksFaults() {
        weeksFault("@", 1, 0);
        weeksFault("talk 12345;", 1, 5);
        weeksFault("show gun @", 1, 9);
        weeksFault("when votes ! 1;", 1, 11);
        weeksFault("go;", 2, 0);
        weeksFault("juror a;", 2, 0);
        weeksFault("votes;", 2, 0);
        weeksFault(";", 2, 0);
        weeksFault("end;", 2, 0);
        weeksFault("mood;end;", 2, 5);
        weeksFault("when votes=1;end;end;", 2, 17);
        weeksFault("when votes=1;end", 2, 16);
        weeksFault("when votes=1;end end;", 2, 17);
        weeksFault("loop 1;", 2, 7);
        weeksFault("loop 1; mood;  ", 2, 15);
        weeksFault("loop;", 2, 4);
        weeksFault("loop less 1;", 2, 5);
        weeksFault("loop 0;end;", 4, 5);
        weeksFault("loop 100;end;", 4, 5);
        weeksFault("talk;", 2, 4);
        weeksFault("talk 0;", 4, 5);
        weeksFault("talk 100;", 4, 5);
        weeksFault("talk 1", 2, 6);
        weeksFault("show ann;", 3, 5);
        weeksFault("show gum;", 3, 5);
        weeksFault("show 1;", 2, 5);
        weeksFault("show proof;", 2, 5);
        weeksFault("show abcdefghi;", 2, 5);
        weeksFault("show gun gun;", 2, 9);
        weeksFault("verdict 1;", 2, 8);
        weeksFault("mood 1;", 2, 5);
        weeksFault("stop 1;", 2, 5);
        weeksFault("strike gun;", 3, 7);
        weeksFault("seat sun;", 3, 5);
        weeksFault("bribe rye;", 3, 6);
        weeksFault("bribe less ann;", 2, 6);
        weeksFault("bribe ann less less;", 2, 15);
        weeksFault("bribe ann 1;", 2, 10);
        weeksFault("when;", 2, 4);
        weeksFault("when ann;", 2, 5);
        weeksFault("when juror ann;", 2, 5);
        weeksFault("when votes 1;", 2, 11);
        weeksFault("when votes ; 1;", 2, 11);
        weeksFault("when votes > less 1;", 2, 13);
        weeksFault("when votes > 11;", 4, 13);
        weeksFault("when votes > 1 1;", 2, 15);
        weeksFault("when weather rye;", 3, 13);
        weeksFault("when weather = sun;", 2, 13);
        weeksFault("when weather sun > 1;", 2, 17);
        weeksFault("when crop sun > 1;", 3, 10);
        weeksFault("when crop > 1;", 2, 10);
        weeksFault("when crop rye 1;", 2, 14);
        weeksFault("when crop rye > less;", 2, 20);
        weeksFault("when crop rye > > 1;", 2, 16);
        weeksFault("when crop rye > 10000;", 1, 16);
        weeksFine("", 0);
        weeksFine(" \n", 0);
        weeksFine("mood;verdict;stop;", 3);
        weeksFine("show gun;talk 1;talk 99;strike ann;seat bob;bribe ann;bribe bob less;", 7);
        weeksFine("when votes<0;end;when votes>10;end;when votes=0010;end;", 3);
        weeksFine("when weather sun;end;when weather rain;mood;end;", 3);
        weeksFine("when crop rye>0;end;when crop rye<less 9999;end;when crop rye=9999;end;", 3);
        weeksFine("loop 1;end;loop 99;mood;end;", 3);
        weeksFine("loop 1;loop 2;loop 3;mood;end;end;end;", 4);
    }

    private static void weeksLimits() {
        String thirty = "stop;".repeat(30);
        weeksFine(thirty, 30);
        weeksFault(thirty + "stop;", 6, 150);
        weeksFault(thirty + "stop", 6, 150);
        weeksFault(thirty + "go", 2, 150);
        weeksFault(thirty + "loop", 6, 150);
        weeksFault(thirty + "end;", 2, 150);
        String three = "loop 1;when votes=1;loop 1;";
        weeksFault(three + "loop 1;", 7, three.length());
        weeksFault(three + "when x", 7, three.length());
        weeksFault(three + "go", 2, three.length());
        weeksFine(three + "mood;end;loop 2;end;end;end;", 5);
        weeksFine(three + "end;end;end;" + three + "end;end;end;", 6);
        String full = "stop;".repeat(27) + three;
        weeksFine(full + "end;end;end;", 30);
        weeksFault(full + "loop 1;", 6, full.length());
        weeksFault(full + "mood;", 6, full.length());
        weeksFine("loop 1;end;".repeat(27), 27);
    }

    private static void faultStays() {
        RainJury x = new RainJury();
        Check.court(x, "juror @;");
        CHECK.due("fault(0)", x.fault(0), 1);
        CHECK.due("fault(1)", x.fault(1), 6);
        CHECK.due("fault(2)", x.fault(2), -1);
        CHECK.due("fault(-1)", x.fault(-1), -1);
        CHECK.due("status()", x.status(), 10);
        x.court(5);
        CHECK.due("fault(0) behind 5", x.fault(0), 1);
        CHECK.due("fault(1) behind 5", x.fault(1), 6);
        Check.weeks(x, "mood;");
        CHECK.due("fault(0) of weeks", x.fault(0), 0);
        CHECK.due("fault(1) of weeks", x.fault(1), -1);
        Check.weeks(x, "mood");
        CHECK.due("fault(0)", x.fault(0), 2);
        CHECK.due("fault(1)", x.fault(1), 4);
        x.mark();
        Check.court(x, "");
        x.back();
        CHECK.due("fault(0) is not taken back", x.fault(0), 0);
    }

    private static void courtIsTaken() {
        RainJury x = Check.with("juror a leans 1 price 9;juror b;proof p 3;weather v;weather w;follows v guilty w free w;"
                + "crop c on v 5;hunger 3;law all;", "mood;");
        x.show(0);
        x.talk(2);
        x.bribe(0, -1);
        x.endDay();
        x.bribe(1, 1);
        x.strike(0);
        x.talk(4);
        CHECK.good(x, "a new COURT", Check.court(x, "juror z leans 7;weather v;crop c;"), 1);
        CHECK.good(x, "many(10)", x.many(10), 1);
        CHECK.good(x, "many(11)", x.many(11), 0);
        CHECK.good(x, "many(6)", x.many(6), 0);
        CHECK.good(x, "many(7)", x.many(7), 0);
        CHECK.good(x, "many(8)", x.many(8), 0);
        CHECK.good(x, "many(9)", x.many(9), 0);
        CHECK.good(x, "many(5)", x.many(5), 0);
        CHECK.bad(x, "many(4)", x.many(4), 8);
        CHECK.good(x, "crop(0)", x.crop(0), 0);
        CHECK.good(x, "grows(0, 0)", x.grows(0, 0), 0);
        CHECK.good(x, "juror(0, 0)", x.juror(0, 0), 7);
        CHECK.good(x, "juror(0, 3)", x.juror(0, 3), 0);
        CHECK.bad(x, "no WEEKS", x.live(0), 8);
        Check.court(x, "juror y leans 9 stubborn 8 price 7;juror z;sways y z 5;");
        Check.court(x, "juror y;juror z;");
        for (int what = 0; what < 4; what++) {
            CHECK.good(x, "nothing of the one ahead", x.juror(0, what), 0);
        }
        CHECK.good(x, "nothing of the one ahead", x.sways(0, 1), 0);
        CHECK.good(x, "nothing of the one ahead", x.behind(1), 0);
    }

    private static void oldOnesStay() {
        RainJury x = Check.with("juror a leans 4;proof p 3;hunger 2;", "show p;");
        x.show(0);
        CHECK.bad(x, "a COURT with a FAULT", Check.court(x, "juror q leans 8;law all;juror q;"), 10);
        CHECK.good(x, "the old one", x.juror(0, 0), 7);
        CHECK.good(x, "the old one's told", x.juror(0, 1), 4);
        CHECK.good(x, "the old LAW", x.many(5), 0);
        CHECK.good(x, "the old HUNGER", x.many(4), 2);
        CHECK.bad(x, "WEEKS with a FAULT", Check.weeks(x, "mood;show q;"), 10);
        CHECK.good(x, "the old WEEKS", x.live(0), 1);
        CHECK.good(x, "it was SHOWN", x.lived(0), 1);
        CHECK.good(x, "WEEKS anew", Check.weeks(x, "verdict;show p;"), 2);
        CHECK.good(x, "live", x.live(0), 2);
    }

    private static void tellsMany() {
        RainJury x = Check.with("juror a;juror b;juror c;proof p 1;proof q 2;weather v;crop k;hunger 7;law two;");
        int[] want = {3, 2, 1, 1, 7, 2, 0, 0, 0, 0, 7, 0};
        for (int what = 0; what < 12; what++) {
            CHECK.good(x, "many(" + what + ")", x.many(what), want[what]);
        }
        CHECK.bad(x, "many(12)", x.many(12), 5);
        CHECK.bad(x, "many(-1)", x.many(-1), 5);
        CHECK.bad(x, "many(max)", x.many(Integer.MAX_VALUE), 5);
        x.strike(1);
        x.show(1);
        CHECK.good(x, "many(10)", x.many(10), 5);
        CHECK.good(x, "many(11)", x.many(11), 2);
        String[] laws = {"most", "all", "two"};
        for (int i = 0; i < 3; i++) {
            RainJury y = Check.with("law " + laws[i] + ";");
            CHECK.good(y, "law " + laws[i], y.many(5), i);
        }
    }

    private static void tellsJurors() {
        RainJury x = Check.with("juror a leans less 99 stubborn 20 price 99;juror b leans 5;juror c price 3;"
                + "sways a b 4;sways a b 9;sways c b 0;");
        int[][] want = {{-99, -99, 20, 99}, {5, 5, 0, 0}, {0, 0, 0, 3}};
        for (int i = 0; i < 3; i++) {
            for (int what = 0; what < 4; what++) {
                CHECK.good(x, "juror", x.juror(i, what), want[i][what]);
            }
        }
        x.lean(1, -1);
        CHECK.good(x, "juror(1, 0)", x.juror(1, 0), -1);
        CHECK.good(x, "juror(1, 1)", x.juror(1, 1), 5);
        CHECK.bad(x, "juror(3, 9)", x.juror(3, 9), 2);
        CHECK.bad(x, "juror(-1, 0)", x.juror(-1, 0), 2);
        CHECK.bad(x, "juror(0, 4)", x.juror(0, 4), 5);
        CHECK.bad(x, "juror(0, -1)", x.juror(0, -1), 5);
        CHECK.good(x, "the latest sway", x.sways(0, 1), 9);
        CHECK.good(x, "none", x.sways(1, 0), 0);
        CHECK.good(x, "told 0", x.sways(2, 1), 0);
        CHECK.bad(x, "sways(1, 1)", x.sways(1, 1), 5);
        CHECK.bad(x, "sways(3, 3)", x.sways(3, 3), 2);
        CHECK.bad(x, "sways(0, 3)", x.sways(0, 3), 2);
        CHECK.bad(x, "sways(-1, 0)", x.sways(-1, 0), 2);
    }

    private static void tellsThings() {
        RainJury x = Check.with("proof p less 99;proof q 7;weather u;weather v;weather w;follows u guilty v free w;"
                + "follows v guilty u free u;follows v guilty w free v;crop c on u 3 on v less 4 on u 9;crop d;");
        CHECK.good(x, "proof(0)", x.proof(0), -99);
        CHECK.good(x, "proof(1)", x.proof(1), 7);
        CHECK.bad(x, "proof(2)", x.proof(2), 2);
        CHECK.bad(x, "proof(-1)", x.proof(-1), 2);
        int[][] want = {{2, 0, 1}, {1, 1, 2}, {2, 2, 2}};
        for (int i = 0; i < 3; i++) {
            for (int v = -1; v <= 1; v++) {
                CHECK.good(x, "follows(" + i + ", " + v + ")", x.follows(i, v), want[i][v + 1]);
            }
        }
        CHECK.bad(x, "follows(3, 2)", x.follows(3, 2), 2);
        CHECK.bad(x, "follows(-1, 0)", x.follows(-1, 0), 2);
        CHECK.bad(x, "follows(0, 2)", x.follows(0, 2), 5);
        CHECK.bad(x, "follows(0, -2)", x.follows(0, -2), 5);
        CHECK.good(x, "grows(0, 0)", x.grows(0, 0), 9);
        CHECK.good(x, "grows(0, 1)", x.grows(0, 1), -4);
        CHECK.good(x, "grows(0, 2)", x.grows(0, 2), 0);
        CHECK.good(x, "grows(1, 0)", x.grows(1, 0), 0);
        CHECK.bad(x, "grows(2, 0)", x.grows(2, 0), 2);
        CHECK.bad(x, "grows(0, 3)", x.grows(0, 3), 2);
        CHECK.bad(x, "grows(-1, 0)", x.grows(-1, 0), 2);
        CHECK.bad(x, "grows(0, -1)", x.grows(0, -1), 2);
        CHECK.good(x, "crop(1)", x.crop(1), 0);
        CHECK.bad(x, "crop(2)", x.crop(2), 2);
        CHECK.bad(x, "crop(-1)", x.crop(-1), 2);
        x.endDay();
        CHECK.good(x, "crop(0)", x.crop(0), 9);
    }

    private static void copies() {
        RainJury x = Check.with("juror a leans 3;juror b leans less 99;juror c leans 99;");
        CHECK.bad(x, "copyLeanings(4)", x.copyLeanings(4), 1);
        CHECK.bad(x, "copyLeanings(-1)", x.copyLeanings(-1), 1);
        CHECK.bad(x, "copyLeanings(0)", x.copyLeanings(0), 3);
        x.tray(0, 0, 2);
        x.write(0, 0, 55);
        CHECK.bad(x, "too few", x.copyLeanings(0), 4);
        CHECK.good(x, "nothing came", x.read(0, 0), 55);
        for (int sort = 0; sort < 4; sort++) {
            x.tray(1, sort, 4);
            x.write(1, 3, 77);
            x.strike(1);
            CHECK.good(x, "copyLeanings", x.copyLeanings(1), 3);
            CHECK.good(x, "read", x.read(1, 0), 3);
            CHECK.good(x, "one struck, too", x.read(1, 1), -99);
            CHECK.good(x, "read", x.read(1, 2), 99);
            CHECK.good(x, "what is behind stays", x.read(1, 3), 77);
        }
        RainJury y = new RainJury();
        y.tray(0, 0, 0);
        CHECK.good(y, "of nobody", y.copyLeanings(0), 0);
    }
}

/** The WEEKS' text (part 4, promise 11), a sentence at a time: just within each bound and just beyond it. */
public final class StepEdgeTest {
    private static final Check CHECK = new Check("StepEdgeTest");
    private static final String COURT = "juror ann;juror bob;proof gun 5;weather sun;weather fog;crop rye;crop oat;";

    public static void main(String[] args) {
        textOf300();
        tokens();
        anyNumberOfSteps();
        shows();
        talks();
        bareSteps();
        strikesAndSeats();
        bribes();
        whens();
        votesTests();
        weatherTests();
        cropTests();
        compares();
        loops();
        ends();
        textEndsAheadOfEnd();
        names();
        faultAtTheEnd();
        thirtySteps();
        threeDeep();
        firstFault();
        leastKind();
        oldOnesStay();
        noWeeks();
        CHECK.end();
    }

    private static void fault(String text, int kind, int place) {
        RainJury x = Check.with(COURT);
        CHECK.bad(x, "weeks '" + text + "'", Check.weeks(x, text), 10);
        CHECK.due("fault(0) of '" + text + "'", x.fault(0), kind);
        CHECK.due("fault(1) of '" + text + "'", x.fault(1), place);
        CHECK.bad(x, "no WEEKS", x.live(0), 8);
    }

    private static void faultBehind(String fine, String rest, int kind) {
        fault(fine + rest, kind, fine.length());
    }

    private static void fine(String text, int steps) {
        RainJury x = Check.with(COURT);
        CHECK.good(x, "weeks '" + text + "'", Check.weeks(x, text), steps);
        CHECK.due("fault(0) of '" + text + "'", x.fault(0), 0);
        CHECK.due("fault(1) of '" + text + "'", x.fault(1), -1);
    }

    private static void textOf300() {
        CHECK.says("WEEKS are a TEXT of at most 300 bytes");
        fine("mood;" + " ".repeat(290) + "mood;", 2);
        fine("mood;" + " ".repeat(289) + "mood;", 2);
        fault(" ".repeat(299) + "@", 1, 299);
        fault(" ".repeat(296) + "mood", 2, 300);
        RainJury x = Check.with(COURT);
        CHECK.bad(x, "301", Check.weeks(x, "mood;" + " ".repeat(291) + "mood;"), 5);
        CHECK.bad(x, "no WEEKS", x.live(0), 8);
    }

    private static void tokens() {
        CHECK.says("WEEKS are a TEXT of such TOKENS; FAULTS: 1, 2 as above");
        fine("when\nvotes\n=\n1\n;\nend\n;", 1);
        fine("when votes=1;loop 0001;talk 09;end;end;", 3);
        fault("moods;", 2, 0);
        fault("mood\t;", 1, 4);
        fault("Mood;", 1, 0);
        fault("mood,", 1, 4);
        fault("talk 00001;", 1, 5);
        fault("talk 12345", 1, 5);
        fault("when votes=00001;end;", 1, 11);
        fault("when votes!1;end;", 1, 10);
        fault("when crop rye>-1;end;", 1, 14);
        fault("show abcdefghi;", 2, 5);
        fault("show \u00e9;", 1, 5);
    }

    private static void anyNumberOfSteps() {
        CHECK.says("WEEKS: {STEP}: any number of times, none at all too");
        fine("", 0);
        fine(" \n ", 0);
        fine("mood;", 1);
        fine("mood;mood;", 2);
        fault(";", 2, 0);
        fault("mood;;", 2, 5);
    }

    private static void shows() {
        CHECK.says("show NAME: a PROOF; 3: a NAME that is no such one");
        fine("show gun;", 1);
        for (String other : new String[] {"ann", "sun", "rye", "gum", "gu", "gunn"}) {
            fault("show " + other + ";", 3, 5);
        }
        fault("show;", 2, 4);
        fault("show 1;", 2, 5);
        fault("show mood;", 2, 5);
        fault("show gun gun;", 2, 9);
    }

    private static void talks() {
        CHECK.says("talk: so many ROUNDS (1 to 99); 4: a NUMBER that can't be");
        fine("talk 1;", 1);
        fine("talk 99;", 1);
        fault("talk 0;", 4, 5);
        fault("talk 100;", 4, 5);
        fault("talk 9999;", 4, 5);
        fault("talk 10000;", 1, 5);
        fault("talk less 1;", 2, 5);
        fault("talk;", 2, 4);
        fault("talk ann;", 2, 5);
        fault("talk 1 1;", 2, 7);
    }

    private static void bareSteps() {
        CHECK.says("verdict; mood; stop");
        for (String step : new String[] {"verdict", "mood", "stop"}) {
            fine(step + ";", 1);
            fault(step + " ann;", 2, step.length() + 1);
            fault(step + " 1;", 2, step.length() + 1);
            fault(step + "<;", 2, step.length());
        }
    }

    private static void strikesAndSeats() {
        CHECK.says("strike NAME, seat NAME: a JUROR; 3: a NAME that is no such one");
        for (String step : new String[] {"strike ", "seat "}) {
            fine(step + "ann;", 1);
            fine(step + "bob;", 1);
            for (String other : new String[] {"gun", "sun", "rye", "anna"}) {
                fault(step + other + ";", 3, step.length());
            }
            fault(step + ";", 2, step.length());
            fault(step + "ann less;", 2, step.length() + 4);
        }
    }

    private static void bribes() {
        CHECK.says("bribe NAME [less]: a JUROR (less: to -99)");
        fine("bribe ann;", 1);
        fine("bribe ann less;", 1);
        fault("bribe ann less 1;", 2, 15);
        fault("bribe ann less less;", 2, 15);
        fault("bribe less ann;", 2, 6);
        fault("bribe gun;", 3, 6);
        fault("bribe gun less;", 3, 6);
        fault("bribe;", 2, 5);
    }

    private static void whens() {
        CHECK.says("when TEST ; {STEP} end: TEST: votes .., or weather .., or crop ..");
        fine("when votes=1;end;", 1);
        fine("when votes=1;mood;end;", 2);
        fine("when votes=1;mood;mood;end;mood;", 4);
        for (String word : new String[] {"juror", "proof", "verdict", "less", "end", "show", "ann", "sun", "rye", "x"}) {
            fault("when " + word + " ann;end;", 2, 5);
        }
        fault("when;end;", 2, 4);
        fault("when votes=1 end;", 2, 13);
        fault("when votes=1 weather sun;end;", 2, 13);
    }

    private static void votesTests() {
        CHECK.says("when votes: how many SEATED ones vote GUILTY (0 to 10)");
        for (char sign : new char[] {'<', '>', '='}) {
            fine("when votes" + sign + "0;end;", 1);
            fine("when votes" + sign + "10;end;", 1);
            fault("when votes" + sign + "11;end;", 4, 11);
            fault("when votes" + sign + "9999;end;", 4, 11);
            fault("when votes" + sign + "less 1;end;", 2, 11);
            fault("when votes" + sign + ";end;", 2, 11);
        }
    }

    private static void weatherTests() {
        CHECK.says("when weather NAME");
        fine("when weather sun;end;", 1);
        fine("when weather fog;end;", 1);
        for (String other : new String[] {"ann", "gun", "rye", "sunn"}) {
            fault("when weather " + other + ";end;", 3, 13);
        }
        fault("when weather;end;", 2, 12);
        fault("when weather=sun;end;", 2, 12);
        fault("when weather sun=1;end;", 2, 16);
    }

    private static void cropTests() {
        CHECK.says("when crop NAME COMPARES [less] NUMBER: how much it has GROWN (0 to 9,999)");
        for (char sign : new char[] {'<', '>', '='}) {
            for (String number : new String[] {"0", "1", "9999", "less 0", "less 1", "less 9999", "less9999"}) {
                fine("when crop rye" + sign + number + ";end;", 1);
                fine("when crop oat " + sign + " " + number + ";end;", 1);
            }
            fault("when crop rye" + sign + "10000;end;", 1, 14);
            fault("when crop rye" + sign + "less 10000;end;", 1, 19);
            fault("when crop rye" + sign + "less less 1;end;", 2, 19);
            fault("when crop rye" + sign + "less;end;", 2, 18);
            fault("when crop rye" + sign + ";end;", 2, 14);
        }
        for (String other : new String[] {"ann", "gun", "sun", "ryes"}) {
            fault("when crop " + other + ">1;end;", 3, 10);
        }
        fault("when crop>1;end;", 2, 9);
    }

    private static void compares() {
        CHECK.says("COMPARES: < or > or =");
        fault("when votes 1;end;", 2, 11);
        fault("when votes;end;", 2, 10);
        fault("when votes less 1;end;", 2, 11);
        fault("when votes<=1;end;", 2, 11);
        fault("when votes==1;end;", 2, 11);
        fault("when crop rye 1;end;", 2, 14);
        fault("when crop rye;end;", 2, 13);
        fault("when crop rye<>1;end;", 2, 14);
    }

    private static void loops() {
        CHECK.says("loop n (1 to 99)");
        fine("loop 1;end;", 1);
        fine("loop 99;end;", 1);
        fine("loop 99;mood;end;", 2);
        fault("loop 0;end;", 4, 5);
        fault("loop 100;end;", 4, 5);
        fault("loop 9999;end;", 4, 5);
        fault("loop less 1;end;", 2, 5);
        fault("loop;end;", 2, 4);
        fault("loop 1 end;", 2, 7);
    }

    private static void ends() {
        CHECK.says("2: an end without a beginning");
        fault("end;", 2, 0);
        fault("end", 2, 0);
        fault("mood;end;", 2, 5);
        fault("loop 1;end;end;", 2, 11);
        fault("when votes=1;end;end;", 2, 17);
        fault("loop 1;loop 2;end;end;end;", 2, 22);
        fine("loop 1;loop 2;end;end;", 2);
        fault("loop 1;end 1;", 2, 11);
        fault("loop 1;end end;", 2, 11);
    }

    private static void textEndsAheadOfEnd() {
        CHECK.says("2: the text's end ahead of an end");
        fault("loop 1;", 2, 7);
        fault("loop 1; ", 2, 8);
        fault("loop 1;mood;", 2, 12);
        fault("when votes=1;", 2, 13);
        fault("loop 1;when votes=1;end;", 2, 24);
        fault("loop 1;end", 2, 10);
        fault("loop 1;loop 1;loop 1;end;end;", 2, 29);
        RainJury x = Check.with(COURT);
        CHECK.bad(x, "three that are open", Check.weeks(x, "loop 1;loop 1;loop 1;"), 10);
        CHECK.bad(x, "none of them is open in the next", Check.weeks(x, "end;"), 10);
        CHECK.due("its place", x.fault(1), 0);
        CHECK.bad(x, "three that are open", Check.weeks(x, "loop 1;loop 1;loop 1;"), 10);
        CHECK.good(x, "there is room for three in the next", Check.weeks(x, "loop 1;loop 1;loop 1;end;end;end;"), 3);
    }

    private static void names() {
        CHECK.says("3: a NAME that is no such one");
        RainJury x = new RainJury();
        String[] texts = {"show gun;", "strike ann;", "seat ann;", "bribe ann;", "when weather sun;end;", "when crop rye>1;end;"};
        for (String text : texts) {
            CHECK.bad(x, "of nobody's COURT: " + text, Check.weeks(x, text), 10);
            CHECK.due("fault(0) of " + text, x.fault(0), 3);
        }
        CHECK.good(x, "without NAMES", Check.weeks(x, "mood;talk 1;verdict;when votes=0;stop;end;"), 5);
        Check.court(x, COURT);
        for (String text : texts) {
            CHECK.good(x, text, Check.weeks(x, text), 1);
        }
        Check.court(x, "juror gun;proof ann 1;weather rye;crop sun;");
        for (String text : texts) {
            CHECK.bad(x, "those of another COURT: " + text, Check.weeks(x, text), 10);
            CHECK.due("fault(0) of " + text, x.fault(0), 3);
        }
    }

    private static void faultAtTheEnd() {
        CHECK.says("2: it can't stand there (the end: the text's length)");
        String[] texts = {"show", "show gun", "talk", "talk 1", "verdict", "strike", "strike ann", "seat", "seat ann", "bribe",
            "bribe ann", "bribe ann less", "mood", "when", "when votes", "when votes<", "when votes<1", "when weather",
            "when weather sun", "when crop", "when crop rye", "when crop rye=", "when crop rye=less", "when crop rye=1",
            "loop", "loop 1", "stop", "loop 1;end"};
        for (String text : texts) {
            fault(text, 2, text.length());
            fault(text + " \n", 2, text.length() + 2);
        }
    }

    private static void thirtySteps() {
        CHECK.says("6: a 31st STEP (at its WORD; end is none)");
        for (String step : new String[] {"mood;", "stop;", "verdict;", "talk 1;"}) {
            fine(step.repeat(29), 29);
            fine(step.repeat(30), 30);
            faultBehind(step.repeat(30), "mood;", 6);
        }
        String full = "mood;".repeat(30);
        for (String word : new String[] {"show", "talk", "verdict", "strike", "seat", "bribe", "mood", "when", "loop", "stop"}) {
            faultBehind(full, word, 6);
            faultBehind(full, word + " @", 6);
        }
        faultBehind(full, "end;", 2);
        faultBehind(full, "go;", 2);
        faultBehind(full, ";", 2);
        faultBehind(full, "@", 1);
        fine("loop1;end;".repeat(30), 30);
        RainJury most = Check.with(COURT, "loop1;end;".repeat(30));
        CHECK.good(most, "thirty with thirty ends in 300 bytes", most.live(0), 30);
        String ends = "loop 1;" + "mood;".repeat(29) + "end;";
        fine(ends, 30);
        faultBehind(ends, "mood;", 6);
        fine("loop 1;mood;end;".repeat(15), 30);
        faultBehind("loop 1;mood;end;".repeat(15), "loop", 6);
        String open = "mood;".repeat(27) + "loop 1;loop 1;loop 1;";
        fine(open + "end;end;end;", 30);
        faultBehind(open, "mood;end;end;end;", 6);
        faultBehind(open + "end;end;end;", "mood;", 6);
    }

    private static void threeDeep() {
        CHECK.says("7: a when, loop within three others (at its WORD)");
        String[] openers = {"loop 1;", "when votes=1;"};
        for (int set = 0; set < 8; set++) {
            String open = openers[set & 1] + openers[set >> 1 & 1] + openers[set >> 2];
            fine(open + "end;end;end;", 3);
            fine(open + "mood;end;mood;end;mood;end;", 6);
            for (String inner : openers) {
                faultBehind(open, inner + "end;end;end;end;", 7);
                fine(open + "end;" + inner + "end;end;end;", 4);
                faultBehind(open + "end;" + inner, inner, 7);
            }
            faultBehind(open, "when", 7);
            faultBehind(open, "loop @", 7);
            faultBehind(open, "go", 2);
            faultBehind(open + "mood;", "loop", 7);
        }
    }

    private static void firstFault() {
        CHECK.says("FAULTS, the first along the text");
        fault("talk 0;show x;", 4, 5);
        fault("show x;talk 0;", 3, 5);
        fault("end;@", 2, 0);
        fault("mood;@end;", 1, 5);
        fault("loop 1;talk 100;", 4, 12);
        fault("show x;" + "mood;".repeat(31), 3, 5);
        fault("mood;".repeat(31) + "show x;", 6, 150);
        fault("loop 1;loop 1;loop 1;loop 0;", 7, 21);
    }

    private static void leastKind() {
        CHECK.says("FAULTS: of one TOKEN the least kind");
        fault("talk 12345;", 1, 5);
        fault("when votes>99999;", 1, 11);
        String both = "mood;".repeat(27) + "loop 1;loop 1;loop 1;";
        faultBehind(both, "loop 1;", 6);
        faultBehind(both, "when votes=1;", 6);
        fault("show stubbornx;", 2, 5);
        fault("strike bribe;", 2, 7);
    }

    private static void oldOnesStay() {
        CHECK.says("11: likewise (10: the old ones stay)");
        RainJury x = Check.with(COURT, "verdict;strike ann;");
        CHECK.bad(x, "at fault", Check.weeks(x, "mood;mood;mood;end;"), 10);
        CHECK.good(x, "live(0)", x.live(0), 2);
        CHECK.good(x, "a day ended", x.many(6), 1);
        CHECK.good(x, "ann is struck", x.many(10), 2);
        CHECK.bad(x, "5", x.weeks(1), 5);
        CHECK.good(x, "live(0)", x.live(0), 2);
        CHECK.good(x, "others", Check.weeks(x, "strike bob;"), 1);
        CHECK.good(x, "live(0)", x.live(0), 1);
        CHECK.good(x, "bob is struck", x.many(10), 0);
    }

    private static void noWeeks() {
        CHECK.says("WEEKS: none at first; a COURT that is taken: there are no WEEKS");
        RainJury x = new RainJury();
        CHECK.bad(x, "none at first", x.live(0), 8);
        x.weeks(1);
        CHECK.bad(x, "none behind 5", x.live(0), 8);
        Check.weeks(x, "mood");
        CHECK.bad(x, "none behind 10", x.live(0), 8);
        Check.weeks(x, "mood;");
        CHECK.good(x, "one", x.live(0), 1);
        CHECK.bad(x, "a COURT at fault", Check.court(x, "@"), 10);
        CHECK.good(x, "they stay", x.live(0), 1);
        CHECK.good(x, "a COURT that is taken", Check.court(x, ""), 0);
        CHECK.bad(x, "none", x.live(0), 8);
    }
}

/** The COURT's text and promises 9 to 12, a sentence at a time: just within each bound and just beyond it. */
public final class CourtEdgeTest {
    private static final Check CHECK = new Check("CourtEdgeTest");
    private static final int BLANKS = 0x20202020;
    private static final String[] RESERVED = {"juror", "leans", "less", "stubborn", "price", "sways", "proof", "weather",
        "follows", "guilty", "free", "crop", "on", "hunger", "law", "most", "all", "two", "show", "talk", "verdict", "strike",
        "seat", "bribe", "mood", "when", "votes", "loop", "end", "stop"};

    public static void main(String[] args) {
        tapeOf900();
        tapeInOrder();
        courtOfFirstBytes();
        cutByItsEnd();
        tapeBehindCourt();
        weeksOfFirstBytes();
        faultOfLatest();
        textOf900();
        tokensAsLongAsTheyGo();
        blanks();
        words();
        numbers();
        signs();
        anyNumberOfParts();
        perhapsParts();
        onesOfACrop();
        laws();
        namesOfLetters();
        namesThatAreNone();
        nameOfOneThing();
        toldAhead();
        jurors();
        leanings();
        stubborn();
        prices();
        sways();
        swaysItself();
        proofs();
        weathers();
        follows();
        crops();
        growths();
        hungers();
        lawTold();
        faultAtTheEnd();
        firstFault();
        leastKind();
        fullCourt();
        courtTaken();
        nothingOfTheOldOne();
        CHECK.end();
    }

    private static void fault(String text, int kind, int place) {
        RainJury x = new RainJury();
        CHECK.bad(x, "court '" + text + "'", Check.court(x, text), 10);
        CHECK.due("fault(0) of '" + text + "'", x.fault(0), kind);
        CHECK.due("fault(1) of '" + text + "'", x.fault(1), place);
        CHECK.good(x, "many(0), as of old", x.many(0), 0);
    }

    private static RainJury fine(String text) {
        RainJury x = new RainJury();
        Check.court(x, text);
        CHECK.due("status() of '" + text + "'", x.status(), 0);
        CHECK.due("fault(0) of '" + text + "'", x.fault(0), 0);
        CHECK.due("fault(1) of '" + text + "'", x.fault(1), -1);
        return x;
    }

    /** What is behind this text must be at fault; without its end it is fine. */
    private static void faultBehind(String fine, String rest, int kind) {
        fault(fine + rest, kind, fine.length());
    }

    // ---- the tape

    private static void tapeOf900() {
        CHECK.says("9: how many it has; NONE if there would be more than 900");
        RainJury x = new RainJury();
        for (int i = 1; i < 45; i++) {
            CHECK.due("feed", x.feed(BLANKS, BLANKS, BLANKS, BLANKS, BLANKS), 20 * i);
        }
        CHECK.due("900", x.feed(BLANKS, BLANKS, 0x6a75726f, 0x72206120, 0x2020203b), 900);
        for (int i = 0; i < 3; i++) {
            CHECK.due("920", x.feed(0, 0, 0, 0, 0), -1);
            CHECK.due("it has no STATUS", x.status(), 0);
        }
        CHECK.good(x, "the tape stays", x.court(900), 1);
        CHECK.due("an empty tape", x.feed(0, 0, 0, 0, 0), 20);
    }

    private static void tapeInOrder() {
        CHECK.says("9: twenty bytes come behind those on the tape, the highest of each int first");
        RainJury x = new RainJury();
        x.feed('j' << 24 | 'u' << 16 | 'r' << 8 | 'o', 'r' << 24 | ' ' << 16 | 'a' << 8 | 'b', 'c' << 24 | 'd' << 16 | 'e' << 8 | 'f',
                ' ' << 24 | 'l' << 16 | 'e' << 8 | 'a', 'n' << 24 | 's' << 16 | ' ' << 8 | '1');
        CHECK.due("forty", x.feed('2' << 24 | ';' << 16 | 'p' << 8 | 'r', 'o' << 24 | 'o' << 16 | 'f' << 8 | ' ',
                'a' << 24 | 'b' << 16 | 'c' << 8 | 'd', 'f' << 24 | 'e' << 16 | ' ' << 8 | '3', '4' << 24 | ';' << 16 | 255 << 8 | 254), 40);
        CHECK.good(x, "court(38)", x.court(38), 1);
        CHECK.good(x, "juror(0, 0)", x.juror(0, 0), 12);
        CHECK.good(x, "proof(0)", x.proof(0), 34);
        for (int shift = 0; shift < 32; shift += 8) {
            int four = BLANKS & ~(255 << shift) | 200 << shift;
            for (int at = 0; at < 5; at++) {
                x.feed(at == 0 ? four : BLANKS, at == 1 ? four : BLANKS, at == 2 ? four : BLANKS, at == 3 ? four : BLANKS,
                        at == 4 ? four : BLANKS);
                CHECK.bad(x, "a byte of 200", x.court(20), 10);
                CHECK.due("its place", x.fault(1), 4 * at + 3 - shift / 8);
            }
        }
    }

    private static void courtOfFirstBytes() {
        CHECK.says("10: the first n bytes of the tape are the COURT (5; 10)");
        for (int n : new int[] {-1, Integer.MIN_VALUE, 41, 901, Integer.MAX_VALUE}) {
            RainJury x = new RainJury();
            Check.feed(x, "juror a;juror b;juror cd;juror ef;       ");
            x.court(0);
            Check.feed(x, "juror a;juror b;juror cd;juror ef;      ");
            CHECK.bad(x, "court(" + n + ")", x.court(n), 5);
            CHECK.good(x, "all forty", x.court(40), 4);
        }
        int[] jurors = {0, -1, -1, -1, -1, -1, -1, -1, 1, -1, -1, -1, -1, -1, -1, -1, 2, -1, -1, -1, -1, -1, -1, -1, -1, 3};
        for (int n = 0; n < jurors.length; n++) {
            RainJury x = new RainJury();
            Check.feed(x, "juror a;juror b;juror cd;juror ef;      ");
            CHECK.due(x, "court(" + n + ")", x.court(n), jurors[n], jurors[n] < 0 ? 10 : 0);
            CHECK.due("its end", x.fault(0), jurors[n] < 0 ? 2 : 0);
        }
    }

    private static void tapeBehindCourt() {
        CHECK.says("10: the tape is empty then, but for 5; 11: likewise the WEEKS");
        for (int way = 0; way < 2; way++) {
            RainJury x = new RainJury();
            String blank = " ".repeat(20);
            Check.feed(x, blank);
            CHECK.bad(x, "5", way == 0 ? x.court(21) : x.weeks(21), 5);
            Check.feed(x, blank);
            CHECK.bad(x, "5", way == 0 ? x.court(-1) : x.weeks(-1), 5);
            CHECK.due("the tape stays", x.feed(0, 0, 0, 0, 0), 60);
            CHECK.bad(x, "10", way == 0 ? x.court(41) : x.weeks(41), 10);
            CHECK.due("empty behind 10", x.feed(BLANKS, 0, 0, 0, 0), 20);
            CHECK.good(x, "0", way == 0 ? x.court(4) : x.weeks(4), 0);
            CHECK.due("empty behind 0, with the bytes that were not read", x.feed(0, 0, 0, 0, 0), 20);
            CHECK.good(x, "nothing", way == 0 ? x.court(0) : x.weeks(0), 0);
            CHECK.due("empty behind nothing", x.feed(0, 0, 0, 0, 0), 20);
        }
    }

    private static void weeksOfFirstBytes() {
        CHECK.says("11: likewise the WEEKS: how many STEPS (5: above 300, too; 10); WEEKS are a TEXT of at most 300 bytes");
        RainJury x = new RainJury();
        String steps = "mood;" + " ".repeat(290) + "stop;";
        Check.feed(x, steps + "@".repeat(20));
        CHECK.bad(x, "weeks(301)", x.weeks(301), 5);
        CHECK.bad(x, "weeks(320)", x.weeks(320), 5);
        CHECK.bad(x, "weeks(321)", x.weeks(321), 5);
        for (int n : new int[] {-1, 900, 901, Integer.MIN_VALUE, Integer.MAX_VALUE}) {
            CHECK.bad(x, "weeks(" + n + ")", x.weeks(n), 5);
        }
        CHECK.bad(x, "no WEEKS yet", x.live(0), 8);
        CHECK.good(x, "weeks(300)", x.weeks(300), 2);
        CHECK.good(x, "live(0)", x.live(0), 2);
        Check.feed(x, steps);
        CHECK.bad(x, "299", x.weeks(299), 10);
        CHECK.due("its end", x.fault(1), 299);
        CHECK.bad(x, "an empty tape", x.weeks(1), 5);
    }

    private static void faultOfLatest() {
        CHECK.says("12: of the latest of these with STATUS 0 or 10; NONE for others, and ahead of any");
        RainJury x = new RainJury();
        for (int what : new int[] {-1, 0, 1, 2, Integer.MIN_VALUE, Integer.MAX_VALUE}) {
            CHECK.due("ahead of any: fault(" + what + ")", x.fault(what), -1);
        }
        x.court(1);
        x.weeks(-1);
        CHECK.due("behind 5 alone", x.fault(0), -1);
        CHECK.due("behind 5 alone", x.fault(1), -1);
        x.court(0);
        CHECK.due("without one", x.fault(0), 0);
        CHECK.due("without one: its place", x.fault(1), -1);
        Check.weeks(x, " go;");
        CHECK.due("of weeks()", x.fault(0), 2);
        CHECK.due("of weeks(): its place", x.fault(1), 1);
        x.court(7);
        CHECK.due("5 tells none", x.fault(0), 2);
        CHECK.due("5 tells none", x.fault(1), 1);
        for (int what : new int[] {-1, 2, 3, Integer.MIN_VALUE, Integer.MAX_VALUE}) {
            CHECK.due("others: fault(" + what + ")", x.fault(what), -1);
        }
        Check.court(x, "@");
        CHECK.due("of court()", x.fault(0), 1);
        CHECK.due("of court(): place 0", x.fault(1), 0);
        Check.weeks(x, "");
        CHECK.due("none again", x.fault(0), 0);
        CHECK.due("none again", x.fault(1), -1);
    }

    // ---- TOKENS

    private static void textOf900() {
        CHECK.says("a COURT is a TEXT of at most 900 bytes");
        RainJury x = new RainJury();
        CHECK.good(x, "900", Check.court(x, " ".repeat(892) + "juror a;"), 1);
        Check.feed(x, " ".repeat(900));
        for (int n : new int[] {901, 1000, Integer.MAX_VALUE}) {
            CHECK.bad(x, "court(" + n + ")", x.court(n), 5);
            CHECK.bad(x, "weeks(" + n + ")", x.weeks(n), 5);
        }
        CHECK.good(x, "899", x.court(899), 0);
        CHECK.bad(x, "its last byte", Check.court(x, " ".repeat(899) + "@"), 10);
        CHECK.due("its place", x.fault(1), 899);
        CHECK.bad(x, "its end", Check.court(x, " ".repeat(895) + "juror"), 10);
        CHECK.due("its place", x.fault(1), 900);
    }

    private static void tokensAsLongAsTheyGo() {
        CHECK.says("TOKENS, as long as they go");
        RainJury three = fine("juror a;juror ab;juror abc;");
        CHECK.good(three, "three NAMES", three.many(0), 3);
        fault("jurora;", 2, 0);
        fault("jurors a;", 2, 0);
        fault("juror a leanss 1;", 2, 8);
        RainJury x = fine("juror a leans less12stubborn7price9;");
        CHECK.good(x, "leans", x.juror(0, 0), -12);
        CHECK.good(x, "stubborn", x.juror(0, 2), 7);
        CHECK.good(x, "price", x.juror(0, 3), 9);
        fault("juror a leans 1 2;", 2, 16);
        fault("juror a leans 100;", 4, 14);
        fault("juror a leans 12stubborn1 1;", 2, 26);
    }

    private static void blanks() {
        CHECK.says("between them blanks (10, 32)");
        for (char one = 0; one < 256; one++) {
            if (one == 10 || one == 32) {
                fine("juror" + one + "a" + one + ";" + one);
                fine(one + "juror" + one + one + "a;");
                fault("juror a leans 1" + one + "2;", 2, 16);
            } else if (!isToken(one)) {
                fault("juror a" + one + ";", 1, 7);
                fault("" + one, 1, 0);
            }
        }
    }

    private static boolean isToken(char one) {
        return one >= 'a' && one <= 'z' || one >= '0' && one <= '9' || one == ';' || one == '<' || one == '>' || one == '=';
    }

    private static void words() {
        CHECK.says("WORDS (small letters)");
        fine("juror a;juror z;juror az;");
        fault("juror A;", 1, 6);
        fault("juror aB;", 1, 7);
        fault("Juror a;", 1, 0);
        fault("juror `;", 1, 6);
        fault("juror {;", 1, 6);
        fault("juror " + (char) ('a' + 128) + ";", 1, 6);
    }

    private static void numbers() {
        CHECK.says("NUMBERS (1 to 4 digits); 1: no TOKEN begins so (a NUMBER of 5 digits and more: at its first)");
        for (String number : new String[] {"0", "9", "00", "09", "009", "0009", "0000"}) {
            fine("juror a leans " + number + ";");
        }
        fault("juror a leans 9999;", 4, 14);
        fault("juror a leans 00000;", 1, 14);
        fault("juror a leans 00009;", 1, 14);
        fault("juror a leans 000000009;", 1, 14);
        fault("juror a leans " + "1".repeat(60) + ";", 1, 14);
        fault("juror a leans 1111", 4, 14);
        fault("juror a leans 11111", 1, 14);
        fault("juror a leans /;", 1, 14);
        fault("juror a leans :;", 1, 14);
        fault("juror a leans -1;", 1, 14);
        fault("juror a leans +1;", 1, 14);
        fault("1234", 2, 0);
        fault("12345", 1, 0);
    }

    private static void signs() {
        CHECK.says("SIGNS ; < > =");
        for (char sign : new char[] {'<', '>', '='}) {
            fault("juror a " + sign + ";", 2, 8);
            fault("" + sign, 2, 0);
        }
        fault(";", 2, 0);
        fault("juror a;;", 2, 8);
        fault("juror a:", 1, 7);
        fault("juror a?", 1, 7);
    }

    // ---- PARTS

    private static void anyNumberOfParts() {
        CHECK.says("COURT: {PART}: any number of times, none at all too");
        RainJury x = fine("");
        CHECK.good(x, "nobody", x.many(0), 0);
        fine(" ");
        fine("\n \n");
        fine("hunger 1;");
        fine("juror a;juror b;");
        StringBuilder many = new StringBuilder("juror a;juror b;");
        while (many.length() + 12 <= 900) {
            many.append("sways a b 1;");
        }
        CHECK.due("73 told again", many.length(), 16 + 12 * 73);
        fine(many.toString());
        fault("juror a; b;", 2, 9);
    }

    private static void perhapsParts() {
        CHECK.says("juror NAME [leans [less] NUMBER] [stubborn NUMBER] [price NUMBER]");
        String[] parts = {" leans less 3", " stubborn 4", " price 5"};
        int[] told = {-3, 4, 5};
        for (int set = 0; set < 8; set++) {
            StringBuilder text = new StringBuilder("juror a");
            for (int i = 0; i < 3; i++) {
                text.append((set >> i & 1) != 0 ? parts[i] : "");
            }
            RainJury x = fine(text.append(';').toString());
            for (int i = 0; i < 3; i++) {
                CHECK.good(x, "of '" + text + "'", x.juror(0, i + 1), (set >> i & 1) != 0 ? told[i] : 0);
            }
        }
        for (int i = 0; i < 3; i++) {
            for (int k = 0; k <= i; k++) {
                fault("juror a" + parts[i] + parts[k] + ";", 2, 8 + parts[i].length());
            }
        }
        fault("juror a leans;", 2, 13);
        fault("juror a leans less;", 2, 18);
        fault("juror a less 1;", 2, 8);
        fault("juror a 1;", 2, 8);
        fault("juror a stubborn less 1;", 2, 17);
        fault("juror a price less 1;", 2, 14);
        fault("juror;", 2, 5);
    }

    private static void onesOfACrop() {
        CHECK.says("crop NAME {on NAME [less] NUMBER}");
        RainJury x = fine("weather u;weather v;crop k;crop l on u 1;crop m on v less 2 on u 3;");
        int[][] want = {{0, 0}, {1, 0}, {3, -2}};
        for (int i = 0; i < 3; i++) {
            for (int k = 0; k < 2; k++) {
                CHECK.good(x, "grows(" + i + ", " + k + ")", x.grows(i, k), want[i][k]);
            }
        }
        StringBuilder many = new StringBuilder("weather u;crop k");
        for (int i = 0; i < 60; i++) {
            many.append(" on u ").append(i);
        }
        x = fine(many.append(';').toString());
        CHECK.good(x, "the latest of sixty", x.grows(0, 0), 59);
        fault("weather u;crop k u 1;", 2, 17);
        fault("weather u;crop k on 1;", 2, 20);
        fault("weather u;crop k on u;", 2, 21);
        fault("weather u;crop k on u less;", 2, 26);
        fault("weather u;crop k on u 1 2;", 2, 24);
        fault("weather u;crop k on u 1 less 2;", 2, 24);
    }

    private static void laws() {
        CHECK.says("LAW: most, or all, or two; most without");
        String[] laws = {"most", "all", "two"};
        for (int i = 0; i < 3; i++) {
            RainJury x = fine("law " + laws[i] + ";");
            CHECK.good(x, laws[i], x.many(5), i);
        }
        RainJury x = fine("juror a;");
        CHECK.good(x, "without", x.many(5), 0);
        for (String word : RESERVED) {
            if (!word.equals("most") && !word.equals("all") && !word.equals("two")) {
                fault("law " + word + ";", 2, 4);
            }
        }
        fault("law one;", 2, 4);
        fault("law 2;", 2, 4);
        fault("law;", 2, 3);
        fault("law all two;", 2, 8);
    }

    // ---- NAMES

    private static void namesOfLetters() {
        CHECK.says("NAME: a WORD of 1 to 8 letters; 2: a WORD of 9 letters and more where a NAME must stand");
        for (String part : new String[] {"juror ", "weather ", "crop "}) {
            fine(part + "a;");
            fine(part + "abcdefgh;");
            fault(part + "abcdefghi;", 2, part.length());
            fault(part + "abcdefghabcdefghabcdefgh;", 2, part.length());
        }
        fine("proof abcdefgh 1;");
        fault("proof abcdefghi 1;", 2, 6);
        String eight = "juror abcdefgh;juror bcdefghi;";
        fine(eight + "sways abcdefgh bcdefghi 1;");
        faultBehind(eight + "sways ", "abcdefghi bcdefghi 1;", 2);
        faultBehind(eight + "sways abcdefgh ", "bcdefghij 1;", 2);
        faultBehind(eight + "juror abcdefgg;juror ", "bcdefghi;", 3);
        String weather = "weather u;";
        faultBehind(weather + "follows ", "abcdefghi guilty u free u;", 2);
        faultBehind(weather + "follows u guilty ", "abcdefghi free u;", 2);
        faultBehind(weather + "follows u guilty u free ", "abcdefghi;", 2);
        faultBehind(weather + "crop k on ", "abcdefghi 1;", 2);
        fault("juror 1;", 2, 6);
        fault("juror ;", 2, 6);
    }

    private static void namesThatAreNone() {
        CHECK.says("NAME: a WORD that is none of juror, leans, less .. stop");
        for (String word : RESERVED) {
            fault("juror " + word + ";", 2, 6);
            fault("proof " + word + " 1;", 2, 6);
            fault("weather " + word + ";", 2, 8);
            fault("crop " + word + ";", 2, 5);
            fault("juror a;sways a " + word + " 1;", 2, 16);
            String less = word.substring(0, word.length() - 1);
            fine("juror " + less + "x;");
            fine("juror " + less + ";");
            if (word.length() < 8) {
                fine("juror " + word + "a;");
                fine("juror x" + word + ";");
            }
        }
    }

    private static void nameOfOneThing() {
        CHECK.says("one NAME is of one thing alone; 3: a new NAME that is taken");
        String[] makers = {"juror ", "proof ", "weather ", "crop "};
        for (int i = 0; i < 4; i++) {
            for (int k = 0; k < 4; k++) {
                String first = makers[i] + "abcdefgh" + (i == 1 ? " 1;" : ";");
                String end = k == 1 ? " 1;" : ";";
                faultBehind(first + makers[k], "abcdefgh" + end, 3);
                fine(first + makers[k] + "abcdefg" + end);
                fine(first + makers[k] + "abcdefgi" + end);
            }
        }
    }

    private static void toldAhead() {
        CHECK.says("what a PART names must be told ahead; 3: a NAME that is no such one told ahead");
        fault("juror a;sways a b 1;juror b;", 3, 16);
        fault("juror b;sways a b 1;juror a;", 3, 14);
        fault("follows u guilty u free u;weather u;", 3, 8);
        fault("weather u;follows u guilty v free u;weather v;", 3, 27);
        fault("weather u;follows u guilty u free v;weather v;", 3, 34);
        fault("crop k on u 1;weather u;", 3, 10);
        String all = "juror j;proof p 1;weather w;crop c;";
        for (String other : new String[] {"p", "w", "c", "x"}) {
            faultBehind(all + "sways ", other + " j 1;", 3);
            faultBehind(all + "sways j ", other + " 1;", 3);
        }
        for (String other : new String[] {"j", "p", "c", "x"}) {
            faultBehind(all + "follows ", other + " guilty w free w;", 3);
            faultBehind(all + "follows w guilty ", other + " free w;", 3);
            faultBehind(all + "follows w guilty w free ", other + ";", 3);
            faultBehind(all + "crop d on ", other + " 1;", 3);
        }
        faultBehind(all + "crop d on ", "d 1;", 3);
        fine(all + "follows w guilty w free w;crop d on w 1;");
    }

    // ---- how many, and what NUMBERS

    private static String things(String part, String rest, int many) {
        StringBuilder text = new StringBuilder();
        for (int i = 0; i < many; i++) {
            text.append(part).append(" n").append((char) ('a' + i)).append(rest).append(';');
        }
        return text.toString();
    }

    private static void atMost(String part, String rest, int what, int most) {
        for (int many = 0; many <= most; many++) {
            RainJury x = fine(things(part, rest, many));
            CHECK.good(x, "many(" + what + ")", x.many(what), many);
        }
        String full = things(part, rest, most);
        faultBehind(full, part + " nz" + rest + ";", 6);
        faultBehind(full, part + " na" + rest + ";", 6);
        faultBehind(full, part + " @", 6);
        faultBehind(full, part, 6);
    }

    private static void jurors() {
        CHECK.says("JURORS, at most 10; 6: one more juror than there may be (at that WORD)");
        atMost("juror", "", 0, 10);
        RainJury x = fine(things("juror", "", 10));
        CHECK.good(x, "all are SEATED", x.many(10), 1023);
        CHECK.good(x, "the tenth", x.juror(9, 0), 0);
        CHECK.bad(x, "no eleventh", x.juror(10, 0), 2);
    }

    private static void number(String ahead, String behind, int most, boolean less) {
        for (int number : new int[] {0, 1, most - 1, most}) {
            fine(ahead + number + behind);
        }
        int place = ahead.length();
        fault(ahead + (most + 1) + behind, 4, place);
        fault(ahead + "9999" + behind, 4, place);
        if (less) {
            fine(ahead + "less 0" + behind);
            fine(ahead + "less " + most + behind);
            fault(ahead + "less " + (most + 1) + behind, 4, place + 5);
        } else {
            fault(ahead + "less 1" + behind, 2, place);
        }
    }

    private static void leanings() {
        CHECK.says("LEANING (-99 to 99; 0 without); 4: a NUMBER that can't be");
        number("juror a leans ", ";", 99, true);
        RainJury x = fine("juror a leans 99;juror b leans less 99;juror c;juror d leans less 0;");
        int[] want = {99, -99, 0, 0};
        for (int i = 0; i < 4; i++) {
            CHECK.good(x, "as told", x.juror(i, 1), want[i]);
            CHECK.good(x, "as it leans", x.juror(i, 0), want[i]);
        }
    }

    private static void stubborn() {
        CHECK.says("STUBBORN (0 to 20; 0 without)");
        number("juror a stubborn ", ";", 20, false);
        RainJury x = fine("juror a stubborn 20;juror b stubborn 0;juror c;");
        CHECK.good(x, "20", x.juror(0, 2), 20);
        CHECK.good(x, "0", x.juror(1, 2), 0);
        CHECK.good(x, "without", x.juror(2, 2), 0);
    }

    private static void prices() {
        CHECK.says("PRICE (0 to 99; 0 without)");
        number("juror a price ", ";", 99, false);
        RainJury x = fine("juror a price 99;juror b price 0;juror c;");
        CHECK.good(x, "99", x.juror(0, 3), 99);
        CHECK.good(x, "0", x.juror(1, 3), 0);
        CHECK.good(x, "without", x.juror(2, 3), 0);
    }

    private static void sways() {
        CHECK.says("SWAYS: the first JUROR sways the second by so much (0 to 20; told again: the latest)");
        number("juror a;juror b;sways a b ", ";", 20, false);
        RainJury x = fine("juror a;juror b;sways a b 20;");
        CHECK.good(x, "the second by the first", x.sways(0, 1), 20);
        CHECK.good(x, "the first by the second", x.sways(1, 0), 0);
        x = fine("juror a;juror b;sways a b 20;sways b a 3;sways a b 0;sways b a 4;");
        CHECK.good(x, "the latest", x.sways(0, 1), 0);
        CHECK.good(x, "the latest", x.sways(1, 0), 4);
        CHECK.good(x, "told 0: sways no more", x.behind(1), 0);
        CHECK.good(x, "told 4: sways", x.behind(0), 2);
    }

    private static void swaysItself() {
        CHECK.says("5: a JUROR that sways itself (at the second NAME)");
        String two = "juror a;juror b;";
        faultBehind(two + "sways a ", "a 1;", 5);
        faultBehind(two + "sways b ", "b 1;", 5);
        faultBehind(two + "sways b ", "b;", 5);
        faultBehind(two + "sways ", "c c 1;", 3);
        fine(two + "sways a b 1;");
    }

    private static void proofs() {
        CHECK.says("PROOFS, at most 6: a WEIGHT (-99 to 99)");
        atMost("proof", " 1", 1, 6);
        number("proof p ", ";", 99, true);
        RainJury x = fine("proof p less 99;proof q 99;proof r 0;");
        CHECK.good(x, "-99", x.proof(0), -99);
        CHECK.good(x, "99", x.proof(1), 99);
        CHECK.good(x, "0", x.proof(2), 0);
        fault("proof p;", 2, 7);
        fault("proof p less;", 2, 12);
    }

    private static void weathers() {
        CHECK.says("WEATHERS, at most 6: the first is that of DAY 0");
        atMost("weather", "", 2, 6);
        RainJury x = fine("weather u;weather v;");
        CHECK.good(x, "many(8)", x.many(8), 0);
        x = fine("weather u;");
        CHECK.good(x, "many(8)", x.many(8), 0);
        x = fine("juror a;");
        CHECK.bad(x, "no WEATHER", x.many(8), 8);
    }

    private static void follows() {
        CHECK.says("behind one on which the verdict is GUILTY, FREE comes the WEATHER told (itself without; told again: the latest)");
        RainJury x = fine("weather u;weather v;weather w;follows u guilty v free w;follows w guilty u free u;follows w guilty w free v;");
        int[][] want = {{2, 0, 1}, {1, 1, 1}, {1, 2, 2}};
        for (int i = 0; i < 3; i++) {
            for (int verdict = -1; verdict <= 1; verdict++) {
                CHECK.good(x, "follows(" + i + ", " + verdict + ")", x.follows(i, verdict), want[i][verdict + 1]);
            }
        }
        String two = "weather u;weather v;";
        faultBehind(two + "follows u ", "free u guilty v;", 2);
        faultBehind(two + "follows u guilty v ", ";", 2);
        faultBehind(two + "follows u guilty v ", "guilty u;", 2);
        faultBehind(two + "follows u guilty v free u ", "free v;", 2);
        faultBehind(two + "follows ", "guilty u free u;", 2);
    }

    private static void crops() {
        CHECK.says("CROPS, at most 4");
        atMost("crop", "", 3, 4);
    }

    private static void growths() {
        CHECK.says("by how much one GROWS on a day of a WEATHER (-99 to 99; 0 without; told twice in one CROP: the latest)");
        number("weather u;crop k on u ", ";", 99, true);
        RainJury x = fine("weather u;weather v;crop k on u 99 on v less 99;crop l on u 5 on u 0;crop m on u 1 on v 2 on u less 3;");
        int[][] want = {{99, -99}, {0, 0}, {-3, 2}};
        for (int i = 0; i < 3; i++) {
            for (int k = 0; k < 2; k++) {
                CHECK.good(x, "grows(" + i + ", " + k + ")", x.grows(i, k), want[i][k]);
            }
        }
    }

    private static void hungers() {
        CHECK.says("HUNGER: the ROUND from which on (1 to 99; never without); 5: hunger told already (at that WORD)");
        fine("hunger 1;");
        fine("hunger 99;");
        fault("hunger 0;", 4, 7);
        fault("hunger 100;", 4, 7);
        fault("hunger less 1;", 2, 7);
        fault("hunger;", 2, 6);
        RainJury x = fine("hunger 1;");
        CHECK.good(x, "1", x.many(4), 1);
        x = fine("hunger 99;");
        CHECK.good(x, "99", x.many(4), 99);
        x = fine("juror a;");
        CHECK.bad(x, "never", x.many(4), 8);
        fault("hunger 1;hunger 1;", 5, 9);
        fault("hunger 99;juror a;hunger", 5, 18);
        fault("hunger 99;hunger @", 5, 10);
        CHECK.good(x, "a COURT anew", Check.court(x, "hunger 7;"), 0);
        CHECK.good(x, "and another", Check.court(x, "hunger 8;"), 0);
        CHECK.good(x, "8", x.many(4), 8);
        CHECK.good(x, "and one without", Check.court(x, ""), 0);
        CHECK.bad(x, "never again", x.many(4), 8);
    }

    private static void lawTold() {
        CHECK.says("5: law told already (at that WORD)");
        for (String law : new String[] {"most", "all", "two"}) {
            String told = "law " + law + ";";
            faultBehind(told, "law most;", 5);
            faultBehind(told, "law", 5);
            faultBehind(told + "juror a;", "law @", 5);
        }
        RainJury x = fine("law two;");
        CHECK.good(x, "a COURT anew", Check.court(x, "law all;"), 0);
        CHECK.good(x, "all", x.many(5), 1);
        CHECK.bad(x, "told twice", Check.court(x, "law two;law two;"), 10);
        CHECK.good(x, "all stays", x.many(5), 1);
        CHECK.good(x, "none told", Check.court(x, ""), 0);
        CHECK.good(x, "most", x.many(5), 0);
    }

    // ---- FAULTS

    private static void faultAtTheEnd() {
        CHECK.says("2: it can't stand there (the end: the text's length)");
        String[] texts = {"juror", "juror a", "juror a leans", "juror a leans less", "juror a leans 1", "juror a stubborn",
            "juror a price", "juror a price 1", "sways", "juror a;sways a", "juror a;juror b;sways a b",
            "juror a;juror b;sways a b 1", "proof", "proof p", "proof p less", "proof p 1", "weather", "weather u", "follows",
            "weather u;follows u", "weather u;follows u guilty", "weather u;follows u guilty u",
            "weather u;follows u guilty u free", "weather u;follows u guilty u free u", "crop", "crop k", "weather u;crop k on",
            "weather u;crop k on u", "weather u;crop k on u less", "weather u;crop k on u 1", "hunger", "hunger 1", "law", "law all"};
        for (String text : texts) {
            fault(text, 2, text.length());
            fault(text + " \n ", 2, text.length() + 3);
        }
    }

    private static void firstFault() {
        CHECK.says("FAULTS, the first along the text");
        fault("juror a leans 100 @;", 4, 14);
        fault("juror a @ leans 100;", 1, 8);
        fault("juror a;juror a;hunger 0;", 3, 14);
        fault("hunger 0;juror a;juror a;", 4, 7);
        fault("juror a b; 12345", 2, 8);
        fault("juror a; 12345 b", 1, 9);
        fault("juror a;sways a a 21;", 5, 16);
        fault("hunger 1;hunger 100;", 5, 9);
        fault(things("juror", "", 11) + "law law;", 6, 90);
    }

    private static void leastKind() {
        CHECK.says("FAULTS: of one TOKEN the least kind");
        fault("juror a leans 99999;", 1, 14);
        fault("law 12345;", 1, 4);
        fault("hunger 1;juror hunger", 2, 15);
        fault("law all;juror a law", 2, 16);
        fault("juror a;sways a juror 1;", 2, 16);
        String full = things("juror", "", 10);
        faultBehind(full + "sways na nb ", "juror", 2);
        faultBehind(full + "weather ", "juror;", 2);
        fault("weather stubbornx;", 2, 8);
    }

    // ---- what is taken

    private static void fullCourt() {
        CHECK.says("as much as there may be: 10 JURORS, 6 PROOFS, 6 WEATHERS, 4 CROPS, HUNGER, LAW");
        StringBuilder text = new StringBuilder();
        for (int i = 0; i < 10; i++) {
            text.append("juror j").append((char) ('a' + i)).append(" leans less 9").append(i).append("stubborn 20price 99;");
        }
        for (int i = 0; i < 6; i++) {
            text.append("proof p").append((char) ('a' + i)).append(" 9").append(i).append(";weather w").append((char) ('a' + i)).append(';');
        }
        for (int i = 0; i < 4; i++) {
            text.append("crop c").append((char) ('a' + i)).append(" on wf ").append(i).append(';');
        }
        text.append("hunger 99;law two;follows wa guilty wf free we;sways ja jj 20;");
        CHECK.due("within 900", text.length() <= 900, true);
        RainJury x = fine(text.toString());
        int[] many = {10, 6, 6, 4, 99, 2, 0, 0, 0, 0, 1023, 0};
        for (int what = 0; what < many.length; what++) {
            CHECK.good(x, "many(" + what + ")", x.many(what), many[what]);
        }
        for (int i = 0; i < 10; i++) {
            CHECK.good(x, "juror(" + i + ", 1)", x.juror(i, 1), -90 - i);
            CHECK.good(x, "juror(" + i + ", 2)", x.juror(i, 2), 20);
            CHECK.good(x, "juror(" + i + ", 3)", x.juror(i, 3), 99);
        }
        for (int i = 0; i < 6; i++) {
            CHECK.good(x, "proof(" + i + ")", x.proof(i), 90 + i);
        }
        for (int i = 0; i < 4; i++) {
            CHECK.good(x, "grows(" + i + ", 5)", x.grows(i, 5), i);
        }
        CHECK.good(x, "sways(0, 9)", x.sways(0, 9), 20);
        CHECK.good(x, "follows(0, 1)", x.follows(0, 1), 5);
        CHECK.good(x, "follows(0, -1)", x.follows(0, -1), 4);
    }

    private static void courtTaken() {
        CHECK.says("a COURT that is taken is there in place of that ahead; DAY 0, ROUND 0, CROPS are 0, no COINS were spent, no WEEKS");
        RainJury x = Check.with("juror a leans 1 price 9;juror b leans 2;proof p 3;weather u;weather v;follows u guilty v free v;"
                + "crop k on u 5 on v 6;hunger 9;law all;", "mood;");
        x.endDay();
        x.show(0);
        x.talk(3);
        x.bribe(0, 1);
        x.strike(1);
        int[] was = {2, 1, 2, 1, 9, 1, 1, 3, 1, 9, 1, 1};
        for (int what = 0; what < 12; what++) {
            CHECK.good(x, "many(" + what + ") ahead", x.many(what), was[what]);
        }
        CHECK.good(x, "crop(0) ahead", x.crop(0), 5);
        CHECK.bad(x, "one at fault", Check.court(x, "juror z;weather u;crop k;crop k;"), 10);
        for (int what = 0; what < 12; what++) {
            CHECK.good(x, "many(" + what + ") stays", x.many(what), was[what]);
        }
        CHECK.good(x, "crop(0) stays", x.crop(0), 5);
        CHECK.good(x, "the WEEKS stay", x.live(0), 1);
        CHECK.good(x, "one that is taken", Check.court(x, "juror z leans 8;weather u;weather v;crop k;proof p 1;"), 1);
        int[] is = {1, 1, 2, 1, -1, 0, 0, 0, 0, 0, 1, 0};
        for (int what = 0; what < 12; what++) {
            CHECK.due(x, "many(" + what + ") anew", x.many(what), is[what], what == 4 ? 8 : 0);
        }
        CHECK.good(x, "crop(0)", x.crop(0), 0);
        CHECK.good(x, "as told", x.juror(0, 0), 8);
        CHECK.good(x, "follows(0, 1)", x.follows(0, 1), 0);
        CHECK.bad(x, "no WEEKS", x.live(0), 8);
    }

    private static void nothingOfTheOldOne() {
        CHECK.says("a COURT that is taken is there in place of that ahead: 0 without, never without, most without, itself without");
        StringBuilder old = new StringBuilder();
        for (int i = 0; i < 5; i++) {
            old.append("juror j").append((char) ('a' + i)).append(" leans 9 stubborn 2 price 3;");
        }
        for (int i = 0; i < 5; i++) {
            for (int k = 0; k < 5; k++) {
                old.append(i == k ? "" : "sways j" + (char) ('a' + i) + " j" + (char) ('a' + k) + " 7;");
            }
        }
        old.append("weather u;weather v;follows u guilty v free v;follows v guilty u free u;crop k on u 1 on v 1;crop l on u 1 on v 1;");
        RainJury x = Check.with(old.append("proof p 3;hunger 1;law all;").toString());
        for (int i = 0; i < 5; i++) {
            CHECK.good(x, "all sway JUROR " + i, x.behind(i), 31 - (1 << i));
        }
        Check.court(x, "juror ja;juror jb;juror jc;juror jd;juror je leans 1;weather u;weather v;crop k;crop l;");
        for (int i = 0; i < 5; i++) {
            CHECK.good(x, "nobody sways JUROR " + i, x.behind(i), 0);
            CHECK.good(x, "nobody pulls JUROR " + i, x.pull(i), 0);
            CHECK.good(x, "STUBBORN", x.juror(i, 2), 0);
            CHECK.good(x, "PRICE", x.juror(i, 3), 0);
            for (int k = 0; k < 5; k++) {
                CHECK.due("sways(" + i + ", " + k + ")", x.sways(i, k), i == k ? -1 : 0);
            }
        }
        for (int i = 0; i < 2; i++) {
            for (int k = 0; k < 2; k++) {
                CHECK.good(x, "grows(" + i + ", " + k + ")", x.grows(i, k), 0);
            }
            CHECK.good(x, "follows(" + i + ", 1)", x.follows(i, 1), i);
            CHECK.good(x, "follows(" + i + ", -1)", x.follows(i, -1), i);
        }
        x.talk(3);
        for (int i = 0; i < 5; i++) {
            CHECK.good(x, "nobody moved", x.juror(i, 0), i == 4 ? 1 : 0);
        }
        CHECK.good(x, "by most", x.verdict(), -1);
        CHECK.bad(x, "no PROOF", x.proof(0), 2);
    }

    private static void cutByItsEnd() {
        CHECK.says("10: the first n bytes: what is behind them on the tape is not read");
        String text = "juror abc leans 98 stubborn 19;";
        int[] faults = {17, 25, 29};
        for (int n : faults) {
            RainJury x = new RainJury();
            Check.feed(x, text);
            CHECK.bad(x, "court(" + n + ")", x.court(n), 10);
            CHECK.due("fault(0)", x.fault(0), 2);
            CHECK.due("fault(1)", x.fault(1), n == 25 ? 19 : n);
        }
        RainJury x = new RainJury();
        Check.feed(x, "hunger 99;law all;");
        CHECK.bad(x, "hunger 9, without its end", x.court(8), 10);
        CHECK.due("fault(1)", x.fault(1), 8);
        CHECK.good(x, "an empty text behind it", x.court(0), 0);
        Check.feed(x, "juror a;;;;;;;;;;;;;");
        CHECK.good(x, "signs behind it", x.court(8), 1);
        Check.feed(x, "hunger 12345;       ");
        CHECK.bad(x, "hunger 1234, without its end", x.court(11), 10);
        CHECK.due("fault(0): 4, not 1", x.fault(0), 4);
    }
}

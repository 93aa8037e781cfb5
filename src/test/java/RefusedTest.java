import java.util.ArrayList;
import java.util.List;

/**
 * Part 5: a call with another STATUS than 0 gives NONE, or false, and changes nothing but STATUS. Each call is put to
 * one of two objects that are alike; then both must tell the same, first without a change, then behind changes.
 */
public final class RefusedTest {
    private static final Check CHECK = new Check("RefusedTest");
    private static final String COURT = "juror a leans 1 price 7;juror b leans less 2 stubborn 3 price 9;juror c;juror d leans 9;"
            + "sways a b 9;sways b c 3;sways d c 2;proof k 12;proof l less 30;proof m 2;weather q;weather r;weather s;"
            + "follows q guilty r free q;follows r guilty q free r;crop w on q 3 on r less 4;crop y on r 9;hunger 7;law two;";
    private static final String WEEKS = "show k;talk 2;mood;when votes>0;verdict;end;loop 2;bribe b less;end;strike a;";
    private static final String WAITING = "juror q leans 7;    ";

    private interface Made {
        RainJury one();
    }

    private interface Call {
        Object on(RainJury x);
    }

    private final Made made;
    private final long[] told;
    private final long[] toldBehind;

    private RefusedTest(Made made) {
        this.made = made;
        RainJury x = made.one();
        told = tell(x);
        toldBehind = tellByChanges(x);
    }

    public static void main(String[] args) {
        refusedByRich(new RefusedTest(RefusedTest::rich));
        refusedByFull(new RefusedTest(RefusedTest::full));
        refusedByEmpty(new RefusedTest(RainJury::new));
        refusedByOthers();
        refusedTexts(new RefusedTest(RefusedTest::rich));
        tellingChangesNothing(new RefusedTest(RefusedTest::rich));
        goodCallsHaveStatusZero();
        CHECK.end();
    }

    // ---- the objects

    /** Something of all that can be there, and one TRAY that is MISSING. */
    private static RainJury rich() {
        RainJury x = Check.with(COURT, WEEKS);
        x.tray(0, 0, 4);
        x.tray(1, 0, 3);
        x.tray(2, 2, 2);
        x.write(0, 0, 1);
        x.write(0, 1, -1);
        x.write(0, 2, 2);
        x.write(1, 0, 1);
        x.write(2, 1, -70000);
        x.mark();
        x.live(11);
        x.endDay();
        x.mark();
        x.endDay();
        x.show(2);
        x.talk(3);
        x.bribe(1, 1);
        x.strike(3);
        x.lean(2, -5);
        x.drawn(2, 1, 1);
        x.bestOrder(0);
        x.bestOrder(-1);
        x.bribes(-1, -1, 0);
        Check.weeks(x, "mood;show nobody;");
        Check.feed(x, WAITING);
        return x;
    }

    /** The DAY, the ROUND and the COINS at 9,999, three MARKS, a tape of 900 bytes. */
    private static RainJury full() {
        RainJury x = Check.with("juror a leans 1 price 99;juror b price 1;weather u;crop k on u 1;", "loop 99;verdict;verdict;end;");
        for (int i = 0; i < 50; i++) {
            x.live(i);
        }
        Check.weeks(x, "loop 99;verdict;end;loop 99;talk 99;end;talk 99;talk 99;");
        x.live(0);
        Check.weeks(x, "loop 99;bribe a;end;bribe a;bribe a;");
        for (int i = 0; i < 3; i++) {
            x.mark();
            x.lean(1, 10 + i);
        }
        x.live(0);
        Check.feed(x, WAITING.repeat(45));
        return x;
    }

    // ---- what they tell

    private static long number(Object answer) {
        return answer instanceof Boolean ? (Boolean) answer ? 1 : -1 : ((Number) answer).longValue();
    }

    private static long[] numbers(List<Long> all) {
        long[] row = new long[all.size()];
        for (int i = 0; i < row.length; i++) {
            row[i] = all.get(i);
        }
        return row;
    }

    private static void add(List<Long> all, RainJury x, long answer) {
        all.add(answer);
        all.add((long) x.status());
    }

    private static void tellTrays(List<Long> all, RainJury x) {
        for (int tray = 0; tray < 4; tray++) {
            int place = 0;
            do {
                add(all, x, x.read(tray, place++));
            } while (x.status() == 0);
        }
    }

    private static void tellCourt(List<Long> all, RainJury x) {
        int jurors = x.many(0);
        for (int what = 0; what < 6; what++) {
            add(all, x, x.many(what));
        }
        for (int i = 0; i < jurors; i++) {
            for (int what = 1; what < 4; what++) {
                add(all, x, x.juror(i, what));
            }
            for (int k = 0; k < jurors; k++) {
                add(all, x, x.sways(i, k));
            }
        }
        for (int i = 0; i < 3; i++) {
            add(all, x, x.proof(i));
            add(all, x, x.follows(i, 1));
            add(all, x, x.follows(i, -1));
            add(all, x, x.grows(0, i));
            add(all, x, x.grows(1, i));
        }
    }

    private static void tellHall(List<Long> all, RainJury x) {
        int jurors = x.many(0);
        for (int what = 6; what < 12; what++) {
            add(all, x, x.many(what));
        }
        for (int i = 0; i < jurors; i++) {
            add(all, x, x.juror(i, 0));
        }
        add(all, x, x.crop(0));
        add(all, x, x.crop(1));
    }

    private static void tellLatest(List<Long> all, RainJury x) {
        for (int i = 0; i < 5; i++) {
            add(all, x, x.orderAt(i));
            add(all, x, x.lived(i));
        }
        add(all, x, x.bribeSet());
        all.add(x.top());
        all.add(x.bottom());
        all.add((long) x.fault(0));
        all.add((long) x.fault(1));
    }

    private static long[] tell(RainJury x) {
        List<Long> all = new ArrayList<>();
        tellLatest(all, x);
        tellHall(all, x);
        tellTrays(all, x);
        tellCourt(all, x);
        return numbers(all);
    }

    /** The sorts of the TRAYS, the WEEKS, the tape and the MARKS tell themselves by being used alone. */
    private static long[] tellByChanges(RainJury x) {
        List<Long> all = new ArrayList<>();
        for (int tray = 0; tray < 4; tray++) {
            x.write(tray, 0, 0x123456789abcdef1L);
            add(all, x, x.read(tray, 0));
        }
        add(all, x, x.live(3));
        tellHall(all, x);
        all.add((long) x.feed(0, 0, 0, 0, 0));
        add(all, x, x.court(20));
        tellHall(all, x);
        for (int i = 0; i < 4; i++) {
            add(all, x, x.back());
            tellHall(all, x);
            add(all, x, x.live(7));
            tellHall(all, x);
        }
        tellCourt(all, x);
        return numbers(all);
    }

    // ---- the two that are held against each other

    private static void same(String call, long[] got, long[] want) {
        CHECK.due("how much is told behind " + call, got.length, want.length);
        for (int i = 0; i < got.length && i < want.length; i++) {
            CHECK.due("what is told " + i + "th behind " + call, got[i], want[i]);
        }
    }

    private void refused(String told, int status, Call call) {
        RainJury x = made.one();
        x.many(0);
        CHECK.due(told, number(call.on(x)), -1);
        CHECK.due("status() behind " + told, x.status(), status);
        same(told, tell(x), this.told);
        same(told + " and changes", tellByChanges(x), toldBehind);
    }

    private static void refusedByRich(RefusedTest rich) {
        CHECK.says("a call with another STATUS than 0 gives NONE, or false, and changes nothing but STATUS: 1");
        rich.refused("tray(4, 0, 1)", 1, x -> x.tray(4, 0, 1));
        rich.refused("tray(0, 4, 1)", 1, x -> x.tray(0, 4, 1));
        rich.refused("write(4, 0, 1)", 1, x -> x.write(4, 0, 1));
        rich.refused("read(4, 0)", 1, x -> x.read(4, 0));
        rich.refused("pour(0, 0, 4, 0, 1)", 1, x -> x.pour(0, 0, 4, 0, 1));
        rich.refused("pour(-1, 0, 0, 0, 1)", 1, x -> x.pour(-1, 0, 0, 0, 1));
        rich.refused("copyLeanings(4)", 1, x -> x.copyLeanings(4));
        rich.refused("row(4, 1)", 1, x -> x.row(4, 1));
        rich.refused("rowGrows(4, 1, 0)", 1, x -> x.rowGrows(4, 1, 0));
        CHECK.says("changes nothing but STATUS: 2");
        rich.refused("juror(4, 0)", 2, x -> x.juror(4, 0));
        rich.refused("sways(0, 4)", 2, x -> x.sways(0, 4));
        rich.refused("proof(3)", 2, x -> x.proof(3));
        rich.refused("follows(3, 1)", 2, x -> x.follows(3, 1));
        rich.refused("grows(2, 0)", 2, x -> x.grows(2, 0));
        rich.refused("grows(0, 3)", 2, x -> x.grows(0, 3));
        rich.refused("crop(2)", 2, x -> x.crop(2));
        rich.refused("show(3)", 2, x -> x.show(3));
        rich.refused("strike(4)", 2, x -> x.strike(4));
        rich.refused("seat(4)", 2, x -> x.seat(4));
        rich.refused("bribe(4, 1)", 2, x -> x.bribe(4, 1));
        rich.refused("lean(4, 1)", 2, x -> x.lean(4, 1));
        rich.refused("pull(4)", 2, x -> x.pull(4));
        rich.refused("behind(4)", 2, x -> x.behind(4));
        rich.refused("way(3)", 2, x -> x.way(3));
        rich.refused("harvest(2, 1)", 2, x -> x.harvest(2, 1));
        rich.refused("harvestNow(2, 1)", 2, x -> x.harvestNow(2, 1));
        rich.refused("mean(2, 0, 1)", 2, x -> x.mean(2, 0, 1));
        rich.refused("rowGrows(1, 1, 2)", 2, x -> x.rowGrows(1, 1, 2));
        CHECK.says("changes nothing but STATUS: 3");
        rich.refused("write(3, 0, 1)", 3, x -> x.write(3, 0, 1));
        rich.refused("read(3, 0)", 3, x -> x.read(3, 0));
        rich.refused("pour(3, 0, 0, 0, 1)", 3, x -> x.pour(3, 0, 0, 0, 1));
        rich.refused("pour(0, 0, 3, 0, 1)", 3, x -> x.pour(0, 0, 3, 0, 1));
        rich.refused("copyLeanings(3)", 3, x -> x.copyLeanings(3));
        rich.refused("row(3, 0)", 3, x -> x.row(3, 0));
        rich.refused("rowGrows(3, 0, 0)", 3, x -> x.rowGrows(3, 0, 0));
        CHECK.says("changes nothing but STATUS: 4, 6, 11");
        rich.refused("write(0, 4, 1)", 4, x -> x.write(0, 4, 1));
        rich.refused("read(0, 4)", 4, x -> x.read(0, 4));
        rich.refused("pour(0, 1, 1, 0, 4)", 4, x -> x.pour(0, 1, 1, 0, 4));
        rich.refused("pour(0, 0, 1, 0, 4)", 4, x -> x.pour(0, 0, 1, 0, 4));
        rich.refused("copyLeanings(1)", 4, x -> x.copyLeanings(1));
        rich.refused("row(0, 5)", 4, x -> x.row(0, 5));
        rich.refused("rowGrows(0, 5, 0)", 4, x -> x.rowGrows(0, 5, 0));
        rich.refused("tray(0, 0, -1)", 6, x -> x.tray(0, 0, -1));
        rich.refused("pour(0, 0, 1, 0, -1)", 6, x -> x.pour(0, 0, 1, 0, -1));
        rich.refused("pour(0, 0, 2, 0, 1)", 11, x -> x.pour(0, 0, 2, 0, 1));
        refusedNumbers(rich);
        refusedStates(rich);
    }

    private static void refusedNumbers(RefusedTest rich) {
        CHECK.says("changes nothing but STATUS: 5");
        rich.refused("tray(0, 0, 61)", 5, x -> x.tray(0, 0, 61));
        rich.refused("court(21)", 5, x -> x.court(21));
        rich.refused("court(-1)", 5, x -> x.court(-1));
        rich.refused("weeks(21)", 5, x -> x.weeks(21));
        rich.refused("weeks(-1)", 5, x -> x.weeks(-1));
        rich.refused("many(12)", 5, x -> x.many(12));
        rich.refused("juror(0, 4)", 5, x -> x.juror(0, 4));
        rich.refused("sways(1, 1)", 5, x -> x.sways(1, 1));
        rich.refused("follows(0, 2)", 5, x -> x.follows(0, 2));
        rich.refused("talk(0)", 5, x -> x.talk(0));
        rich.refused("talk(100)", 5, x -> x.talk(100));
        rich.refused("bribe(0, 0)", 5, x -> x.bribe(0, 0));
        rich.refused("lean(0, 100)", 5, x -> x.lean(0, 100));
        rich.refused("lean(0, -100)", 5, x -> x.lean(0, -100));
        rich.refused("votes(2)", 5, x -> x.votes(2));
        rich.refused("verdictBy(3)", 5, x -> x.verdictBy(3));
        rich.refused("settles(2)", 5, x -> x.settles(2));
        rich.refused("after(201)", 5, x -> x.after(201));
        rich.refused("soonest(2)", 5, x -> x.soonest(2));
        rich.refused("bestOrder(2)", 5, x -> x.bestOrder(2));
        rich.refused("bribes(2, 1, 0)", 5, x -> x.bribes(2, 1, 0));
        rich.refused("bribes(1, 0, 0)", 5, x -> x.bribes(1, 0, 0));
        rich.refused("bribes(1, 1, 10)", 5, x -> x.bribes(1, 1, 10));
        rich.refused("strikes(4)", 5, x -> x.strikes(4));
        rich.refused("firstStrike(0)", 5, x -> x.firstStrike(0));
        rich.refused("drawn(5, 0, 1)", 5, x -> x.drawn(5, 0, 1));
        rich.refused("drawn(1, 10, 1)", 5, x -> x.drawn(1, 10, 1));
        rich.refused("drawn(1, 0, 2)", 5, x -> x.drawn(1, 0, 2));
        rich.refused("row(0, 3)", 5, x -> x.row(0, 3));
        rich.refused("row(0, -1)", 5, x -> x.row(0, -1));
        rich.refused("rowGrows(0, 3, 0)", 5, x -> x.rowGrows(0, 3, 0));
        rich.refused("harvest(0, 21)", 5, x -> x.harvest(0, 21));
        rich.refused("harvestNow(0, 0)", 5, x -> x.harvestNow(0, 0));
        rich.refused("live(10000)", 5, x -> x.live(10000));
        rich.refused("live(-1)", 5, x -> x.live(-1));
        rich.refused("lived(5)", 5, x -> x.lived(5));
        rich.refused("mean(0, 9999, 2)", 5, x -> x.mean(0, 9999, 2));
    }

    private static void refusedStates(RefusedTest rich) {
        CHECK.says("changes nothing but STATUS: 8, 9, where something is there");
        rich.refused("soonest(-1)", 8, x -> x.soonest(-1));
        rich.refused("bestOrder(0)", 8, x -> x.bestOrder(0));
        rich.refused("bribes(-1, 1, 0)", 8, x -> x.bribes(-1, 1, 0));
        rich.refused("orderAt(9)", 8, x -> x.orderAt(9));
        rich.refused("way(2)", 8, x -> x.way(2));
        rich.refused("show(2)", 9, x -> x.show(2));
        rich.refused("strike(3)", 9, x -> x.strike(3));
        rich.refused("seat(0)", 9, x -> x.seat(0));
        rich.refused("bribe(3, 1)", 9, x -> x.bribe(3, 1));
        rich.refused("pull(3)", 9, x -> x.pull(3));
        rich.refused("strikes(2)", 9, x -> x.strikes(2));
        rich.refused("firstStrike(2)", 9, x -> x.firstStrike(2));
    }

    private static void refusedByFull(RefusedTest full) {
        CHECK.says("changes nothing but STATUS: 7");
        full.refused("talk(1)", 7, x -> x.talk(1));
        full.refused("talk(99)", 7, x -> x.talk(99));
        full.refused("endDay()", 7, x -> x.endDay());
        full.refused("bribe(0, -1)", 7, x -> x.bribe(0, -1));
        full.refused("bribe(1, 1)", 7, x -> x.bribe(1, 1));
        full.refused("mark()", 7, x -> x.mark());
        full.refused("weeks(301)", 5, x -> x.weeks(301));
        full.refused("court(901)", 5, x -> x.court(901));
        CHECK.says("9: NONE if there would be more than 900: the tape stays");
        RainJury x = full();
        CHECK.due("feed", x.feed(1, 2, 3, 4, 5), -1);
        same("feed", tell(x), full.told);
        same("feed and changes", tellByChanges(x), full.toldBehind);
    }

    private static void refusedByEmpty(RefusedTest empty) {
        CHECK.says("changes nothing but STATUS: 8, where nothing is there");
        empty.refused("many(4)", 8, x -> x.many(4));
        empty.refused("many(8)", 8, x -> x.many(8));
        empty.refused("lacks()", 8, x -> x.lacks());
        empty.refused("nearest()", 8, x -> x.nearest());
        empty.refused("soonest(1)", 8, x -> x.soonest(1));
        empty.refused("bestOrder(1)", 8, x -> x.bestOrder(1));
        empty.refused("orderAt(0)", 8, x -> x.orderAt(0));
        empty.refused("bribes(1, 1, 0)", 8, x -> x.bribes(1, 1, 0));
        empty.refused("bribeSet()", 8, x -> x.bribeSet());
        empty.refused("strikes(1)", 9, x -> x.strikes(1));
        empty.refused("live(0)", 8, x -> x.live(0));
        empty.refused("lived(0)", 8, x -> x.lived(0));
        empty.refused("back()", 8, x -> x.back());
        empty.refused("drawn(1, 0, 0)", 5, x -> x.drawn(1, 0, 0));
    }

    private static RainJury withoutWeathers() {
        RainJury x = Check.with("juror a leans 3;crop k;");
        x.tray(0, 0, 2);
        x.endDay();
        return x;
    }

    private static RainJury thatNeverSettles() {
        return Check.with("juror a leans 1;juror b leans less 99;juror c leans less 99;sways a b 1;sways b c 1;");
    }

    private static void refusedByOthers() {
        CHECK.says("changes nothing but STATUS: 8, without WEATHERS, WEEKS");
        RefusedTest without = new RefusedTest(RefusedTest::withoutWeathers);
        without.refused("row(0, 1)", 8, x -> x.row(0, 1));
        without.refused("rowGrows(0, 1, 0)", 8, x -> x.rowGrows(0, 1, 0));
        without.refused("harvest(0, 1)", 8, x -> x.harvest(0, 1));
        without.refused("harvestNow(0, 1)", 8, x -> x.harvestNow(0, 1));
        without.refused("mean(0, 0, 1)", 8, x -> x.mean(0, 0, 1));
        CHECK.says("changes nothing but STATUS: 8, not within 200 ROUNDS");
        RefusedTest never = new RefusedTest(RefusedTest::thatNeverSettles);
        never.refused("settles(0)", 8, x -> x.settles(0));
        never.refused("settles(1)", 8, x -> x.settles(1));
    }

    /** The two that differ by what court() and weeks() may change with 10: one takes an empty text first. */
    private static void refusedText(RefusedTest rich, String text, boolean court, int kind, int place) {
        RainJury x = rich.made.one();
        x.weeks(21);
        Check.feed(x, text);
        int n = WAITING.length() + text.length();
        CHECK.bad(x, "a text at fault", court ? x.court(n) : x.weeks(n), 10);
        long[] all = tell(x);
        int toldFaults = 2 * 11 + 2;
        CHECK.due("fault(0)", all[toldFaults], kind);
        CHECK.due("fault(1)", all[toldFaults + 1], place);
        all[toldFaults] = rich.told[toldFaults];
        all[toldFaults + 1] = rich.told[toldFaults + 1];
        same("a text at fault", all, rich.told);
        CHECK.due("the tape is empty", x.feed(0, 0, 0, 0, 0), 20);
        x.weeks(20);
        Check.feed(x, WAITING);
        same("a text at fault and changes", tellByChanges(x), rich.toldBehind);
    }

    private static void refusedTexts(RefusedTest rich) {
        CHECK.says("(but court(), weeks() with 10 the tape, and what fault() tells)");
        refusedText(rich, "law all;hunger 3;proof zz 1;juror q;", true, 3, 54);
        refusedText(rich, "weather u;crop v on u 3;follows u guilty u free u; ! ", true, 1, 71);
        refusedText(rich, "mood;", true, 2, 20);
        refusedText(rich, "mood;", false, 2, 0);
    }

    // ---- calls that tell

    private void changesNothing(String told, Call call) {
        RainJury x = made.one();
        x.back();
        x.mark();
        call.on(x);
        CHECK.due("status() behind " + told, x.status(), 0);
        RainJury twin = made.one();
        twin.back();
        twin.mark();
        same(told, tell(x), tell(twin));
        same(told + " and changes", tellByChanges(x), tellByChanges(twin));
    }

    private static void tellingChangesNothing(RefusedTest rich) {
        CHECK.says("Nothing is promised beyond the answers and state changes described: what tells changes nothing");
        rich.changesNothing("read", x -> x.read(0, 1));
        rich.changesNothing("many", x -> x.many(9));
        rich.changesNothing("juror", x -> x.juror(0, 0));
        rich.changesNothing("sways", x -> x.sways(0, 1));
        rich.changesNothing("proof", x -> x.proof(0));
        rich.changesNothing("follows", x -> x.follows(0, 1));
        rich.changesNothing("grows", x -> x.grows(0, 0));
        rich.changesNothing("crop", x -> x.crop(0));
        rich.changesNothing("votes", x -> x.votes(0));
        rich.changesNothing("verdict", x -> x.verdict());
        rich.changesNothing("verdictBy", x -> x.verdictBy(1));
        rich.changesNothing("swing", x -> x.swing());
        rich.changesNothing("lacks", x -> x.lacks());
        rich.changesNothing("nearest", x -> x.nearest());
        rich.changesNothing("pull", x -> x.pull(1));
        rich.changesNothing("behind", x -> x.behind(2));
        rich.changesNothing("settles", x -> x.settles(0));
        rich.changesNothing("after", x -> x.after(200));
        rich.changesNothing("soonest", x -> x.soonest(1));
        rich.changesNothing("orderAt", x -> {
            x.bestOrder(-1);
            return x.orderAt(0);
        });
        rich.changesNothing("bribes as ahead", x -> x.bribeSet());
        rich.changesNothing("strikes", x -> x.strikes(1));
        rich.changesNothing("firstStrike", x -> x.firstStrike(1));
        rich.changesNothing("row", x -> x.row(0, 2));
        rich.changesNothing("rowGrows", x -> x.rowGrows(0, 2, 0));
        rich.changesNothing("way", x -> x.way(1));
        rich.changesNothing("harvest", x -> x.harvest(0, 20));
        rich.changesNothing("harvestNow", x -> x.harvestNow(0, 20));
        rich.changesNothing("reach", x -> x.reach());
        rich.changesNothing("lived", x -> x.lived(0));
        rich.changesNothing("mean and the FRACTION as ahead", x -> {
            x.mean(0, 0, 20);
            return x.drawn(2, 1, 1);
        });
    }

    private static void zero(String told, Call call) {
        RainJury x = Check.with(COURT, WEEKS);
        x.tray(0, 0, 9);
        x.mark();
        x.strike(3);
        x.bestOrder(1);
        x.bribes(1, 1, 0);
        x.live(1);
        x.read(9, 9);
        CHECK.due("status() ahead", x.status(), 1);
        call.on(x);
        CHECK.due("status() behind " + told, x.status(), 0);
    }

    private static void goodCallsHaveStatusZero() {
        CHECK.says("STATUS of a call: 0 else; 2: of the latest call that has one");
        zero("tray", x -> x.tray(1, 0, 0));
        zero("write", x -> x.write(0, 0, 5));
        zero("read", x -> x.read(0, 0));
        zero("pour", x -> x.pour(0, 0, 0, 0, 9));
        zero("court", x -> x.court(0));
        zero("weeks", x -> x.weeks(0));
        zero("many", x -> x.many(0));
        zero("juror", x -> x.juror(0, 0));
        zero("sways", x -> x.sways(0, 1));
        zero("proof", x -> x.proof(0));
        zero("follows", x -> x.follows(0, 0));
        zero("grows", x -> x.grows(0, 0));
        zero("crop", x -> x.crop(0));
        zero("copyLeanings", x -> x.copyLeanings(0));
        zero("show", x -> x.show(1));
        zero("talk", x -> x.talk(1));
        zero("endDay", x -> x.endDay());
        zero("strike", x -> x.strike(1));
        zero("seat", x -> x.seat(0));
        zero("bribe", x -> x.bribe(1, 1));
        zero("lean", x -> x.lean(0, 0));
        zero("votes", x -> x.votes(0));
        zero("verdict", x -> x.verdict());
        zero("verdictBy", x -> x.verdictBy(0));
        zero("swing", x -> x.swing());
        zero("lacks", x -> x.lacks());
        zero("nearest", x -> x.nearest());
        zero("pull", x -> x.pull(1));
        zero("behind", x -> x.behind(0));
        zero("settles", x -> x.settles(0));
        zero("after", x -> x.after(0));
        zero("soonest", x -> x.soonest(x.verdict()));
        zero("bestOrder", x -> x.bestOrder(x.verdict()));
        zero("bribes", x -> x.bribes(1, 1, 0));
        zero("bribeSet", x -> x.bribeSet());
        zero("strikes", x -> x.strikes(1));
        zero("firstStrike", x -> x.firstStrike(1));
        zero("drawn", x -> x.drawn(1, 0, 0));
        zero("row", x -> x.row(0, 0));
        zero("rowGrows", x -> x.rowGrows(0, 0, 0));
        zero("way", x -> x.way(1));
        zero("harvest", x -> x.harvest(0, 1));
        zero("harvestNow", x -> x.harvestNow(0, 1));
        zero("reach", x -> x.reach());
        zero("live", x -> x.live(0));
        zero("lived", x -> x.lived(0));
        zero("mean", x -> x.mean(0, 0, 1));
        zero("mark", x -> x.mark());
        zero("back", x -> x.back());
    }
}

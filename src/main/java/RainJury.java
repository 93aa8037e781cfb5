/**
 * A court that tries each day's weather. Words in capitals in the comments
 * (JUROR, ROUND, VERDICT ..) are the Terms of the document.
 */
public final class RainJury {
    public static final int NONE = -1;

    // What bears a NAME; many() asks for them by these numbers too.
    private static final int JURORS = 0;
    private static final int PROOFS = 1;
    private static final int WEATHERS = 2;
    private static final int CROPS = 3;
    private static final int KINDS = 4;
    private static final int[] MOST_OF = {10, 6, 6, 4};
    private static final int MOST_JURORS = 10;
    private static final int MOST_PROOFS = 6;
    private static final int MOST_WEATHERS = 6;
    private static final int MOST_CROPS = 4;

    private static final int MOST_LEANING = 99;
    private static final int MOST_STUBBORN = 20;
    private static final int MOST_SWAY = 20;
    private static final int MOST_WEIGHT = 99;
    private static final int MOST_PRICE = 99;
    private static final int MOST_GROWTH = 99;
    private static final int MOST_HUNGER = 99;
    private static final int MOST_TALK = 99;
    private static final int MOST_LOOP = 99;
    private static final int MOST_COUNTED = 9999;
    private static final int MOST_AHEAD = 200;
    private static final int MOST_FEW_ROUNDS = 9;
    private static final int MOST_ORDER = 4;
    private static final int MOST_STRIKES = 3;
    private static final int MOST_HARVEST = 20;
    private static final int MOST_SEEDS = 20;
    private static final int MOST_MARKS = 3;

    private static final int MOST_TAPE = 900;
    private static final int MOST_WEEKS_TEXT = 300;
    private static final int MOST_STEPS = 30;
    private static final int MOST_ROWS = 60;
    private static final int MOST_DEPTH = 3;
    private static final int MOST_LIVED = 300;
    private static final int MOST_LETTERS = 8;
    private static final int MOST_DIGITS = 4;
    private static final int MOST_TURNS = 1000000;

    private static final int TRAYS = 4;
    private static final int SORTS = 4;
    private static final int MOST_IN_TRAY = 60;

    private static final int BY_MOST = 0;
    private static final int BY_ALL = 1;
    private static final int BY_TWO = 2;
    private static final int IS_GUILTY = 1;
    private static final int IS_HUNG = 0;
    private static final int IS_FREE = -1;

    private static final int NO_TRAY = 1;
    private static final int NO_SUCH = 2;
    private static final int IS_MISSING = 3;
    private static final int NO_PLACE = 4;
    private static final int BAD_NUMBER = 5;
    private static final int BELOW_ZERO = 6;
    private static final int TOO_MANY = 7;
    private static final int THERE_IS_NONE = 8;
    private static final int CANNOT_BE = 9;
    private static final int FAULTY = 10;
    private static final int UNLIKE = 11;

    private static final int NO_TOKEN = 1;
    private static final int NOT_THERE = 2;
    private static final int WRONG_NAME = 3;
    private static final int WRONG_NUMBER = 4;
    private static final int TOLD_ALREADY = 5;
    private static final int ONE_TOO_MANY = 6;
    private static final int TOO_DEEP = 7;

    private static final int TEXT_END = 0;
    private static final int WORD = 1;
    private static final int NUMBER = 2;
    private static final int SIGN = 3;
    private static final int BROKEN = 4;

    // The WORDS that are no NAMES; the numbers behind are their places in this row.
    private static final String RESERVED = "juror leans less stubborn price sways proof weather follows guilty free crop on hunger law most all two show talk verdict strike seat bribe mood when votes loop end stop ";
    private static final int RESERVED_WORDS = 30;
    private static final int JUROR = 0;
    private static final int LEANS = 1;
    private static final int LESS = 2;
    private static final int STUBBORN = 3;
    private static final int PRICE = 4;
    private static final int SWAYS = 5;
    private static final int PROOF = 6;
    private static final int WEATHER = 7;
    private static final int FOLLOWS = 8;
    private static final int GUILTY = 9;
    private static final int FREE = 10;
    private static final int CROP = 11;
    private static final int ON = 12;
    private static final int HUNGER = 13;
    private static final int LAW = 14;
    private static final int MOST = 15;
    private static final int ALL = 16;
    private static final int TWO = 17;
    private static final int SHOW = 18;
    private static final int TALK = 19;
    private static final int VERDICT = 20;
    private static final int STRIKE = 21;
    private static final int SEAT = 22;
    private static final int BRIBE = 23;
    private static final int MOOD = 24;
    private static final int WHEN = 25;
    private static final int VOTES = 26;
    private static final int LOOP = 27;
    private static final int END = 28;
    private static final int STOP = 29;

    private final Trays trays = new Trays();
    private final World world = new World();
    private final World[] marks = new World[MOST_MARKS];
    private final Court freshCourt = new Court();
    private final Weeks freshWeeks = new Weeks();
    private final Reader reader = new Reader();
    private final CourtReader courtReader = new CourtReader();
    private final WeeksReader weeksReader = new WeeksReader();
    private final Counsel counsel = new Counsel();
    private final Hall trial = new Hall();
    private final Life latestLife = new Life();
    private final Life trialLife = new Life();
    private boolean hasLived = false;
    private int markCount = 0;
    private int status = 0;
    private int faultKind = NONE;
    private int faultPlace = NONE;
    private long fractionTop = 0;
    private long fractionBottom = 1;

    public RainJury() {
        for (int i = 0; i < MOST_MARKS; i++) {
            marks[i] = new World();
        }
    }

    public int status() {
        return status;
    }

    public long top() {
        return fractionTop;
    }

    public long bottom() {
        return fractionBottom;
    }

    // ---- TRAYS

    public boolean tray(int tray, int sort, int many) {
        if (!isTray(tray) || sort < 0 || sort >= SORTS) {
            return refuse(NO_TRAY);
        }
        if (many > MOST_IN_TRAY) {
            return refuse(BAD_NUMBER);
        }
        if (many < 0) {
            return refuse(BELOW_ZERO);
        }
        trays.lay(tray, sort, many);
        return agree();
    }

    public boolean write(int tray, int place, long v) {
        int wrong = wrongPlace(tray, place);
        if (wrong != 0) {
            return refuse(wrong);
        }
        trays.put(tray, place, v);
        return agree();
    }

    public long read(int tray, int place) {
        int wrong = wrongPlace(tray, place);
        if (wrong != 0) {
            return none(wrong);
        }
        status = 0;
        return trays.rows[tray][place];
    }

    public boolean pour(int tray, int i, int to, int j, int many) {
        if (!isTray(tray) || !isTray(to)) {
            return refuse(NO_TRAY);
        }
        if (trays.isMissing(tray) || trays.isMissing(to)) {
            return refuse(IS_MISSING);
        }
        if (trays.sorts[tray] != trays.sorts[to]) {
            return refuse(UNLIKE);
        }
        if (many < 0) {
            return refuse(BELOW_ZERO);
        }
        if (!trays.holds(tray, i, many) || !trays.holds(to, j, many)) {
            return refuse(NO_PLACE);
        }
        System.arraycopy(trays.rows[tray], i, trays.rows[to], j, many);
        return agree();
    }

    // ---- texts

    public int feed(int a, int b, int c, int d, int e) {
        if (!reader.hasRoom(20)) {
            return NONE;
        }
        reader.append(a);
        reader.append(b);
        reader.append(c);
        reader.append(d);
        reader.append(e);
        return reader.fed;
    }

    public int court(int n) {
        if (n < 0 || n > reader.fed) {
            return none(BAD_NUMBER);
        }
        courtReader.readCourt(reader, n, freshCourt);
        reader.fed = 0;
        if (keepFault()) {
            return none(FAULTY);
        }
        world.court.copyFrom(freshCourt);
        world.hall.openCourt(world.court);
        world.weeks.clear();
        return answer(world.court.counts[JURORS]);
    }

    public int weeks(int n) {
        if (n < 0 || n > reader.fed || n > MOST_WEEKS_TEXT) {
            return none(BAD_NUMBER);
        }
        weeksReader.readWeeks(reader, n, world.court, freshWeeks);
        reader.fed = 0;
        if (keepFault()) {
            return none(FAULTY);
        }
        world.weeks.copyFrom(freshWeeks);
        return answer(world.weeks.steps);
    }

    public int fault(int what) {
        if (what == 0) {
            return faultKind;
        }
        return what == 1 ? faultPlace : NONE;
    }

    public int many(int what) {
        if (what < 0 || what > 11) {
            return none(BAD_NUMBER);
        }
        Court court = world.court;
        Hall hall = world.hall;
        switch (what) {
            case 4: return court.hunger == 0 ? none(THERE_IS_NONE) : answer(court.hunger);
            case 5: return answer(court.law);
            case 6: return answer(hall.day);
            case 7: return answer(hall.round);
            case 8: return hasNoWeather() ? none(THERE_IS_NONE) : answer(hall.weather);
            case 9: return answer(hall.coins);
            case 10: return answer(hall.seated);
            case 11: return answer(hall.shown);
            default: return answer(court.counts[what]);
        }
    }

    public int juror(int juror, int what) {
        if (isNo(JURORS, juror)) {
            return none(NO_SUCH);
        }
        switch (what) {
            case 0: return answer(world.hall.lean[juror]);
            case 1: return answer(world.court.told[juror]);
            case 2: return answer(world.court.stubborn[juror]);
            case 3: return answer(world.court.price[juror]);
            default: return none(BAD_NUMBER);
        }
    }

    public int sways(int a, int b) {
        if (isNo(JURORS, a) || isNo(JURORS, b)) {
            return none(NO_SUCH);
        }
        if (a == b) {
            return none(BAD_NUMBER);
        }
        return answer(world.court.swayOf(a, b));
    }

    public int proof(int proof) {
        if (isNo(PROOFS, proof)) {
            return none(NO_SUCH);
        }
        return answer(world.court.weight[proof]);
    }

    public int follows(int weather, int verdict) {
        if (isNo(WEATHERS, weather)) {
            return none(NO_SUCH);
        }
        if (isNoVerdict(verdict)) {
            return none(BAD_NUMBER);
        }
        return answer(world.court.weatherBehind(weather, verdict));
    }

    public int grows(int crop, int weather) {
        if (isNo(CROPS, crop) || isNo(WEATHERS, weather)) {
            return none(NO_SUCH);
        }
        return answer(world.court.growthOf(crop, weather));
    }

    public int crop(int crop) {
        if (isNo(CROPS, crop)) {
            return none(NO_SUCH);
        }
        return answer(world.hall.grown[crop]);
    }

    public int copyLeanings(int tray) {
        int jurors = world.court.counts[JURORS];
        int wrong = wrongRow(tray, jurors);
        if (wrong != 0) {
            return none(wrong);
        }
        for (int i = 0; i < jurors; i++) {
            trays.put(tray, i, world.hall.lean[i]);
        }
        return answer(jurors);
    }

    // ---- what is done

    public int show(int proof) {
        if (isNo(PROOFS, proof)) {
            return none(NO_SUCH);
        }
        if (world.hall.wasShown(proof)) {
            return none(CANNOT_BE);
        }
        return answer(world.hall.present(world.court, proof));
    }

    public int talk(int rounds) {
        if (rounds < 1 || rounds > MOST_TALK) {
            return none(BAD_NUMBER);
        }
        if (world.hall.round + rounds > MOST_COUNTED) {
            return none(TOO_MANY);
        }
        world.hall.talkOn(world.court, rounds);
        return answer(world.hall.ruling(world.court.law));
    }

    public int endDay() {
        if (world.hall.day >= MOST_COUNTED) {
            return none(TOO_MANY);
        }
        return answer(world.hall.closeDay(world.court));
    }

    public boolean strike(int juror) {
        if (isNo(JURORS, juror)) {
            return refuse(NO_SUCH);
        }
        if (!world.hall.isSeated(juror)) {
            return refuse(CANNOT_BE);
        }
        world.hall.unseat(juror);
        return agree();
    }

    public boolean seat(int juror) {
        if (isNo(JURORS, juror)) {
            return refuse(NO_SUCH);
        }
        if (world.hall.isSeated(juror)) {
            return refuse(CANNOT_BE);
        }
        world.hall.reseat(juror);
        return agree();
    }

    public int bribe(int juror, int side) {
        if (isNo(JURORS, juror)) {
            return none(NO_SUCH);
        }
        if (isNoSide(side)) {
            return none(BAD_NUMBER);
        }
        if (!world.hall.canPay(world.court, juror)) {
            return none(TOO_MANY);
        }
        if (!world.hall.isSeated(juror)) {
            return none(CANNOT_BE);
        }
        world.hall.buy(world.court, juror, side);
        return answer(world.hall.coins);
    }

    public boolean lean(int juror, int leaning) {
        if (isNo(JURORS, juror)) {
            return refuse(NO_SUCH);
        }
        if (leaning < -MOST_LEANING || leaning > MOST_LEANING) {
            return refuse(BAD_NUMBER);
        }
        world.hall.lean[juror] = leaning;
        return agree();
    }

    // ---- VOTES

    public int votes(int what) {
        if (what < 0 || what > 1) {
            return none(BAD_NUMBER);
        }
        int guilty = world.hall.guiltyVotes();
        return answer(what == 0 ? guilty : world.hall.seatedCount() - guilty);
    }

    public int verdict() {
        return answer(world.hall.ruling(world.court.law));
    }

    public int verdictBy(int law) {
        if (law < BY_MOST || law > BY_TWO) {
            return none(BAD_NUMBER);
        }
        return answer(world.hall.ruling(law));
    }

    public int swing() {
        Hall hall = world.hall;
        int law = world.court.law;
        int guilty = hall.guiltyVotes();
        int free = hall.seatedCount() - guilty;
        int now = rule(law, guilty, free);
        int set = 0;
        for (int i = 0; i < world.court.counts[JURORS]; i++) {
            if (hall.isSeated(i)) {
                boolean votesGuilty = hall.lean[i] > 0;
                int without = votesGuilty ? rule(law, guilty - 1, free) : rule(law, guilty, free - 1);
                if (without != now) {
                    set |= 1 << i;
                }
            }
        }
        return answer(set);
    }

    public int lacks() {
        int seated = world.hall.seatedCount();
        if (seated == 0) {
            return none(THERE_IS_NONE);
        }
        int guilty = world.hall.guiltyVotes();
        int more = 0;
        while (guilty + more < seated && rule(world.court.law, guilty + more, seated - guilty - more) != IS_GUILTY) {
            more++;
        }
        return answer(more);
    }

    public int nearest() {
        int nearest = NONE;
        int least = 0;
        for (int i = 0; i < world.court.counts[JURORS]; i++) {
            if (world.hall.isSeated(i)) {
                int leaning = world.hall.lean[i];
                int way = leaning > 0 ? leaning : 1 - leaning;
                if (nearest == NONE || way < least) {
                    nearest = i;
                    least = way;
                }
            }
        }
        return nearest == NONE ? none(THERE_IS_NONE) : answer(nearest);
    }

    public int pull(int juror) {
        if (isNo(JURORS, juror)) {
            return none(NO_SUCH);
        }
        if (!world.hall.isSeated(juror)) {
            return none(CANNOT_BE);
        }
        // The turn is played, as what goes beyond 99 or -99 is cut there too.
        trial.copyFrom(world.hall);
        trial.shift(juror, trial.pullOn(world.court, juror));
        return answer(trial.lean[juror] - world.hall.lean[juror]);
    }

    public int behind(int juror) {
        if (isNo(JURORS, juror)) {
            return none(NO_SUCH);
        }
        return answer(world.court.allBehind(juror));
    }

    public int settles(int what) {
        if (what < 0 || what > 1) {
            return none(BAD_NUMBER);
        }
        trial.copyFrom(world.hall);
        if (!counsel.settle(world.court, trial)) {
            return none(THERE_IS_NONE);
        }
        return answer(what == 0 ? counsel.lead : counsel.cycle);
    }

    public int after(int rounds) {
        if (rounds < 0 || rounds > MOST_AHEAD) {
            return none(BAD_NUMBER);
        }
        trial.copyFrom(world.hall);
        trial.talkOn(world.court, rounds);
        return answer(trial.ruling(world.court.law));
    }

    public int soonest(int verdict) {
        if (isNoVerdict(verdict)) {
            return none(BAD_NUMBER);
        }
        trial.copyFrom(world.hall);
        for (int rounds = 0; rounds <= MOST_AHEAD; rounds++) {
            if (trial.ruling(world.court.law) == verdict) {
                return answer(rounds);
            }
            trial.talkOn(world.court, 1);
        }
        return none(THERE_IS_NONE);
    }

    // ---- the best there is

    public int bestOrder(int verdict) {
        if (isNoVerdict(verdict)) {
            return none(BAD_NUMBER);
        }
        if (!counsel.findOrder(world.court, world.hall, verdict)) {
            return none(THERE_IS_NONE);
        }
        return answer(counsel.orderLength);
    }

    public int orderAt(int k) {
        if (k < 0 || k >= counsel.orderLength) {
            return none(THERE_IS_NONE);
        }
        return answer(counsel.order[k]);
    }

    public int bribes(int verdict, int side, int rounds) {
        if (isNoVerdict(verdict) || isNoSide(side) || isNoFewRounds(rounds)) {
            return none(BAD_NUMBER);
        }
        int set = cheapestSet(verdict, side, rounds);
        if (set == NONE) {
            return none(THERE_IS_NONE);
        }
        counsel.bribed = set;
        return answer(world.court.priceOf(set));
    }

    public int bribeSet() {
        return counsel.bribed == NONE ? none(THERE_IS_NONE) : answer(counsel.bribed);
    }

    public int strikes(int n) {
        int wrong = wrongStrikes(n);
        if (wrong != 0) {
            return none(wrong);
        }
        int guilty = world.hall.guiltyVotes();
        return answer(bestPlay(world.court.law, guilty, world.hall.seatedCount() - guilty, 2 * n));
    }

    public int firstStrike(int n) {
        int wrong = wrongStrikes(n);
        if (wrong != 0) {
            return none(wrong);
        }
        return answer(firstOfBest(2 * n));
    }

    public boolean drawn(int n, int rounds, int verdict) {
        int jurors = world.court.counts[JURORS];
        if (n < 1 || n > jurors || isNoFewRounds(rounds) || isNoVerdict(verdict)) {
            return refuse(BAD_NUMBER);
        }
        int sets = 0;
        int met = 0;
        for (int set = 1; set < 1 << jurors; set++) {
            if (Integer.bitCount(set) == n) {
                sets++;
                trial.openDay(world.court);
                trial.seated = set;
                trial.talkOn(world.court, rounds);
                if (trial.ruling(world.court.law) == verdict) {
                    met++;
                }
            }
        }
        tellFraction(met, sets);
        return agree();
    }

    // ---- WEATHERS

    public int row(int tray, int n) {
        int wrong = wrongVerdicts(tray, n);
        if (wrong != 0) {
            return none(wrong);
        }
        int weather = world.hall.weather;
        for (int i = 0; i < n; i++) {
            weather = world.court.weatherBehind(weather, (int) trays.rows[tray][i]);
        }
        return answer(weather);
    }

    public int rowGrows(int tray, int n, int crop) {
        int wrong = wrongVerdicts(tray, n);
        if (wrong != 0) {
            return none(wrong);
        }
        if (isNo(CROPS, crop)) {
            return none(NO_SUCH);
        }
        int weather = world.hall.weather;
        int grown = 0;
        for (int i = 0; i < n; i++) {
            grown += world.court.growthOf(crop, weather);
            weather = world.court.weatherBehind(weather, (int) trays.rows[tray][i]);
        }
        return answer(grown);
    }

    public int way(int weather) {
        if (isNo(WEATHERS, weather)) {
            return none(NO_SUCH);
        }
        int reached = 1 << world.hall.weather;
        for (int days = 0; days < MOST_WEATHERS; days++) {
            if ((reached >> weather & 1) != 0) {
                return answer(days);
            }
            reached = world.court.dayMore(reached);
        }
        return none(THERE_IS_NONE);
    }

    public int harvest(int crop, int days) {
        int wrong = wrongHarvest(crop, days);
        if (wrong != 0) {
            return none(wrong);
        }
        counsel.reap(world.court, crop, days);
        return answer(counsel.most[world.hall.weather]);
    }

    public int harvestNow(int crop, int days) {
        int wrong = wrongHarvest(crop, days);
        if (wrong != 0) {
            return none(wrong);
        }
        counsel.reap(world.court, crop, days - 1);
        return answer(counsel.bestVerdict(world.court, world.hall.weather));
    }

    public int reach() {
        if (hasNoWeather()) {
            return answer(0);
        }
        int reached = 1 << world.hall.weather;
        for (int days = 0; days < MOST_WEATHERS; days++) {
            reached = world.court.dayMore(reached);
        }
        return answer(reached);
    }

    // ---- WEEKS

    public int live(int seed) {
        if (isNoSeed(seed)) {
            return none(BAD_NUMBER);
        }
        if (!world.weeks.there) {
            return none(THERE_IS_NONE);
        }
        latestLife.run(world, world.hall, seed);
        hasLived = true;
        return answer(latestLife.steps);
    }

    public int lived(int what) {
        if (what < 0 || what > 4) {
            return none(BAD_NUMBER);
        }
        if (!hasLived) {
            return none(THERE_IS_NONE);
        }
        switch (what) {
            case 0: return answer(latestLife.missed);
            case 1: return answer(latestLife.days);
            case 2: return answer(latestLife.guiltyDays);
            case 3: return answer(latestLife.hungDays);
            default: return answer(latestLife.unfinished ? 1 : 0);
        }
    }

    public boolean mean(int crop, int seed, int many) {
        if (isNo(CROPS, crop)) {
            return refuse(NO_SUCH);
        }
        if (many < 1 || many > MOST_SEEDS || isNoSeed(seed) || isNoSeed(seed + many - 1)) {
            return refuse(BAD_NUMBER);
        }
        if (!world.weeks.there) {
            return refuse(THERE_IS_NONE);
        }
        long sum = 0;
        for (int i = 0; i < many; i++) {
            trial.copyFrom(world.hall);
            trialLife.run(world, trial, seed + i);
            sum += trial.grown[crop];
        }
        tellFraction(sum, many);
        return agree();
    }

    // ---- MARKS

    public int mark() {
        if (markCount >= MOST_MARKS) {
            return none(TOO_MANY);
        }
        marks[markCount].copyFrom(world);
        markCount++;
        return answer(markCount);
    }

    public int back() {
        if (markCount <= 0) {
            return none(THERE_IS_NONE);
        }
        markCount--;
        world.copyFrom(marks[markCount]);
        return answer(markCount);
    }

    // ---- what answers are made of

    private int answer(int value) {
        status = 0;
        return value;
    }

    private boolean agree() {
        status = 0;
        return true;
    }

    private int none(int why) {
        status = why;
        return NONE;
    }

    private boolean refuse(int why) {
        status = why;
        return false;
    }

    private void tellFraction(long over, long under) {
        long common = commonDivisor(Math.abs(over), under);
        if (common > 0) {
            fractionTop = over / common;
            fractionBottom = under / common;
        }
    }

    private static long commonDivisor(long a, long b) {
        long greater = a;
        long less = b;
        for (int i = 0; i < 100 && less > 0; i++) {
            long rest = greater % less;
            greater = less;
            less = rest;
        }
        return greater;
    }

    private boolean keepFault() {
        faultKind = reader.fault;
        faultPlace = reader.fault == 0 ? NONE : reader.faultPlace;
        return faultKind != 0;
    }

    // ---- what can't be

    private static boolean isTray(int tray) {
        return tray >= 0 && tray < TRAYS;
    }

    private boolean isNo(int kind, int number) {
        return number < 0 || number >= world.court.counts[kind];
    }

    private boolean hasNoWeather() {
        return world.court.counts[WEATHERS] == 0;
    }

    private static boolean isNoVerdict(long verdict) {
        return verdict < IS_FREE || verdict > IS_GUILTY;
    }

    private static boolean isNoSide(int side) {
        return side != 1 && side != -1;
    }

    private static boolean isNoFewRounds(int rounds) {
        return rounds < 0 || rounds > MOST_FEW_ROUNDS;
    }

    private static boolean isNoSeed(int seed) {
        return seed < 0 || seed > MOST_COUNTED;
    }

    private int wrongTray(int tray) {
        if (!isTray(tray)) {
            return NO_TRAY;
        }
        return trays.isMissing(tray) ? IS_MISSING : 0;
    }

    private int wrongPlace(int tray, int place) {
        int wrong = wrongTray(tray);
        if (wrong != 0) {
            return wrong;
        }
        return trays.holds(tray, place, 1) ? 0 : NO_PLACE;
    }

    private int wrongRow(int tray, int many) {
        int wrong = wrongTray(tray);
        if (wrong != 0) {
            return wrong;
        }
        return many > trays.lengths[tray] ? NO_PLACE : 0;
    }

    private int wrongVerdicts(int tray, int n) {
        int wrong = wrongRow(tray, n);
        if (wrong != 0) {
            return wrong;
        }
        if (n < 0) {
            return BAD_NUMBER;
        }
        for (int i = 0; i < n; i++) {
            if (isNoVerdict(trays.rows[tray][i])) {
                return BAD_NUMBER;
            }
        }
        return hasNoWeather() ? THERE_IS_NONE : 0;
    }

    private int wrongStrikes(int n) {
        if (n < 1 || n > MOST_STRIKES) {
            return BAD_NUMBER;
        }
        return world.hall.seatedCount() < 2 * n ? CANNOT_BE : 0;
    }

    private int wrongHarvest(int crop, int days) {
        if (isNo(CROPS, crop)) {
            return NO_SUCH;
        }
        if (days < 1 || days > MOST_HARVEST) {
            return BAD_NUMBER;
        }
        return hasNoWeather() ? THERE_IS_NONE : 0;
    }

    // ---- VERDICTS, bribes and strikes

    private static int rule(int law, int guilty, int free) {
        int all = guilty + free;
        if (all == 0) {
            return IS_HUNG;
        }
        if (law == BY_MOST) {
            return 2 * guilty > all ? IS_GUILTY : IS_FREE;
        }
        if (law == BY_ALL) {
            return guilty == all ? IS_GUILTY : free == all ? IS_FREE : IS_HUNG;
        }
        return 3 * guilty >= 2 * all ? IS_GUILTY : 3 * free >= 2 * all ? IS_FREE : IS_HUNG;
    }

    private int cheapestSet(int verdict, int side, int rounds) {
        Court court = world.court;
        int seated = world.hall.seated;
        int best = NONE;
        int leastCoins = 0;
        for (int set = 0; set < 1 << court.counts[JURORS]; set++) {
            if ((set & seated) == set) {
                int coins = court.priceOf(set);
                if ((best == NONE || coins < leastCoins) && wins(set, verdict, side, rounds)) {
                    best = set;
                    leastCoins = coins;
                }
            }
        }
        return best;
    }

    private boolean wins(int set, int verdict, int side, int rounds) {
        trial.copyFrom(world.hall);
        for (int i = 0; i < MOST_JURORS; i++) {
            if ((set >> i & 1) != 0) {
                trial.lean[i] = side * MOST_LEANING;
            }
        }
        trial.talkOn(world.court, rounds);
        return trial.ruling(world.court.law) == verdict;
    }

    /** Strikes matter by how the struck one votes alone, so the game is played over counts. */
    private static int bestPlay(int law, int guilty, int free, int strikesLeft) {
        if (strikesLeft <= 0 || guilty + free <= 0) {
            return rule(law, guilty, free);
        }
        if (guilty == 0) {
            return bestPlay(law, 0, free - 1, strikesLeft - 1);
        }
        if (free == 0) {
            return bestPlay(law, guilty - 1, 0, strikesLeft - 1);
        }
        int withoutGuilty = bestPlay(law, guilty - 1, free, strikesLeft - 1);
        int withoutFree = bestPlay(law, guilty, free - 1, strikesLeft - 1);
        // An even number is left whenever it is the turn of FREE's side, which begins.
        boolean freeStrikes = strikesLeft % 2 == 0;
        return freeStrikes ? Math.min(withoutGuilty, withoutFree) : Math.max(withoutGuilty, withoutFree);
    }

    private int firstOfBest(int strikesLeft) {
        Hall hall = world.hall;
        int law = world.court.law;
        int guilty = hall.guiltyVotes();
        int free = hall.seatedCount() - guilty;
        int best = bestPlay(law, guilty, free, strikesLeft);
        for (int i = 0; i < world.court.counts[JURORS]; i++) {
            if (hall.isSeated(i)) {
                int struckGuilty = hall.lean[i] > 0 ? 1 : 0;
                if (bestPlay(law, guilty - struckGuilty, free - 1 + struckGuilty, strikesLeft - 1) == best) {
                    return i;
                }
            }
        }
        return NONE;
    }

    /** The four TRAYS; a MISSING one has a length below 0. */
    private static final class Trays {
        final long[][] rows = new long[TRAYS][MOST_IN_TRAY];
        final int[] lengths = {-1, -1, -1, -1};
        final int[] sorts = new int[TRAYS];

        boolean isMissing(int tray) {
            return lengths[tray] < 0;
        }

        boolean holds(int tray, int place, int count) {
            return place >= 0 && count <= lengths[tray] && place <= lengths[tray] - count;
        }

        void lay(int tray, int sort, int length) {
            lengths[tray] = length;
            sorts[tray] = sort;
            for (int i = 0; i < length; i++) {
                rows[tray][i] = 0;
            }
        }

        void put(int tray, int place, long v) {
            switch (sorts[tray]) {
                case 0: rows[tray][place] = (byte) v; break;
                case 1: rows[tray][place] = (short) v; break;
                case 2: rows[tray][place] = (int) v; break;
                default: rows[tray][place] = v; break;
            }
        }
    }

    /** A COURT as its text tells it; nothing of it changes by what is done in it. */
    private static final class Court {
        final int[] counts = new int[KINDS];
        final long[] names = new long[KINDS * MOST_JURORS];
        final int[] told = new int[MOST_JURORS];
        final int[] stubborn = new int[MOST_JURORS];
        final int[] price = new int[MOST_JURORS];
        // By the swayed one first, as a ROUND asks for all that sway one JUROR.
        final int[] swayed = new int[MOST_JURORS * MOST_JURORS];
        // The sets of those that sway one by more than 0, so that a ROUND can pass over all others.
        final int[] swayers = new int[MOST_JURORS];
        final int[] weight = new int[MOST_PROOFS];
        final int[] ifGuilty = new int[MOST_WEATHERS];
        final int[] ifFree = new int[MOST_WEATHERS];
        final int[] growth = new int[MOST_CROPS * MOST_WEATHERS];
        int hunger = 0;
        int law = BY_MOST;

        void clear() {
            for (int i = 0; i < KINDS; i++) {
                counts[i] = 0;
            }
            for (int i = 0; i < swayed.length; i++) {
                swayed[i] = 0;
            }
            for (int i = 0; i < swayers.length; i++) {
                swayers[i] = 0;
            }
            for (int i = 0; i < growth.length; i++) {
                growth[i] = 0;
            }
            hunger = 0;
            law = BY_MOST;
        }

        void copyFrom(Court other) {
            System.arraycopy(other.counts, 0, counts, 0, counts.length);
            System.arraycopy(other.names, 0, names, 0, names.length);
            System.arraycopy(other.told, 0, told, 0, told.length);
            System.arraycopy(other.stubborn, 0, stubborn, 0, stubborn.length);
            System.arraycopy(other.price, 0, price, 0, price.length);
            System.arraycopy(other.swayed, 0, swayed, 0, swayed.length);
            System.arraycopy(other.swayers, 0, swayers, 0, swayers.length);
            System.arraycopy(other.weight, 0, weight, 0, weight.length);
            System.arraycopy(other.ifGuilty, 0, ifGuilty, 0, ifGuilty.length);
            System.arraycopy(other.ifFree, 0, ifFree, 0, ifFree.length);
            System.arraycopy(other.growth, 0, growth, 0, growth.length);
            hunger = other.hunger;
            law = other.law;
        }

        int find(int kind, long name) {
            for (int i = 0; i < counts[kind]; i++) {
                if (names[kind * MOST_JURORS + i] == name) {
                    return i;
                }
            }
            return NONE;
        }

        boolean isTaken(long name) {
            for (int kind = 0; kind < KINDS; kind++) {
                if (find(kind, name) != NONE) {
                    return true;
                }
            }
            return false;
        }

        boolean isFull(int kind) {
            return counts[kind] >= MOST_OF[kind];
        }

        int addThing(int kind, long name) {
            int number = counts[kind];
            names[kind * MOST_JURORS + number] = name;
            counts[kind]++;
            return number;
        }

        int swayOf(int swaying, int juror) {
            return swayed[juror * MOST_JURORS + swaying];
        }

        void setSway(int swaying, int juror, int by) {
            swayed[juror * MOST_JURORS + swaying] = by;
            int one = 1 << swaying;
            swayers[juror] = by > 0 ? swayers[juror] | one : swayers[juror] & ~one;
        }

        int growthOf(int crop, int weather) {
            return growth[crop * MOST_WEATHERS + weather];
        }

        void setGrowth(int crop, int weather, int by) {
            growth[crop * MOST_WEATHERS + weather] = by;
        }

        int weatherBehind(int weather, int verdict) {
            if (verdict == IS_HUNG) {
                return weather;
            }
            return verdict == IS_GUILTY ? ifGuilty[weather] : ifFree[weather];
        }

        int dayMore(int reached) {
            int more = reached;
            for (int i = 0; i < counts[WEATHERS]; i++) {
                if ((reached >> i & 1) != 0) {
                    more |= 1 << ifGuilty[i] | 1 << ifFree[i];
                }
            }
            return more;
        }

        int allBehind(int juror) {
            int found = 1 << juror;
            for (int pass = 0; pass < counts[JURORS]; pass++) {
                for (int i = 0; i < counts[JURORS]; i++) {
                    if ((found >> i & 1) != 0) {
                        found |= swayers[i];
                    }
                }
            }
            return found & ~(1 << juror);
        }

        int priceOf(int set) {
            int coins = 0;
            for (int i = 0; i < counts[JURORS]; i++) {
                if ((set >> i & 1) != 0) {
                    coins += price[i];
                }
            }
            return coins;
        }
    }

    /** What became of a COURT: who is SEATED and leans how, and all that days add up to. */
    private static final class Hall {
        final int[] lean = new int[MOST_JURORS];
        final int[] grown = new int[MOST_CROPS];
        int seated = 0;
        int shown = 0;
        int round = 0;
        int day = 0;
        int weather = 0;
        int coins = 0;

        void copyFrom(Hall other) {
            System.arraycopy(other.lean, 0, lean, 0, lean.length);
            System.arraycopy(other.grown, 0, grown, 0, grown.length);
            seated = other.seated;
            shown = other.shown;
            round = other.round;
            day = other.day;
            weather = other.weather;
            coins = other.coins;
        }

        void openCourt(Court court) {
            for (int i = 0; i < grown.length; i++) {
                grown[i] = 0;
            }
            day = 0;
            weather = 0;
            coins = 0;
            openDay(court);
        }

        void openDay(Court court) {
            int jurors = court.counts[JURORS];
            for (int i = 0; i < jurors; i++) {
                lean[i] = court.told[i];
            }
            seated = (1 << jurors) - 1;
            shown = 0;
            round = 0;
        }

        int closeDay(Court court) {
            int verdict = ruling(court.law);
            if (court.counts[WEATHERS] > 0) {
                for (int i = 0; i < court.counts[CROPS]; i++) {
                    grown[i] += court.growthOf(i, weather);
                }
                weather = court.weatherBehind(weather, verdict);
            }
            day++;
            openDay(court);
            return verdict;
        }

        boolean isSeated(int juror) {
            return (seated >> juror & 1) != 0;
        }

        void unseat(int juror) {
            seated &= ~(1 << juror);
        }

        void reseat(int juror) {
            seated |= 1 << juror;
        }

        int seatedCount() {
            return Integer.bitCount(seated);
        }

        int guiltyVotes() {
            int guilty = 0;
            for (int i = 0; i < MOST_JURORS && seated >> i != 0; i++) {
                if ((seated >> i & 1) != 0 && lean[i] > 0) {
                    guilty++;
                }
            }
            return guilty;
        }

        int ruling(int law) {
            int guilty = guiltyVotes();
            return rule(law, guilty, seatedCount() - guilty);
        }

        boolean canPay(Court court, int juror) {
            return coins + court.price[juror] <= MOST_COUNTED;
        }

        void buy(Court court, int juror, int side) {
            coins += court.price[juror];
            lean[juror] = side * MOST_LEANING;
        }

        boolean wasShown(int proof) {
            return (shown >> proof & 1) != 0;
        }

        /** Says how many lean otherwise then. */
        int present(Court court, int proof) {
            int weight = court.weight[proof];
            int moved = 0;
            for (int i = 0; i < court.counts[JURORS]; i++) {
                if (isSeated(i)) {
                    int left = Math.max(0, Math.abs(weight) - court.stubborn[i]);
                    moved += shift(i, weight < 0 ? -left : left);
                }
            }
            shown |= 1 << proof;
            return moved;
        }

        /** Says 1 if it leans otherwise then, else 0. */
        int shift(int juror, int by) {
            int old = lean[juror];
            int moved = old + by;
            if (moved > MOST_LEANING) {
                moved = MOST_LEANING;
            } else if (moved < -MOST_LEANING) {
                moved = -MOST_LEANING;
            }
            lean[juror] = moved;
            return moved == old ? 0 : 1;
        }

        int pullOn(Court court, int juror) {
            int swaying = court.swayers[juror] & seated;
            int together = 0;
            for (int i = 0; i < MOST_JURORS && swaying >> i != 0; i++) {
                if ((swaying >> i & 1) != 0) {
                    int by = court.swayed[juror * MOST_JURORS + i];
                    together += lean[i] > 0 ? by : lean[i] < 0 ? -by : 0;
                }
            }
            return Math.abs(together) > court.stubborn[juror] ? together : 0;
        }

        void talkOn(Court court, int rounds) {
            boolean hungers = court.hunger > 0;
            for (int i = 0; i < rounds; i++) {
                int moved = talkRound(court, hungers);
                // Where nobody moved, nobody will, unless HUNGER is still to come.
                if (moved == 0 && (!hungers || round >= court.hunger)) {
                    round += rounds - 1 - i;
                    return;
                }
            }
        }

        /** Says how many moves there were. */
        int talkRound(Court court, boolean hungers) {
            int moved = 0;
            for (int i = 0; i < court.counts[JURORS]; i++) {
                if (isSeated(i)) {
                    moved += shift(i, pullOn(court, i));
                }
            }
            round++;
            if (hungers && round >= court.hunger) {
                moved += goHungry(court);
            }
            return moved;
        }

        private int goHungry(Court court) {
            int guilty = guiltyVotes();
            int side = Integer.compare(2 * guilty, seatedCount());
            int moved = 0;
            for (int i = 0; i < court.counts[JURORS]; i++) {
                if (isSeated(i)) {
                    moved += shift(i, side);
                }
            }
            return moved;
        }
    }

    /** WEEKS as rows, one for each STEP and one for each end. */
    private static final class Weeks {
        final int[] deed = new int[MOST_ROWS];
        // Of a when the WORD behind it, of others what is named or how many.
        final int[] what = new int[MOST_ROWS];
        final int[] thing = new int[MOST_ROWS];
        final int[] sign = new int[MOST_ROWS];
        final int[] number = new int[MOST_ROWS];
        // Of a when and a loop the row of its end; of an end the row where it begins.
        final int[] mate = new int[MOST_ROWS];
        int length = 0;
        int steps = 0;
        boolean there = false;

        void clear() {
            length = 0;
            steps = 0;
            there = false;
        }

        void copyFrom(Weeks other) {
            System.arraycopy(other.deed, 0, deed, 0, deed.length);
            System.arraycopy(other.what, 0, what, 0, what.length);
            System.arraycopy(other.thing, 0, thing, 0, thing.length);
            System.arraycopy(other.sign, 0, sign, 0, sign.length);
            System.arraycopy(other.number, 0, number, 0, number.length);
            System.arraycopy(other.mate, 0, mate, 0, mate.length);
            length = other.length;
            steps = other.steps;
            there = other.there;
        }

        int addRow(int word) {
            int row = length;
            deed[row] = word;
            what[row] = 0;
            thing[row] = 0;
            sign[row] = 0;
            number[row] = 0;
            mate[row] = 0;
            length++;
            return row;
        }
    }

    /** All that a MARK keeps. */
    private static final class World {
        final Court court = new Court();
        final Hall hall = new Hall();
        final Weeks weeks = new Weeks();

        void copyFrom(World other) {
            court.copyFrom(other.court);
            hall.copyFrom(other.hall);
            weeks.copyFrom(other.weeks);
        }
    }

    /** The tape, and the TOKENS of a text on it, one at a time; the first FAULT stays. */
    private static final class Reader {
        final byte[] tape = new byte[MOST_TAPE];
        final long[] reserved = new long[RESERVED_WORDS];
        int fed = 0;
        int length = 0;
        int next = 0;
        int start = 0;
        int kind = TEXT_END;
        // Of a WORD its number among the RESERVED ones, or NONE; of others what they are.
        int value = NONE;
        // Of a WORD of 8 letters at most its letters, 5 bits each; else 0.
        long letters = 0;
        int taken = 0;
        int fault = 0;
        int faultPlace = NONE;

        Reader() {
            int word = 0;
            long packed = 0;
            for (int i = 0; i < RESERVED.length() && word < RESERVED_WORDS; i++) {
                char sign = RESERVED.charAt(i);
                if (sign == ' ') {
                    reserved[word] = packed;
                    word++;
                    packed = 0;
                } else {
                    packed = packed * 32 + (sign - 'a' + 1);
                }
            }
        }

        boolean hasRoom(int bytes) {
            return fed + bytes <= MOST_TAPE;
        }

        void append(int four) {
            for (int shift = 24; shift >= 0 && fed < MOST_TAPE; shift -= 8) {
                tape[fed] = (byte) (four >> shift);
                fed++;
            }
        }

        void begin(int textLength) {
            length = textLength;
            next = 0;
            fault = 0;
            faultPlace = NONE;
            advance();
        }

        void advance() {
            while (next < length && (tape[next] == ' ' || tape[next] == '\n')) {
                next++;
            }
            start = next;
            value = NONE;
            letters = 0;
            if (start >= length) {
                kind = TEXT_END;
            } else if (tape[start] >= 'a' && tape[start] <= 'z') {
                lookAtWord();
            } else if (tape[start] >= '0' && tape[start] <= '9') {
                lookAtNumber();
            } else {
                lookAtSign();
            }
        }

        private void lookAtWord() {
            kind = WORD;
            while (next < length && tape[next] >= 'a' && tape[next] <= 'z') {
                if (next - start < MOST_LETTERS) {
                    letters = letters * 32 + (tape[next] - 'a' + 1);
                }
                next++;
            }
            if (next - start > MOST_LETTERS) {
                letters = 0;
            }
            for (int i = 0; i < RESERVED_WORDS && value == NONE; i++) {
                if (reserved[i] == letters) {
                    value = i;
                }
            }
        }

        private void lookAtNumber() {
            kind = NUMBER;
            value = 0;
            while (next < length && tape[next] >= '0' && tape[next] <= '9') {
                if (next - start < MOST_DIGITS) {
                    value = value * 10 + (tape[next] - '0');
                }
                next++;
            }
            if (next - start > MOST_DIGITS) {
                kind = BROKEN;
            }
        }

        private void lookAtSign() {
            int sign = tape[start];
            kind = sign == ';' || sign == '<' || sign == '>' || sign == '=' ? SIGN : BROKEN;
            value = sign;
            next++;
        }

        /** Tells a FAULT at this TOKEN; one that is no TOKEN at all has the least kind. */
        boolean fail(int why) {
            if (fault == 0) {
                fault = kind == BROKEN ? NO_TOKEN : why;
                faultPlace = start;
            }
            return false;
        }

        int word() {
            return kind == WORD ? value : NONE;
        }

        boolean isName() {
            return kind == WORD && value == NONE && letters != 0;
        }

        boolean takeWord(int word) {
            if (word() != word) {
                return false;
            }
            advance();
            return true;
        }

        boolean needWord(int word) {
            return takeWord(word) || fail(NOT_THERE);
        }

        boolean needStop() {
            if (kind != SIGN || value != ';') {
                return fail(NOT_THERE);
            }
            advance();
            return true;
        }

        boolean needCompares() {
            if (kind != SIGN || value == ';') {
                return fail(NOT_THERE);
            }
            taken = value;
            advance();
            return true;
        }

        boolean needNumber(int least, int most) {
            if (kind != NUMBER) {
                return fail(NOT_THERE);
            }
            if (value < least || value > most) {
                return fail(WRONG_NUMBER);
            }
            taken = value;
            advance();
            return true;
        }

        boolean needEither(int most) {
            boolean less = takeWord(LESS);
            if (!needNumber(0, most)) {
                return false;
            }
            taken = less ? -taken : taken;
            return true;
        }

        /** Leaves the number of what is named, which is told ahead, and stays at the NAME. */
        boolean seeKnown(Court court, int thingKind) {
            if (!isName()) {
                return fail(NOT_THERE);
            }
            taken = court.find(thingKind, letters);
            return taken != NONE || fail(WRONG_NAME);
        }

        boolean needKnown(Court court, int thingKind) {
            if (!seeKnown(court, thingKind)) {
                return false;
            }
            advance();
            return true;
        }
    }

    /** Reads the PARTS of a COURT. */
    private static final class CourtReader {
        private boolean lawTold = false;

        void readCourt(Reader text, int length, Court court) {
            court.clear();
            lawTold = false;
            text.begin(length);
            for (int i = 0; i <= length && text.fault == 0 && text.kind != TEXT_END; i++) {
                if (readPart(text, court)) {
                    text.needStop();
                }
            }
        }

        private boolean readPart(Reader text, Court court) {
            switch (text.word()) {
                case JUROR: return needNew(text, court, JURORS) && readJuror(text, court);
                case SWAYS: return readSways(text, court);
                case PROOF: return needNew(text, court, PROOFS) && readProof(text, court);
                case WEATHER: return needNew(text, court, WEATHERS) && startWeather(court);
                case FOLLOWS: return readFollows(text, court);
                case CROP: return needNew(text, court, CROPS) && readCrop(text, court);
                case HUNGER: return readHunger(text, court);
                case LAW: return readLaw(text, court);
                default: return text.fail(NOT_THERE);
            }
        }

        private boolean needNew(Reader text, Court court, int kind) {
            if (court.isFull(kind)) {
                return text.fail(ONE_TOO_MANY);
            }
            text.advance();
            if (!text.isName()) {
                return text.fail(NOT_THERE);
            }
            if (court.isTaken(text.letters)) {
                return text.fail(WRONG_NAME);
            }
            text.taken = court.addThing(kind, text.letters);
            text.advance();
            return true;
        }

        private boolean readJuror(Reader text, Court court) {
            int juror = text.taken;
            court.told[juror] = 0;
            court.stubborn[juror] = 0;
            court.price[juror] = 0;
            if (text.takeWord(LEANS)) {
                if (!text.needEither(MOST_LEANING)) {
                    return false;
                }
                court.told[juror] = text.taken;
            }
            if (text.takeWord(STUBBORN)) {
                if (!text.needNumber(0, MOST_STUBBORN)) {
                    return false;
                }
                court.stubborn[juror] = text.taken;
            }
            if (text.takeWord(PRICE)) {
                if (!text.needNumber(0, MOST_PRICE)) {
                    return false;
                }
                court.price[juror] = text.taken;
            }
            return true;
        }

        private boolean readSways(Reader text, Court court) {
            text.advance();
            if (!text.needKnown(court, JURORS)) {
                return false;
            }
            int swaying = text.taken;
            if (!text.seeKnown(court, JURORS)) {
                return false;
            }
            int swayed = text.taken;
            if (swaying == swayed) {
                return text.fail(TOLD_ALREADY);
            }
            text.advance();
            if (!text.needNumber(0, MOST_SWAY)) {
                return false;
            }
            court.setSway(swaying, swayed, text.taken);
            return true;
        }

        private boolean readProof(Reader text, Court court) {
            int proof = text.taken;
            if (!text.needEither(MOST_WEIGHT)) {
                return false;
            }
            court.weight[proof] = text.taken;
            return true;
        }

        private boolean startWeather(Court court) {
            int weather = court.counts[WEATHERS] - 1;
            court.ifGuilty[weather] = weather;
            court.ifFree[weather] = weather;
            return true;
        }

        private boolean readFollows(Reader text, Court court) {
            text.advance();
            if (!text.needKnown(court, WEATHERS)) {
                return false;
            }
            int weather = text.taken;
            if (!text.needWord(GUILTY) || !text.needKnown(court, WEATHERS)) {
                return false;
            }
            int behindGuilty = text.taken;
            if (!text.needWord(FREE) || !text.needKnown(court, WEATHERS)) {
                return false;
            }
            court.ifGuilty[weather] = behindGuilty;
            court.ifFree[weather] = text.taken;
            return true;
        }

        private boolean readCrop(Reader text, Court court) {
            int crop = text.taken;
            for (int i = 0; i <= text.length && text.takeWord(ON); i++) {
                if (!text.needKnown(court, WEATHERS)) {
                    return false;
                }
                int weather = text.taken;
                if (!text.needEither(MOST_GROWTH)) {
                    return false;
                }
                court.setGrowth(crop, weather, text.taken);
            }
            return true;
        }

        private boolean readHunger(Reader text, Court court) {
            if (court.hunger > 0) {
                return text.fail(TOLD_ALREADY);
            }
            text.advance();
            if (!text.needNumber(1, MOST_HUNGER)) {
                return false;
            }
            court.hunger = text.taken;
            return true;
        }

        private boolean readLaw(Reader text, Court court) {
            if (lawTold) {
                return text.fail(TOLD_ALREADY);
            }
            lawTold = true;
            text.advance();
            int word = text.word();
            if (word != MOST && word != ALL && word != TWO) {
                return text.fail(NOT_THERE);
            }
            court.law = word == MOST ? BY_MOST : word == ALL ? BY_ALL : BY_TWO;
            text.advance();
            return true;
        }
    }

    /** Reads the STEPS of WEEKS. */
    private static final class WeeksReader {
        private final int[] open = new int[MOST_DEPTH];
        private int depth = 0;

        void readWeeks(Reader text, int length, Court court, Weeks weeks) {
            weeks.clear();
            weeks.there = true;
            depth = 0;
            text.begin(length);
            for (int i = 0; i <= length && text.fault == 0 && text.kind != TEXT_END; i++) {
                boolean fine = text.word() == END ? closes(text, weeks)
                        : begins(text, weeks) && readRest(text, court, weeks);
                if (fine) {
                    text.needStop();
                }
            }
            if (depth > 0) {
                text.fail(NOT_THERE);
            }
        }

        private boolean closes(Reader text, Weeks weeks) {
            if (depth <= 0) {
                return text.fail(NOT_THERE);
            }
            depth--;
            int beginning = open[depth];
            int row = weeks.addRow(END);
            weeks.mate[row] = beginning;
            weeks.mate[beginning] = row;
            text.advance();
            return true;
        }

        private boolean begins(Reader text, Weeks weeks) {
            int word = text.word();
            boolean opens = word == WHEN || word == LOOP;
            if (!opens && word != STOP && (word < SHOW || word > MOOD)) {
                return text.fail(NOT_THERE);
            }
            if (weeks.steps >= MOST_STEPS) {
                return text.fail(ONE_TOO_MANY);
            }
            if (opens && depth >= MOST_DEPTH) {
                return text.fail(TOO_DEEP);
            }
            int row = weeks.addRow(word);
            weeks.steps++;
            if (opens) {
                open[depth] = row;
                depth++;
            }
            text.advance();
            return true;
        }

        private static boolean readRest(Reader text, Court court, Weeks weeks) {
            int row = weeks.length - 1;
            boolean fine = true;
            switch (weeks.deed[row]) {
                case SHOW: fine = text.needKnown(court, PROOFS); break;
                case TALK: fine = text.needNumber(1, MOST_TALK); break;
                case LOOP: fine = text.needNumber(1, MOST_LOOP); break;
                case STRIKE:
                case SEAT:
                case BRIBE: fine = text.needKnown(court, JURORS); break;
                case WHEN: return readTest(text, court, weeks, row);
                default: break;
            }
            weeks.what[row] = text.taken;
            if (fine && weeks.deed[row] == BRIBE) {
                weeks.sign[row] = text.takeWord(LESS) ? -1 : 1;
            }
            return fine;
        }

        private static boolean readTest(Reader text, Court court, Weeks weeks, int row) {
            int word = text.word();
            if (word != VOTES && word != WEATHER && word != CROP) {
                return text.fail(NOT_THERE);
            }
            weeks.what[row] = word;
            text.advance();
            if (word != VOTES) {
                if (!text.needKnown(court, word == WEATHER ? WEATHERS : CROPS)) {
                    return false;
                }
                weeks.thing[row] = text.taken;
            }
            if (word == WEATHER) {
                return true;
            }
            if (!text.needCompares()) {
                return false;
            }
            weeks.sign[row] = text.taken;
            boolean fine = word == VOTES ? text.needNumber(0, MOST_JURORS) : text.needEither(MOST_COUNTED);
            weeks.number[row] = text.taken;
            return fine;
        }
    }

    /** One life of WEEKS by a seed, and what is told of it. */
    private static final class Life {
        private final int[] timesLeft = new int[MOST_ROWS];
        private int draws = 0;
        int steps = 0;
        int missed = 0;
        int days = 0;
        int guiltyDays = 0;
        int hungDays = 0;
        boolean unfinished = false;

        void run(World world, Hall hall, int seed) {
            draws = seed;
            steps = 0;
            missed = 0;
            days = 0;
            guiltyDays = 0;
            hungDays = 0;
            unfinished = false;
            Weeks weeks = world.weeks;
            int row = 0;
            for (int turn = 0; turn < MOST_TURNS && row < weeks.length && !unfinished; turn++) {
                int deed = weeks.deed[row];
                if (deed == END) {
                    row = passEnd(weeks, row);
                } else if (steps >= MOST_LIVED) {
                    unfinished = true;
                } else {
                    steps++;
                    if (deed == WHEN || deed == LOOP || deed == STOP) {
                        row = turns(weeks, hall, row);
                    } else {
                        missed += does(world.court, weeks, hall, row) ? 0 : 1;
                        row++;
                    }
                }
            }
        }

        private int passEnd(Weeks weeks, int row) {
            int beginning = weeks.mate[row];
            if (weeks.deed[beginning] == LOOP && timesLeft[beginning] > 1) {
                timesLeft[beginning]--;
                return beginning + 1;
            }
            return row + 1;
        }

        /** Says which row comes next. */
        private int turns(Weeks weeks, Hall hall, int row) {
            if (weeks.deed[row] == STOP) {
                return weeks.length;
            }
            if (weeks.deed[row] == LOOP) {
                timesLeft[row] = weeks.what[row];
                return row + 1;
            }
            return holds(weeks, hall, row) ? row + 1 : weeks.mate[row] + 1;
        }

        private static boolean holds(Weeks weeks, Hall hall, int row) {
            int thing = weeks.thing[row];
            if (weeks.what[row] == WEATHER) {
                return hall.weather == thing;
            }
            int left = weeks.what[row] == VOTES ? hall.guiltyVotes() : hall.grown[thing];
            int right = weeks.number[row];
            switch (weeks.sign[row]) {
                case '<': return left < right;
                case '>': return left > right;
                default: return left == right;
            }
        }

        /** Does a STEP, if it can be; says whether. */
        private boolean does(Court court, Weeks weeks, Hall hall, int row) {
            int what = weeks.what[row];
            int deed = weeks.deed[row];
            if (!canDo(court, hall, deed, what)) {
                return false;
            }
            switch (deed) {
                case SHOW: hall.present(court, what); break;
                case TALK: hall.talkOn(court, what); break;
                case VERDICT: countDay(hall.closeDay(court)); break;
                case STRIKE: hall.unseat(what); break;
                case SEAT: hall.reseat(what); break;
                case BRIBE: hall.buy(court, what, weeks.sign[row]); break;
                default: feelMood(court, hall); break;
            }
            return true;
        }

        private static boolean canDo(Court court, Hall hall, int deed, int what) {
            switch (deed) {
                case SHOW: return !hall.wasShown(what);
                case TALK: return hall.round + what <= MOST_COUNTED;
                case VERDICT: return hall.day < MOST_COUNTED;
                case STRIKE: return hall.isSeated(what);
                case SEAT: return !hall.isSeated(what);
                case BRIBE: return hall.isSeated(what) && hall.canPay(court, what);
                default: return true;
            }
        }

        private void countDay(int verdict) {
            days++;
            guiltyDays += verdict == IS_GUILTY ? 1 : 0;
            hungDays += verdict == IS_HUNG ? 1 : 0;
        }

        private void feelMood(Court court, Hall hall) {
            for (int i = 0; i < court.counts[JURORS]; i++) {
                if (hall.isSeated(i)) {
                    hall.shift(i, drawBy(9) - 4);
                }
            }
        }

        private int drawBy(int n) {
            draws = (draws * 2927 + 10627) % 65536;
            return n > 0 ? draws / 8 % n : 0;
        }
    }

    /** What is looked for over many turns, with the rows that such a search needs. */
    private static final class Counsel {
        // LEANINGS behind each ROUND, five JURORS to a number.
        private final long[] firstHalf = new long[MOST_AHEAD + 1];
        private final long[] secondHalf = new long[MOST_AHEAD + 1];
        private final Hall[] stages = new Hall[MOST_ORDER + 1];
        private final int[] tried = new int[MOST_ORDER];
        private final int[] mostLater = new int[MOST_WEATHERS];
        final int[] order = new int[MOST_ORDER];
        final int[] most = new int[MOST_WEATHERS];
        int orderLength = 0;
        int bribed = NONE;
        int lead = 0;
        int cycle = 0;

        Counsel() {
            for (int i = 0; i <= MOST_ORDER; i++) {
                stages[i] = new Hall();
            }
        }

        boolean settle(Court court, Hall hall) {
            for (int round = 0; round <= MOST_AHEAD; round++) {
                firstHalf[round] = pack(hall, 0);
                secondHalf[round] = pack(hall, MOST_JURORS / 2);
                for (int earlier = 0; earlier < round; earlier++) {
                    if (firstHalf[earlier] == firstHalf[round] && secondHalf[earlier] == secondHalf[round]) {
                        lead = earlier;
                        cycle = round - earlier;
                        return true;
                    }
                }
                hall.talkRound(court, false);
            }
            return false;
        }

        private static long pack(Hall hall, int from) {
            long packed = 0;
            for (int i = from; i < from + MOST_JURORS / 2; i++) {
                packed = packed * 256 + hall.lean[i] + MOST_LEANING;
            }
            return packed;
        }

        boolean findOrder(Court court, Hall hall, int verdict) {
            stages[0].copyFrom(hall);
            for (int length = 0; length <= MOST_ORDER; length++) {
                if (extend(this, court, 0, length, verdict)) {
                    System.arraycopy(tried, 0, order, 0, length);
                    orderLength = length;
                    return true;
                }
            }
            return false;
        }

        private static boolean extend(Counsel counsel, Court court, int depth, int length, int verdict) {
            Hall here = counsel.stages[depth];
            if (depth >= length || depth >= MOST_ORDER) {
                return here.ruling(court.law) == verdict;
            }
            Hall behind = counsel.stages[depth + 1];
            for (int proof = 0; proof < court.counts[PROOFS]; proof++) {
                if (!here.wasShown(proof)) {
                    behind.copyFrom(here);
                    behind.present(court, proof);
                    behind.talkOn(court, 1);
                    counsel.tried[depth] = proof;
                    if (extend(counsel, court, depth + 1, length, verdict)) {
                        return true;
                    }
                }
            }
            return false;
        }

        /** Leaves, for each WEATHER to begin with, the most that can GROW. */
        void reap(Court court, int crop, int days) {
            for (int i = 0; i < MOST_WEATHERS; i++) {
                most[i] = 0;
            }
            for (int day = 0; day < days; day++) {
                System.arraycopy(most, 0, mostLater, 0, MOST_WEATHERS);
                for (int i = 0; i < court.counts[WEATHERS]; i++) {
                    int next = Math.max(mostLater[court.ifGuilty[i]], mostLater[court.ifFree[i]]);
                    most[i] = court.growthOf(crop, i) + Math.max(mostLater[i], next);
                }
            }
        }

        int bestVerdict(Court court, int weather) {
            int best = IS_GUILTY;
            for (int verdict = IS_HUNG; verdict >= IS_FREE; verdict--) {
                int behind = court.weatherBehind(weather, verdict);
                if (most[behind] > most[court.weatherBehind(weather, best)]) {
                    best = verdict;
                }
            }
            return best;
        }
    }
}

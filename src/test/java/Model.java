import java.util.ArrayDeque;
import java.util.ArrayList;
import java.util.Arrays;
import java.util.Deque;
import java.util.HashMap;
import java.util.List;
import java.util.Map;
import java.util.Set;
import java.util.TreeSet;

/**
 * The document once more, written another way: lists, maps, exceptions, and everything tried out where the class
 * thinks. It has the class's face, so that one run of calls can be put to both.
 */
final class Model {
    private static final Set<String> RESERVED = Set.of("juror", "leans", "less", "stubborn", "price", "sways", "proof",
            "weather", "follows", "guilty", "free", "crop", "on", "hunger", "law", "most", "all", "two", "show", "talk",
            "verdict", "strike", "seat", "bribe", "mood", "when", "votes", "loop", "end", "stop");

    private static final class Fault extends RuntimeException {
        private static final long serialVersionUID = 1;
        final int kind;
        final int place;

        Fault(int kind, int place) {
            this.kind = kind;
            this.place = place;
        }
    }

    private static final class Refused extends RuntimeException {
        private static final long serialVersionUID = 1;
        final int status;

        Refused(int status) {
            this.status = status;
        }
    }

    private record Token(int place, String text, boolean broken) {
        boolean isNumber() {
            return !broken && !text.isEmpty() && Character.isDigit(text.charAt(0));
        }

        boolean isName() {
            return !broken && text.matches("[a-z]{1,8}") && !RESERVED.contains(text);
        }
    }

    private static final class Step {
        String word;
        int what;
        int number;
        String test;
        String sign;
        List<Step> body = new ArrayList<>();
    }

    private static final class Now {
        int[] lean = new int[0];
        boolean[] seated = new boolean[0];
        TreeSet<Integer> shown = new TreeSet<>();
        int[] grown = new int[0];
        int day;
        int round;
        int weather;
        int coins;

        Now copy() {
            Now n = new Now();
            n.lean = lean.clone();
            n.seated = seated.clone();
            n.shown = new TreeSet<>(shown);
            n.grown = grown.clone();
            n.day = day;
            n.round = round;
            n.weather = weather;
            n.coins = coins;
            return n;
        }
    }

    private static final class Told {
        Map<String, String> kinds = new HashMap<>();
        List<String> jurors = new ArrayList<>();
        List<Integer> told = new ArrayList<>();
        List<Integer> stubborn = new ArrayList<>();
        List<Integer> price = new ArrayList<>();
        Map<List<Integer>, Integer> sways = new HashMap<>();
        List<String> proofs = new ArrayList<>();
        List<Integer> weight = new ArrayList<>();
        List<String> weathers = new ArrayList<>();
        List<int[]> follow = new ArrayList<>();
        List<String> crops = new ArrayList<>();
        List<Map<Integer, Integer>> grow = new ArrayList<>();
        Integer hunger;
        String law;

        List<String> of(String kind) {
            return kind.equals("juror") ? jurors : kind.equals("proof") ? proofs : kind.equals("weather") ? weathers : crops;
        }
    }

    private record World(Told told, Now now, List<Step> weeks) {
    }

    private int status = 0;
    private long top = 0;
    private long bottom = 1;
    private final long[][] trays = new long[4][];
    private final int[] sorts = new int[4];
    private String tape = "";
    private Told told = new Told();
    private Now now = new Now();
    private List<Step> weeks = null;
    private final Deque<World> marks = new ArrayDeque<>();
    private int[] fault = {-1, -1};
    private List<Integer> order = List.of();
    private int bribed = -1;
    private int[] lived = null;

    // ---- the face

    int status() {
        return status;
    }

    long top() {
        return top;
    }

    long bottom() {
        return bottom;
    }

    private interface Asked {
        long answer();
    }

    private long ask(Asked asked) {
        try {
            long answer = asked.answer();
            status = 0;
            return answer;
        } catch (Refused refused) {
            status = refused.status;
            return -1;
        }
    }

    private boolean agree(Runnable asked) {
        return ask(() -> {
            asked.run();
            return 1;
        }) == 1;
    }

    private static void refuseIf(boolean wrong, int status) {
        if (wrong) {
            throw new Refused(status);
        }
    }

    private static boolean out(int n, int least, int most) {
        return n < least || n > most;
    }

    boolean tray(int tray, int sort, int many) {
        return agree(() -> {
            refuseIf(out(tray, 0, 3) || out(sort, 0, 3), 1);
            refuseIf(many > 60, 5);
            refuseIf(many < 0, 6);
            trays[tray] = new long[many];
            sorts[tray] = sort;
        });
    }

    private void needTray(int tray) {
        refuseIf(out(tray, 0, 3), 1);
        refuseIf(trays[tray] == null, 3);
    }

    boolean write(int tray, int place, long v) {
        return agree(() -> {
            needTray(tray);
            refuseIf(out(place, 0, trays[tray].length - 1), 4);
            put(tray, place, v);
        });
    }

    private void put(int tray, int place, long v) {
        int away = 64 - (8 << sorts[tray]);
        trays[tray][place] = v << away >> away;
    }

    long read(int tray, int place) {
        return ask(() -> {
            needTray(tray);
            refuseIf(out(place, 0, trays[tray].length - 1), 4);
            return trays[tray][place];
        });
    }

    boolean pour(int tray, int i, int to, int j, int many) {
        return agree(() -> {
            refuseIf(out(tray, 0, 3) || out(to, 0, 3), 1);
            refuseIf(trays[tray] == null || trays[to] == null, 3);
            refuseIf(sorts[tray] != sorts[to], 11);
            refuseIf(many < 0, 6);
            refuseIf(i < 0 || j < 0 || (long) i + many > trays[tray].length || (long) j + many > trays[to].length, 4);
            long[] old = trays[tray].clone();
            for (int k = 0; k < many; k++) {
                trays[to][j + k] = old[i + k];
            }
        });
    }

    int feed(int a, int b, int c, int d, int e) {
        if (tape.length() > 880) {
            return -1;
        }
        for (int four : new int[] {a, b, c, d, e}) {
            for (int k = 3; k >= 0; k--) {
                tape += (char) (four >>> 8 * k & 255);
            }
        }
        return tape.length();
    }

    int court(int n) {
        return (int) ask(() -> {
            refuseIf(out(n, 0, tape.length()), 5);
            Told fresh = new Told();
            readText(n, () -> readCourt(fresh));
            told = fresh;
            now = new Now();
            now.grown = new int[told.crops.size()];
            openDay(now);
            weeks = null;
            return told.jurors.size();
        });
    }

    int weeks(int n) {
        return (int) ask(() -> {
            refuseIf(out(n, 0, tape.length()) || n > 300, 5);
            List<Step> fresh = new ArrayList<>();
            int[] steps = {0};
            readText(n, () -> {
                readSteps(fresh, 0, steps);
                if (token().text.equals("end")) {
                    throw new Fault(2, token().place);
                }
            });
            weeks = fresh;
            return steps[0];
        });
    }

    int fault(int what) {
        return what == 0 || what == 1 ? fault[what] : -1;
    }

    int many(int what) {
        return (int) ask(() -> {
            switch (what) {
                case 0: return told.jurors.size();
                case 1: return told.proofs.size();
                case 2: return told.weathers.size();
                case 3: return told.crops.size();
                case 4:
                    refuseIf(told.hunger == null, 8);
                    return told.hunger;
                case 5: return law();
                case 6: return now.day;
                case 7: return now.round;
                case 8:
                    refuseIf(told.weathers.isEmpty(), 8);
                    return now.weather;
                case 9: return now.coins;
                case 10:
                    int set = 0;
                    for (int i = 0; i < now.seated.length; i++) {
                        set += now.seated[i] ? 1 << i : 0;
                    }
                    return set;
                case 11:
                    int shown = 0;
                    for (int p : now.shown) {
                        shown += 1 << p;
                    }
                    return shown;
                default: throw new Refused(5);
            }
        });
    }

    private int law() {
        return told.law == null || told.law.equals("most") ? 0 : told.law.equals("all") ? 1 : 2;
    }

    private void need(String kind, int number) {
        refuseIf(out(number, 0, told.of(kind).size() - 1), 2);
    }

    int juror(int juror, int what) {
        return (int) ask(() -> {
            need("juror", juror);
            refuseIf(out(what, 0, 3), 5);
            return what == 0 ? now.lean[juror] : List.of(told.told, told.stubborn, told.price).get(what - 1).get(juror);
        });
    }

    int sways(int a, int b) {
        return (int) ask(() -> {
            need("juror", a);
            need("juror", b);
            refuseIf(a == b, 5);
            return told.sways.getOrDefault(List.of(a, b), 0);
        });
    }

    int proof(int proof) {
        return (int) ask(() -> {
            need("proof", proof);
            return told.weight.get(proof);
        });
    }

    private int next(int weather, long verdict) {
        return verdict == 0 ? weather : told.follow.get(weather)[verdict == 1 ? 0 : 1];
    }

    int follows(int weather, int verdict) {
        return (int) ask(() -> {
            need("weather", weather);
            refuseIf(out(verdict, -1, 1), 5);
            return next(weather, verdict);
        });
    }

    private int growth(int crop, int weather) {
        return told.grow.get(crop).getOrDefault(weather, 0);
    }

    int grows(int crop, int weather) {
        return (int) ask(() -> {
            need("crop", crop);
            need("weather", weather);
            return growth(crop, weather);
        });
    }

    int crop(int crop) {
        return (int) ask(() -> {
            need("crop", crop);
            return now.grown[crop];
        });
    }

    int copyLeanings(int tray) {
        return (int) ask(() -> {
            needTray(tray);
            refuseIf(trays[tray].length < now.lean.length, 4);
            for (int i = 0; i < now.lean.length; i++) {
                put(tray, i, now.lean[i]);
            }
            return now.lean.length;
        });
    }

    int show(int proof) {
        return (int) ask(() -> {
            need("proof", proof);
            refuseIf(now.shown.contains(proof), 9);
            int[] old = now.lean.clone();
            showOn(now, proof);
            int moved = 0;
            for (int i = 0; i < old.length; i++) {
                moved += old[i] == now.lean[i] ? 0 : 1;
            }
            return moved;
        });
    }

    int talk(int rounds) {
        return (int) ask(() -> {
            refuseIf(out(rounds, 1, 99), 5);
            refuseIf(now.round + rounds > 9999, 7);
            talkOn(now, rounds, true);
            return verdictOf(now, law());
        });
    }

    int endDay() {
        return (int) ask(() -> {
            refuseIf(now.day == 9999, 7);
            return closeDay(now);
        });
    }

    boolean strike(int juror) {
        return agree(() -> {
            need("juror", juror);
            refuseIf(!now.seated[juror], 9);
            now.seated[juror] = false;
        });
    }

    boolean seat(int juror) {
        return agree(() -> {
            need("juror", juror);
            refuseIf(now.seated[juror], 9);
            now.seated[juror] = true;
        });
    }

    int bribe(int juror, int side) {
        return (int) ask(() -> {
            need("juror", juror);
            refuseIf(side != 1 && side != -1, 5);
            refuseIf(now.coins + told.price.get(juror) > 9999, 7);
            refuseIf(!now.seated[juror], 9);
            now.coins += told.price.get(juror);
            now.lean[juror] = 99 * side;
            return now.coins;
        });
    }

    boolean lean(int juror, int leaning) {
        return agree(() -> {
            need("juror", juror);
            refuseIf(out(leaning, -99, 99), 5);
            now.lean[juror] = leaning;
        });
    }

    int votes(int what) {
        return (int) ask(() -> {
            refuseIf(out(what, 0, 1), 5);
            return votesOf(now)[what];
        });
    }

    int verdict() {
        return (int) ask(() -> verdictOf(now, law()));
    }

    int verdictBy(int law) {
        return (int) ask(() -> {
            refuseIf(out(law, 0, 2), 5);
            return verdictOf(now, law);
        });
    }

    int swing() {
        return (int) ask(() -> {
            int set = 0;
            for (int i = 0; i < now.seated.length; i++) {
                if (now.seated[i]) {
                    Now without = now.copy();
                    without.seated[i] = false;
                    set += verdictOf(without, law()) == verdictOf(now, law()) ? 0 : 1 << i;
                }
            }
            return set;
        });
    }

    int lacks() {
        return (int) ask(() -> {
            refuseIf(votesOf(now)[0] + votesOf(now)[1] == 0, 8);
            Now more = now.copy();
            int lacking = 0;
            for (int i = 0; verdictOf(more, law()) != 1; i++) {
                if (more.seated[i] && more.lean[i] <= 0) {
                    more.lean[i] = 1;
                    lacking++;
                }
            }
            return lacking;
        });
    }

    int nearest() {
        return (int) ask(() -> {
            for (int by = 1; by <= 100; by++) {
                for (int i = 0; i < now.lean.length; i++) {
                    boolean guilty = now.lean[i] > 0;
                    if (now.seated[i] && (now.lean[i] + (guilty ? -by : by) > 0) != guilty) {
                        return i;
                    }
                }
            }
            throw new Refused(8);
        });
    }

    int pull(int juror) {
        return (int) ask(() -> {
            need("juror", juror);
            refuseIf(!now.seated[juror], 9);
            return cut(now.lean[juror] + pullOn(now, juror)) - now.lean[juror];
        });
    }

    int behind(int juror) {
        return (int) ask(() -> {
            need("juror", juror);
            Deque<Integer> open = new ArrayDeque<>(List.of(juror));
            Set<Integer> found = new TreeSet<>();
            while (!open.isEmpty()) {
                int one = open.pop();
                for (int i = 0; i < now.lean.length; i++) {
                    if (told.sways.getOrDefault(List.of(i, one), 0) > 0 && found.add(i)) {
                        open.push(i);
                    }
                }
            }
            found.remove(juror);
            return found.stream().mapToInt(i -> 1 << i).sum();
        });
    }

    int settles(int what) {
        return (int) ask(() -> {
            refuseIf(out(what, 0, 1), 5);
            Now n = now.copy();
            List<String> was = new ArrayList<>();
            for (int round = 0; round <= 200; round++) {
                int at = was.indexOf(Arrays.toString(n.lean));
                if (at >= 0) {
                    return what == 0 ? at : round - at;
                }
                was.add(Arrays.toString(n.lean));
                talkOn(n, 1, false);
            }
            throw new Refused(8);
        });
    }

    int after(int rounds) {
        return (int) ask(() -> {
            refuseIf(out(rounds, 0, 200), 5);
            Now n = now.copy();
            talkOn(n, rounds, true);
            return verdictOf(n, law());
        });
    }

    int soonest(int verdict) {
        return (int) ask(() -> {
            refuseIf(out(verdict, -1, 1), 5);
            for (int rounds = 0; rounds <= 200; rounds++) {
                Now n = now.copy();
                talkOn(n, rounds, true);
                if (verdictOf(n, law()) == verdict) {
                    return rounds;
                }
            }
            throw new Refused(8);
        });
    }

    int bestOrder(int verdict) {
        return (int) ask(() -> {
            refuseIf(out(verdict, -1, 1), 5);
            List<List<Integer>> rows = new ArrayList<>(List.of(List.of()));
            for (int length = 0; length <= 4; length++) {
                List<List<Integer>> longer = new ArrayList<>();
                for (List<Integer> row : rows) {
                    Now n = now.copy();
                    for (int p : row) {
                        showOn(n, p);
                        talkOn(n, 1, true);
                    }
                    if (verdictOf(n, law()) == verdict) {
                        order = row;
                        return length;
                    }
                    for (int p = 0; p < told.proofs.size(); p++) {
                        if (!n.shown.contains(p)) {
                            List<Integer> more = new ArrayList<>(row);
                            more.add(p);
                            longer.add(more);
                        }
                    }
                }
                rows = longer;
            }
            throw new Refused(8);
        });
    }

    int orderAt(int k) {
        return (int) ask(() -> {
            refuseIf(out(k, 0, order.size() - 1), 8);
            return order.get(k);
        });
    }

    int bribes(int verdict, int side, int rounds) {
        return (int) ask(() -> {
            refuseIf(out(verdict, -1, 1) || side != 1 && side != -1 || out(rounds, 0, 9), 5);
            int best = -1;
            int least = Integer.MAX_VALUE;
            sets:
            for (int set = (1 << now.lean.length) - 1; set >= 0; set--) {
                Now n = now.copy();
                int coins = 0;
                for (int i = 0; i < n.lean.length; i++) {
                    if ((set >> i & 1) != 0) {
                        if (!n.seated[i]) {
                            continue sets;
                        }
                        n.lean[i] = 99 * side;
                        coins += told.price.get(i);
                    }
                }
                talkOn(n, rounds, true);
                if (verdictOf(n, law()) == verdict && coins <= least) {
                    best = set;
                    least = coins;
                }
            }
            refuseIf(best < 0, 8);
            bribed = best;
            return least;
        });
    }

    int bribeSet() {
        return (int) ask(() -> {
            refuseIf(bribed < 0, 8);
            return bribed;
        });
    }

    private int play(Now n, int left) {
        if (left == 0) {
            return verdictOf(n, law());
        }
        int best = left % 2 == 0 ? 2 : -2;
        for (int i = 0; i < n.lean.length; i++) {
            if (n.seated[i]) {
                n.seated[i] = false;
                int comes = play(n, left - 1);
                best = left % 2 == 0 ? Math.min(best, comes) : Math.max(best, comes);
                n.seated[i] = true;
            }
        }
        return best;
    }

    private void needStrikes(int n) {
        refuseIf(out(n, 1, 3), 5);
        refuseIf(votesOf(now)[0] + votesOf(now)[1] < 2 * n, 9);
    }

    int strikes(int n) {
        return (int) ask(() -> {
            needStrikes(n);
            return play(now.copy(), 2 * n);
        });
    }

    int firstStrike(int n) {
        return (int) ask(() -> {
            needStrikes(n);
            int best = play(now.copy(), 2 * n);
            for (int i = 0; ; i++) {
                Now without = now.copy();
                without.seated[i] = false;
                if (now.seated[i] && play(without, 2 * n - 1) == best) {
                    return i;
                }
            }
        });
    }

    private void tell(long over, long under) {
        for (long by = under; by >= 1; by--) {
            if (over % by == 0 && under % by == 0) {
                top = over / by;
                bottom = under / by;
                return;
            }
        }
    }

    boolean drawn(int n, int rounds, int verdict) {
        return agree(() -> {
            refuseIf(out(n, 1, now.lean.length) || out(rounds, 0, 9) || out(verdict, -1, 1), 5);
            long[] counts = new long[2];
            drawMore(new ArrayList<>(), 0, new int[] {n, rounds, verdict}, counts);
            tell(counts[0], counts[1]);
        });
    }

    private void drawMore(List<Integer> taken, int from, int[] asked, long[] counts) {
        if (taken.size() == asked[0]) {
            Now n = now.copy();
            openDay(n);
            for (int i = 0; i < n.seated.length; i++) {
                n.seated[i] = taken.contains(i);
            }
            talkOn(n, asked[1], true);
            counts[0] += verdictOf(n, law()) == asked[2] ? 1 : 0;
            counts[1]++;
            return;
        }
        for (int i = from; i < now.lean.length; i++) {
            taken.add(i);
            drawMore(taken, i + 1, asked, counts);
            taken.remove(taken.size() - 1);
        }
    }

    private void needRow(int tray, int n) {
        needTray(tray);
        refuseIf(n > trays[tray].length, 4);
        refuseIf(n < 0, 5);
        for (int i = 0; i < n; i++) {
            refuseIf(trays[tray][i] < -1 || trays[tray][i] > 1, 5);
        }
        refuseIf(told.weathers.isEmpty(), 8);
    }

    int row(int tray, int n) {
        return (int) ask(() -> {
            needRow(tray, n);
            int weather = now.weather;
            for (int i = 0; i < n; i++) {
                weather = next(weather, trays[tray][i]);
            }
            return weather;
        });
    }

    int rowGrows(int tray, int n, int crop) {
        return (int) ask(() -> {
            needRow(tray, n);
            need("crop", crop);
            int weather = now.weather;
            int sum = 0;
            for (int i = 0; i < n; i++) {
                sum += growth(crop, weather);
                weather = next(weather, trays[tray][i]);
            }
            return sum;
        });
    }

    int way(int weather) {
        return (int) ask(() -> {
            need("weather", weather);
            Map<Integer, Integer> days = new HashMap<>(Map.of(now.weather, 0));
            Deque<Integer> open = new ArrayDeque<>(List.of(now.weather));
            while (!open.isEmpty()) {
                int one = open.removeFirst();
                for (int behind : told.follow.get(one)) {
                    if (!days.containsKey(behind)) {
                        days.put(behind, days.get(one) + 1);
                        open.addLast(behind);
                    }
                }
            }
            refuseIf(!days.containsKey(weather), 8);
            return days.get(weather);
        });
    }

    private int most(int crop, int weather, int days, Map<List<Integer>, Integer> known) {
        if (days == 0) {
            return 0;
        }
        Integer is = known.get(List.of(weather, days));
        if (is == null) {
            int best = Integer.MIN_VALUE;
            for (int verdict = -1; verdict <= 1; verdict++) {
                best = Math.max(best, most(crop, next(weather, verdict), days - 1, known));
            }
            is = best + growth(crop, weather);
            known.put(List.of(weather, days), is);
        }
        return is;
    }

    private void needHarvest(int crop, int days) {
        need("crop", crop);
        refuseIf(out(days, 1, 20), 5);
        refuseIf(told.weathers.isEmpty(), 8);
    }

    int harvest(int crop, int days) {
        return (int) ask(() -> {
            needHarvest(crop, days);
            return most(crop, now.weather, days, new HashMap<>());
        });
    }

    int harvestNow(int crop, int days) {
        return (int) ask(() -> {
            needHarvest(crop, days);
            int whole = most(crop, now.weather, days, new HashMap<>());
            for (int verdict = 1; ; verdict--) {
                int rest = most(crop, next(now.weather, verdict), days - 1, new HashMap<>());
                if (growth(crop, now.weather) + rest == whole) {
                    return verdict;
                }
            }
        });
    }

    int reach() {
        return (int) ask(() -> {
            int set = 0;
            for (int i = 0; i < told.weathers.size(); i++) {
                int target = i;
                int old = status;
                set += way(target) >= 0 ? 1 << i : 0;
                status = old;
            }
            return set;
        });
    }

    int live(int seed) {
        return (int) ask(() -> {
            refuseIf(out(seed, 0, 9999), 5);
            refuseIf(weeks == null, 8);
            Life life = new Life(now, seed);
            life.runAll(weeks);
            lived = new int[] {life.missed, life.days, life.guilty, life.hung, life.left};
            return life.steps;
        });
    }

    int lived(int what) {
        return (int) ask(() -> {
            refuseIf(out(what, 0, 4), 5);
            refuseIf(lived == null, 8);
            return lived[what];
        });
    }

    boolean mean(int crop, int seed, int many) {
        return agree(() -> {
            need("crop", crop);
            refuseIf(out(many, 1, 20) || out(seed, 0, 9999) || seed + many - 1 > 9999, 5);
            refuseIf(weeks == null, 8);
            long sum = 0;
            for (int i = 0; i < many; i++) {
                Now n = now.copy();
                new Life(n, seed + i).runAll(weeks);
                sum += n.grown[crop];
            }
            tell(sum, many);
        });
    }

    int mark() {
        return (int) ask(() -> {
            refuseIf(marks.size() == 3, 7);
            marks.push(new World(told, now.copy(), weeks));
            return marks.size();
        });
    }

    int back() {
        return (int) ask(() -> {
            refuseIf(marks.isEmpty(), 8);
            World world = marks.pop();
            told = world.told;
            now = world.now;
            weeks = world.weeks;
            return marks.size();
        });
    }

    // ---- what becomes of a COURT

    private void openDay(Now n) {
        n.lean = told.told.stream().mapToInt(Integer::intValue).toArray();
        n.seated = new boolean[n.lean.length];
        Arrays.fill(n.seated, true);
        n.shown.clear();
        n.round = 0;
    }

    private int closeDay(Now n) {
        int verdict = verdictOf(n, law());
        if (!told.weathers.isEmpty()) {
            for (int i = 0; i < n.grown.length; i++) {
                n.grown[i] += growth(i, n.weather);
            }
            n.weather = next(n.weather, verdict);
        }
        n.day++;
        openDay(n);
        return verdict;
    }

    private static int cut(int leaning) {
        return leaning > 99 ? 99 : leaning < -99 ? -99 : leaning;
    }

    private void showOn(Now n, int proof) {
        for (int i = 0; i < n.lean.length; i++) {
            int by = told.weight.get(proof);
            for (int k = 0; k < told.stubborn.get(i); k++) {
                by -= Integer.signum(by);
            }
            n.lean[i] = n.seated[i] ? cut(n.lean[i] + by) : n.lean[i];
        }
        n.shown.add(proof);
    }

    private int pullOn(Now n, int juror) {
        int sum = 0;
        for (int i = 0; i < n.lean.length; i++) {
            if (i != juror && n.seated[i]) {
                sum += Integer.signum(n.lean[i]) * told.sways.getOrDefault(List.of(i, juror), 0);
            }
        }
        int stubborn = told.stubborn.get(juror);
        return sum > stubborn || sum < -stubborn ? sum : 0;
    }

    private void talkOn(Now n, int rounds, boolean minded) {
        for (int k = 0; k < rounds; k++) {
            for (int i = 0; i < n.lean.length; i++) {
                if (n.seated[i]) {
                    n.lean[i] = cut(n.lean[i] + pullOn(n, i));
                }
            }
            n.round++;
            if (minded && told.hunger != null && n.round >= told.hunger) {
                int[] votes = votesOf(n);
                for (int i = 0; i < n.lean.length; i++) {
                    if (n.seated[i]) {
                        n.lean[i] = cut(n.lean[i] + Integer.signum(votes[0] - votes[1]));
                    }
                }
            }
        }
    }

    private static int[] votesOf(Now n) {
        int[] votes = new int[2];
        for (int i = 0; i < n.lean.length; i++) {
            if (n.seated[i]) {
                votes[n.lean[i] > 0 ? 0 : 1]++;
            }
        }
        return votes;
    }

    private static int verdictOf(Now n, int law) {
        int guilty = votesOf(n)[0];
        int free = votesOf(n)[1];
        if (guilty + free == 0) {
            return 0;
        }
        switch (law) {
            case 0: return guilty > free ? 1 : -1;
            case 1: return free == 0 ? 1 : guilty == 0 ? -1 : 0;
            default: return guilty >= 2 * free ? 1 : free >= 2 * guilty ? -1 : 0;
        }
    }

    // ---- WEEKS, as a tree

    private static final class Over extends RuntimeException {
        private static final long serialVersionUID = 1;
    }

    private final class Life {
        final Now n;
        long s;
        int steps;
        int missed;
        int days;
        int guilty;
        int hung;
        int left;

        Life(Now n, int seed) {
            this.n = n;
            this.s = seed;
        }

        void runAll(List<Step> all) {
            try {
                run(all);
            } catch (Over over) {
                return;
            }
        }

        private void run(List<Step> row) {
            for (Step step : row) {
                if (steps == 300) {
                    left = 1;
                    throw new Over();
                }
                steps++;
                if (step.word.equals("stop")) {
                    throw new Over();
                }
                int times = step.word.equals("loop") ? step.number : step.word.equals("when") && holds(step) ? 1 : 0;
                for (int k = 0; k < times; k++) {
                    run(step.body);
                }
                missed += does(step) ? 0 : 1;
            }
        }

        private boolean holds(Step step) {
            if (step.test.equals("weather")) {
                return n.weather == step.what;
            }
            int left = step.test.equals("votes") ? votesOf(n)[0] : n.grown[step.what];
            return step.sign.equals("<") ? left < step.number : step.sign.equals(">") ? left > step.number
                    : left == step.number;
        }

        private boolean does(Step step) {
            switch (step.word) {
                case "show":
                    if (n.shown.contains(step.what)) {
                        return false;
                    }
                    showOn(n, step.what);
                    return true;
                case "talk":
                    if (n.round + step.number > 9999) {
                        return false;
                    }
                    talkOn(n, step.number, true);
                    return true;
                case "verdict":
                    if (n.day == 9999) {
                        return false;
                    }
                    int verdict = closeDay(n);
                    days++;
                    guilty += verdict == 1 ? 1 : 0;
                    hung += verdict == 0 ? 1 : 0;
                    return true;
                case "strike":
                case "seat":
                    boolean seats = step.word.equals("seat");
                    boolean can = n.seated[step.what] != seats;
                    n.seated[step.what] = seats;
                    return can;
                case "bribe":
                    int coins = n.coins + told.price.get(step.what);
                    if (!n.seated[step.what] || coins > 9999) {
                        return false;
                    }
                    n.coins = coins;
                    n.lean[step.what] = step.number;
                    return true;
                case "mood":
                    for (int i = 0; i < n.lean.length; i++) {
                        if (n.seated[i]) {
                            s = (s * 2927 + 10627) % 65536;
                            n.lean[i] = cut(n.lean[i] + (int) (s / 8 % 9) - 4);
                        }
                    }
                    return true;
                default:
                    return true;
            }
        }
    }

    // ---- texts

    private List<Token> tokens = List.of();
    private int at = 0;

    private void readText(int n, Runnable parse) {
        tokens = cutTokens(tape.substring(0, n));
        at = 0;
        tape = "";
        try {
            parse.run();
        } catch (Fault found) {
            fault = new int[] {token().broken && token().place == found.place ? 1 : found.kind, found.place};
            throw new Refused(10);
        }
        fault = new int[] {0, -1};
    }

    private static List<Token> cutTokens(String text) {
        List<Token> cut = new ArrayList<>();
        int i = 0;
        while (i < text.length()) {
            int end = i + 1;
            String kind = kindOf(text.charAt(i));
            while (!kind.equals("sign") && !kind.equals("broken") && end < text.length()
                    && kindOf(text.charAt(end)).equals(kind)) {
                end++;
            }
            if (!kind.equals("blank")) {
                boolean broken = kind.equals("broken") || kind.equals("digit") && end - i > 4;
                cut.add(new Token(i, text.substring(i, end), broken));
            }
            i = end;
        }
        cut.add(new Token(text.length(), "", false));
        return cut;
    }

    private static String kindOf(char c) {
        return c >= 'a' && c <= 'z' ? "letter" : c >= '0' && c <= '9' ? "digit" : ";<>=".indexOf(c) >= 0 ? "sign"
                : c == ' ' || c == '\n' ? "blank" : "broken";
    }

    private Token token() {
        return tokens.get(at);
    }

    private void check(boolean fine, int kind) {
        if (!fine) {
            throw new Fault(kind, token().place);
        }
    }

    private boolean take(String word) {
        if (!token().broken && token().text.equals(word)) {
            at++;
            return true;
        }
        return false;
    }

    private void need(String word) {
        check(take(word), 2);
    }

    private int number(int least, int most) {
        check(token().isNumber(), 2);
        int number = Integer.parseInt(token().text);
        check(!out(number, least, most), 4);
        at++;
        return number;
    }

    private int signed(int most) {
        return take("less") ? -number(0, most) : number(0, most);
    }

    private int known(Told court, String kind) {
        check(token().isName(), 2);
        int number = court.of(kind).indexOf(token().text);
        check(number >= 0, 3);
        at++;
        return number;
    }

    private void readCourt(Told court) {
        while (!token().text.isEmpty()) {
            String word = token().broken ? "" : token().text;
            switch (word) {
                case "juror":
                    makeNew(court, word, 10);
                    court.told.add(take("leans") ? signed(99) : 0);
                    court.stubborn.add(take("stubborn") ? number(0, 20) : 0);
                    court.price.add(take("price") ? number(0, 99) : 0);
                    break;
                case "sways":
                    at++;
                    int first = known(court, "juror");
                    int second = known(court, "juror");
                    if (first == second) {
                        at--;
                        check(false, 5);
                    }
                    court.sways.put(List.of(first, second), number(0, 20));
                    break;
                case "proof":
                    makeNew(court, word, 6);
                    court.weight.add(signed(99));
                    break;
                case "weather":
                    makeNew(court, word, 6);
                    int last = court.weathers.size() - 1;
                    court.follow.add(new int[] {last, last});
                    break;
                case "follows":
                    at++;
                    int weather = known(court, "weather");
                    need("guilty");
                    int guilty = known(court, "weather");
                    need("free");
                    court.follow.set(weather, new int[] {guilty, known(court, "weather")});
                    break;
                case "crop":
                    makeNew(court, word, 4);
                    court.grow.add(new HashMap<>());
                    while (take("on")) {
                        int on = known(court, "weather");
                        court.grow.get(court.grow.size() - 1).put(on, signed(99));
                    }
                    break;
                case "hunger":
                    check(court.hunger == null, 5);
                    at++;
                    court.hunger = number(1, 99);
                    break;
                case "law":
                    check(court.law == null, 5);
                    at++;
                    check(List.of("most", "all", "two").contains(token().text), 2);
                    court.law = token().text;
                    at++;
                    break;
                default:
                    check(false, 2);
            }
            need(";");
        }
    }

    private void makeNew(Told court, String kind, int most) {
        check(court.of(kind).size() < most, 6);
        at++;
        check(token().isName(), 2);
        check(court.kinds.put(token().text, kind) == null, 3);
        court.of(kind).add(token().text);
        at++;
    }

    private void readSteps(List<Step> row, int depth, int[] steps) {
        while (!token().text.isEmpty() && !token().text.equals("end")) {
            Step step = new Step();
            step.word = token().broken ? "" : token().text;
            boolean opens = step.word.equals("when") || step.word.equals("loop");
            check(opens || List.of("show", "talk", "verdict", "strike", "seat", "bribe", "mood", "stop").contains(step.word), 2);
            check(steps[0] < 30, 6);
            check(!opens || depth < 3, 7);
            steps[0]++;
            at++;
            readStep(step);
            need(";");
            if (opens) {
                readSteps(step.body, depth + 1, steps);
                need("end");
                need(";");
            }
            row.add(step);
        }
    }

    private void readStep(Step step) {
        switch (step.word) {
            case "show": step.what = known(told, "proof"); break;
            case "talk":
            case "loop": step.number = number(1, 99); break;
            case "strike":
            case "seat": step.what = known(told, "juror"); break;
            case "bribe":
                step.what = known(told, "juror");
                step.number = take("less") ? -99 : 99;
                break;
            case "when":
                step.test = token().text;
                check(List.of("votes", "weather", "crop").contains(step.test), 2);
                at++;
                step.what = step.test.equals("votes") ? 0 : known(told, step.test);
                if (!step.test.equals("weather")) {
                    step.sign = token().text;
                    check(List.of("<", ">", "=").contains(step.sign), 2);
                    at++;
                    step.number = step.test.equals("votes") ? number(0, 10) : signed(9999);
                }
                break;
            default: break;
        }
    }
}

import java.lang.reflect.Method;
import java.lang.reflect.Modifier;
import java.util.ArrayList;
import java.util.Comparator;
import java.util.List;
import java.util.Random;

/** All promises: runs of calls by chance (always the same ones), put to the class and to the Model. */
public final class ModelTest {
    private static final Check CHECK = new Check("ModelTest");
    private static final int RUNS = 1500;
    private static final String[] NAMES = {"a", "bo", "cid", "dan", "eve", "fay", "gus", "hal", "ivy", "jo"};

    private final Random chance;
    private final RainJury real = new RainJury();
    private final Model model = new Model();
    private final StringBuilder told = new StringBuilder();
    private int jurors = 0;

    private ModelTest(long seed) {
        chance = new Random(seed);
    }

    public static void main(String[] args) throws ReflectiveOperationException {
        int runs = args.length > 1 ? Integer.parseInt(args[1]) : RUNS;
        List<Method> calls = new ArrayList<>();
        for (Method call : RainJury.class.getMethods()) {
            if (call.getDeclaringClass() == RainJury.class && !Modifier.isStatic(call.getModifiers())) {
                calls.add(call);
            }
        }
        calls.sort(Comparator.comparing(Method::getName));
        for (int run = 0; run < runs; run++) {
            new ModelTest(run).run(calls);
        }
        CHECK.end();
    }

    private void run(List<Method> calls) throws ReflectiveOperationException {
        text(courtText(), true);
        for (int i = 0; i < 120; i++) {
            int dice = chance.nextInt(100);
            if (dice < 2) {
                text(spoil(courtText()), true);
            } else if (dice < 8) {
                text(spoil(weeksText()), false);
            } else {
                put(calls.get(chance.nextInt(calls.size())));
            }
        }
    }

    private int upTo(int most) {
        return chance.nextInt(most + 1);
    }

    // ---- calls

    private void put(Method call) throws ReflectiveOperationException {
        Class<?>[] kinds = call.getParameterTypes();
        Object[] args = new Object[kinds.length];
        for (int i = 0; i < kinds.length; i++) {
            if (kinds[i] == long.class) {
                args[i] = chance.nextInt(3) == 0 ? chance.nextLong() : (long) (upTo(2) - 1);
            } else {
                args[i] = argument(call.getName(), i);
            }
        }
        if (call.getName().equals("feed") || call.getName().equals("court")) {
            return;
        }
        same(call, args);
    }

    private int argument(String call, int i) {
        int dice = chance.nextInt(60);
        if (dice == 0) {
            return chance.nextInt();
        }
        if (dice < 3) {
            return new int[] {-2, -1, 10, 11, 20, 21, 60, 61, 99, 100, 200, 201, 9999, 10000}[chance.nextInt(14)];
        }
        switch (call) {
            case "lean": return i == 0 ? upTo(jurors) : upTo(30) - 15;
            case "talk": return 1 + upTo(chance.nextInt(4) == 0 ? 98 : 4);
            case "after": return upTo(200);
            case "live": return upTo(9999);
            case "harvest":
            case "harvestNow": return i == 0 ? upTo(2) : 1 + upTo(19);
            case "mean": return i == 0 ? upTo(2) : i == 1 ? upTo(9999) : 1 + upTo(19);
            case "soonest":
            case "bestOrder": return upTo(2) - 1;
            case "bribes": return i == 0 ? upTo(2) - 1 : i == 1 ? upTo(1) * 2 - 1 : upTo(9);
            case "drawn": return i == 0 ? upTo(jurors) : i == 1 ? upTo(9) : upTo(2) - 1;
            case "follows": return i == 0 ? upTo(5) : upTo(2) - 1;
            case "bribe": return i == 0 ? upTo(jurors) : upTo(1) * 2 - 1;
            case "many": return upTo(12);
            case "tray": return i < 2 ? upTo(3) : upTo(12);
            case "row":
            case "rowGrows": return i == 1 ? upTo(8) : upTo(3);
            case "write":
            case "read":
            case "pour":
            case "strikes":
            case "firstStrike":
            case "way":
            case "proof":
            case "show": return upTo(4);
            case "fault":
            case "settles":
            case "votes": return upTo(1);
            default: return upTo(Math.max(jurors, 3));
        }
    }

    private long same(Method call, Object[] args) throws ReflectiveOperationException {
        Method twin = Model.class.getDeclaredMethod(call.getName(), call.getParameterTypes());
        told.append(call.getName()).append(java.util.Arrays.toString(args)).append(' ');
        long got = number(call.invoke(real, args));
        long want = number(twin.invoke(model, args));
        if (got != want || real.status() != model.status()) {
            System.out.println("the run: " + told);
        }
        CHECK.due(call.getName() + java.util.Arrays.toString(args), got, want);
        CHECK.due("status() behind " + call.getName() + java.util.Arrays.toString(args), real.status(), model.status());
        CHECK.due("top()", real.top(), model.top());
        CHECK.due("bottom()", real.bottom(), model.bottom());
        return got;
    }

    private static long number(Object answer) {
        return answer instanceof Boolean ? (Boolean) answer ? 1 : 0 : ((Number) answer).longValue();
    }

    private void text(String text, boolean court) throws ReflectiveOperationException {
        told.append("'").append(text).append("' ");
        Method feed = RainJury.class.getMethod("feed", int.class, int.class, int.class, int.class, int.class);
        for (int from = 0; from < text.length(); from += 20) {
            Object[] args = new Object[5];
            for (int i = 0; i < 5; i++) {
                int four = 0;
                for (int k = 0; k < 4; k++) {
                    int place = from + 4 * i + k;
                    four = four << 8 | (place < text.length() ? text.charAt(place) & 255 : ' ');
                }
                args[i] = four;
            }
            same(feed, args);
        }
        Method takes = RainJury.class.getMethod(court ? "court" : "weeks", int.class);
        same(takes, new Object[] {text.length()});
        if (real.status() == 5) {
            same(takes, new Object[] {0});
        }
        CHECK.due("fault(0) of '" + text + "'", real.fault(0), model.fault(0));
        CHECK.due("fault(1) of '" + text + "'", real.fault(1), model.fault(1));
        jurors = model.many(0);
        real.many(0);
    }

    // ---- texts

    private String signed(int most) {
        return (chance.nextBoolean() ? "less " : "") + upTo(most);
    }

    private String courtText() {
        StringBuilder text = new StringBuilder();
        int count = chance.nextInt(8) == 0 ? 10 : upTo(6);
        int leaning = new int[] {3, 20, 99}[chance.nextInt(3)];
        for (int i = 0; i < count; i++) {
            text.append("juror ").append(NAMES[i]).append(" leans ").append(signed(leaning));
            text.append(chance.nextInt(2) == 0 ? " stubborn " + upTo(6) : "");
            text.append(chance.nextInt(2) == 0 ? " price " + upTo(chance.nextInt(3) == 0 ? 99 : 5) : "").append(';');
        }
        for (int i = 0; i < count * 2 && count > 1; i++) {
            int from = chance.nextInt(count);
            int to = (from + 1 + chance.nextInt(count - 1)) % count;
            text.append("sways ").append(NAMES[from]).append(' ').append(NAMES[to]).append(' ').append(upTo(12)).append(';');
        }
        int proofs = upTo(5);
        for (int i = 0; i < proofs; i++) {
            text.append("proof p").append((char) ('a' + i)).append(' ').append(signed(leaning / 2 + 1)).append(';');
        }
        int weathers = upTo(5);
        for (int i = 0; i < weathers; i++) {
            text.append("weather w").append((char) ('a' + i)).append(';');
        }
        for (int i = 0; i < weathers; i++) {
            text.append("follows w").append((char) ('a' + chance.nextInt(weathers))).append(" guilty w")
                    .append((char) ('a' + chance.nextInt(weathers))).append(" free w")
                    .append((char) ('a' + chance.nextInt(weathers))).append(';');
        }
        int crops = upTo(2);
        for (int i = 0; i < crops; i++) {
            text.append("crop c").append((char) ('a' + i));
            for (int k = 0; k < weathers; k++) {
                text.append(" on w").append((char) ('a' + chance.nextInt(weathers))).append(' ').append(signed(9));
            }
            text.append(';');
        }
        text.append(chance.nextBoolean() ? "hunger " + (1 + upTo(8)) + ";" : "");
        text.append(new String[] {"", "law most;", "law all;", "law two;"}[chance.nextInt(4)]);
        return text.length() > 900 ? text.substring(0, 900) : text.toString();
    }

    private String weeksText() {
        StringBuilder text = new StringBuilder();
        steps(text, 0, 2 + upTo(8));
        return text.length() > 300 ? text.substring(0, 300) : text.toString();
    }

    private void steps(StringBuilder text, int depth, int many) {
        for (int i = 0; i < many; i++) {
            String juror = NAMES[chance.nextInt(Math.max(1, jurors))];
            String sign = "<>=".substring(chance.nextInt(3)).substring(0, 1);
            switch (chance.nextInt(depth < 3 ? 11 : 8)) {
                case 0: text.append("show p").append((char) ('a' + upTo(2))).append(';'); break;
                case 1: text.append("talk ").append(1 + upTo(5)).append(';'); break;
                case 2:
                case 3: text.append("verdict;"); break;
                case 4: text.append("strike ").append(juror).append(';'); break;
                case 5: text.append("seat ").append(juror).append(';'); break;
                case 6: text.append("bribe ").append(juror).append(chance.nextBoolean() ? " less;" : ";"); break;
                case 7: text.append(chance.nextInt(6) == 0 ? "stop;" : "mood;"); break;
                case 8:
                    text.append("loop ").append(1 + upTo(chance.nextInt(3) == 0 ? 98 : 4)).append(';');
                    steps(text, depth + 1, upTo(3));
                    text.append("end;");
                    break;
                default:
                    text.append(new String[] {"when votes " + sign + upTo(5) + ";", "when weather w" + (char) ('a' + upTo(2)) + ";",
                        "when crop ca " + sign + " " + signed(30) + ";"}[chance.nextInt(3)]);
                    steps(text, depth + 1, upTo(3));
                    text.append("end;");
                    break;
            }
        }
    }

    /** Now and then makes a text a wrong one. */
    private String spoil(String text) {
        if (chance.nextInt(3) != 0 || text.isEmpty()) {
            return text;
        }
        int at = chance.nextInt(text.length());
        int to = Math.min(text.length(), at + upTo(12));
        String[] words = {"@", ";", "12345", "1000", "99", "21", "0", " ", "less", "juror", "zed", "end;", "loop 2;", "law all;",
            "abcdefghi", "<", "hunger 3;", "\t", "when", "stop;", "a", "pa", "wa", "ca", "\u00ff"};
        String word = words[chance.nextInt(words.length)];
        switch (chance.nextInt(4)) {
            case 0: return text.substring(0, at);
            case 1: return text.substring(0, at) + text.substring(to);
            case 2: return text.substring(0, at) + word + text.substring(at);
            default: return text.substring(0, at) + word + text.substring(to);
        }
    }
}

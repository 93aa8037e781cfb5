import java.lang.management.ManagementFactory;
import java.lang.reflect.InvocationTargetException;
import java.lang.reflect.Method;
import java.util.ArrayList;
import java.util.Comparator;
import java.util.List;
import java.util.Random;

/** No call throws, whatever it is given; a refused one gives NONE or false; calls make no objects. */
public final class RoughTest {
    private static final Check CHECK = new Check("RoughTest");
    private static final int[] ROUGH = {Integer.MIN_VALUE, Integer.MIN_VALUE + 1, -10000, -901, -100, -99, -2, -1, 0, 1, 2, 3,
        4, 5, 6, 9, 10, 11, 12, 19, 20, 21, 30, 31, 32, 33, 59, 60, 61, 63, 64, 98, 99, 100, 199, 200, 201, 299, 300, 301,
        899, 900, 901, 9998, 9999, 10000, 65535, 65536, Integer.MAX_VALUE - 1, Integer.MAX_VALUE};
    private static final String FULL = "juror a leans 1;juror b leans less 2 stubborn 3 price 9;juror c;juror d leans 99;juror e;"
            + "juror f leans 50;juror g leans less 50;juror h;juror i;juror j leans 3;sways a b 9;sways b c 3;sways c d 20;"
            + "sways d a 7;sways j i 20;sways i j 20;proof k 12;proof l less 30;proof m 99;proof n 0;proof o 5;proof p less 5;"
            + "weather q;weather r;weather s;weather t;weather u;weather v;follows q guilty r free s;follows r guilty t free u;"
            + "follows u guilty v free q;crop w on q 3 on r less 4;crop x on v 99;crop y;crop z on u less 99;hunger 4;law two;";
    private static final String WEEKS = "loop 99;loop 9;show k;talk 99;mood;verdict;end;when crop w<less 5;bribe b;end;end;";

    public static void main(String[] args) throws ReflectiveOperationException {
        List<Method> calls = new ArrayList<>();
        for (Method call : RainJury.class.getDeclaredMethods()) {
            if (java.lang.reflect.Modifier.isPublic(call.getModifiers())) {
                calls.add(call);
            }
        }
        calls.sort(Comparator.comparing(Method::getName));
        CHECK.due("calls of the face", calls.size(), 55);
        throwsNothing(calls);
        makesNothing();
        CHECK.end();
    }

    private static void throwsNothing(List<Method> calls) throws ReflectiveOperationException {
        Random chance = new Random(11);
        String[] courts = {"", "juror a leans 1;", "weather a;crop b on a 1;", "crop a;proof b 2;", FULL};
        for (int run = 0; run < 300; run++) {
            RainJury x = Check.with(courts[run % courts.length], run % courts.length == 4 ? WEEKS : "mood;verdict;");
            for (int i = 0; i < 512; i++) {
                Method call = calls.get(chance.nextInt(calls.size()));
                Object[] given = new Object[call.getParameterCount()];
                for (int k = 0; k < given.length; k++) {
                    int rough = ROUGH[chance.nextInt(3) == 0 ? chance.nextInt(ROUGH.length) : 7 + chance.nextInt(8)];
                    given[k] = call.getParameterTypes()[k] == long.class ? (Object) (long) rough : (Object) rough;
                }
                put(x, call, given);
            }
        }
    }

    private static void put(RainJury x, Method call, Object[] given) throws ReflectiveOperationException {
        String told = call.getName() + java.util.Arrays.toString(given);
        int old = x.status();
        Object answer;
        try {
            answer = call.invoke(x, given);
        } catch (InvocationTargetException thrown) {
            CHECK.due(told + " threw " + thrown.getCause(), 1, 0);
            return;
        }
        int status = x.status();
        CHECK.due("STATUS 0 to 11 of " + told, status >= 0 && status <= 11, true);
        boolean has = !List.of("status", "fault", "feed", "top", "bottom").contains(call.getName());
        if (!has) {
            CHECK.due("STATUS stays behind " + told, status, old);
        } else if (status != 0) {
            long got = answer instanceof Boolean ? (Boolean) answer ? 1 : -1 : ((Number) answer).longValue();
            CHECK.due(told + " with STATUS " + status, got, -1);
        } else if (answer instanceof Boolean) {
            CHECK.due(told, (Boolean) answer, true);
        }
    }

    /** What a call would make is counted by the machine; the dearest calls and the texts must make nothing. */
    private static void makesNothing() {
        com.sun.management.ThreadMXBean bean = (com.sun.management.ThreadMXBean) ManagementFactory.getThreadMXBean();
        long self = Thread.currentThread().getId();
        dearest(Check.with(FULL, WEEKS));
        RainJury x = Check.with(FULL, WEEKS);
        long before = bean.getThreadAllocatedBytes(self);
        long between = bean.getThreadAllocatedBytes(self);
        dearest(x);
        long after = bean.getThreadAllocatedBytes(self);
        CHECK.due("bytes made by calls", after - between <= between - before, true);
        before = bean.getThreadAllocatedBytes(self);
        x = new RainJury();
        after = bean.getThreadAllocatedBytes(self);
        CHECK.due("a new object takes less than 40,000 bytes", after - before < 40000 && x.status() == 0, true);
    }

    private static void dearest(RainJury x) {
        x.mark();
        for (int verdict = -1; verdict <= 1; verdict++) {
            x.bestOrder(verdict);
            x.bribes(verdict, 1, 9);
            x.drawn(5, 9, verdict);
            x.soonest(verdict);
        }
        x.settles(0);
        x.strikes(3);
        x.firstStrike(3);
        x.harvestNow(0, 20);
        x.swing();
        x.behind(0);
        x.mean(0, 0, 20);
        x.live(5);
        x.tray(0, 1, 60);
        x.copyLeanings(0);
        x.row(0, 5);
        for (int i = 0; i < 20; i++) {
            x.feed(0x6a75726f, 0x72206120, 0x6c65616e, 0x7320353b, 0x70726f6f);
        }
        x.court(5);
        x.feed(0x6a75726f, 0x72206120, 0x6c65616e, 0x7320353b, 0x20202020);
        x.court(20);
        x.back();
        x.feed(0x6d6f6f64, 0x3b6c6f6f, 0x7020393b, 0x6d6f6f64, 0x3b656e64);
        x.weeks(20);
    }
}

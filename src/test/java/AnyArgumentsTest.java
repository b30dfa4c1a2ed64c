import java.lang.reflect.Method;
import java.util.List;
import java.util.Random;

/** Whatever the arguments: no call throws, and the same calls give the same answers. */
public final class AnyArgumentsTest {
    private static final int RUNS = 300;
    private static final int CALLS = 2000;
    private static final long[] EDGES = {Integer.MIN_VALUE, Integer.MIN_VALUE + 1, -46656, -100, -64, -11, -6, -5,
        -4, -3, -2, -1, 0, 1, 2, 3, 4, 5, 6, 8, 9, 10, 11, 29, 30, 31, 32, 39, 40, 41, 63, 64, 65, 99, 100, 119, 120,
        121, 129, 130, 131, 1865, 44790, 46655, 46656, Integer.MAX_VALUE - 1, Integer.MAX_VALUE};
    private static final Check CHECK = new Check();

    public static void main(String[] args) {
        List<Method> methods = Calls.all();
        for (int run = 0; run < RUNS && CHECK.isClean(); run++) {
            runTwice(methods, run);
        }
        CHECK.end("AnyArgumentsTest");
    }

    private static void runTwice(List<Method> methods, int seed) {
        CHECK.about("run " + seed);
        Random random = new Random(seed);
        RobeHouse house = new RobeHouse();
        RobeHouse twin = new RobeHouse();
        PlainHouse plain = new PlainHouse();
        RandomRun sensible = new RandomRun(seed, plain, false);
        for (int k = 0; k < CALLS; k++) {
            // sensible calls in between bring the house into states that matter
            Calls.Call call = random.nextInt(3) == 0 || k > 600 ? wild(methods, random) : sensible.next();
            int answer = Calls.answer(house, call);
            CHECK.yes(call + " does not throw", answer != Calls.THREW);
            CHECK.due(call + " on a twin", answer, Calls.answer(twin, call));
            Calls.answer(plain, slow(call) ? new Calls.Call("count", 0) : call);
        }
    }

    /** The model's best() is too slow for so many runs. */
    private static boolean slow(Calls.Call call) {
        return call.name.equals("best");
    }

    private static Calls.Call wild(List<Method> methods, Random random) {
        Method method = methods.get(random.nextInt(methods.size()));
        long[] args = new long[method.getParameterCount()];
        for (int k = 0; k < args.length; k++) {
            args[k] = random.nextInt(8) == 0 ? random.nextLong() : EDGES[random.nextInt(EDGES.length)];
        }
        return new Calls.Call(method.getName(), args);
    }
}

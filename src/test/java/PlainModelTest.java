import java.util.ArrayList;
import java.util.List;
import java.util.Random;

/** Runs of 512 calls, each answer compared with the plain model's; then best() and clothe() alone. */
public final class PlainModelTest {
    private static final int RUNS = 400;
    private static final int RUNS_WITH_BEST = 6;
    private static final int BESTS = 60;
    private static final int CLOTHINGS = 400;
    private static final Check CHECK = new Check();

    public static void main(String[] args) {
        for (int run = 0; run < RUNS; run++) {
            compareRun(run, run < RUNS_WITH_BEST);
        }
        for (int k = 0; k < BESTS; k++) {
            compareBest(k);
        }
        for (int k = 0; k < CLOTHINGS; k++) {
            compareClothing(k);
        }
        CHECK.end("PlainModelTest");
    }

    private static int both(RobeHouse house, PlainHouse plain, String name, long... args) {
        Calls.Call call = new Calls.Call(name, args);
        int want = Calls.answer(plain, call);
        CHECK.due(call.toString(), want, Calls.answer(house, call));
        return want;
    }

    private static void compareRun(int seed, boolean withBest) {
        CHECK.about("run " + seed);
        RobeHouse house = new RobeHouse();
        PlainHouse plain = new PlainHouse();
        RandomRun calls = new RandomRun(seed, plain, withBest);
        for (int k = 0; k < 512; k++) {
            Calls.Call call = calls.next();
            both(house, plain, call.name, call.args);
        }
        compareAll(house, plain);
    }

    private static void compareAll(RobeHouse house, PlainHouse plain) {
        List<Calls.Call> looks = Looks.all();
        for (Calls.Call look : looks) {
            CHECK.due("at the end " + look, Calls.answer(plain, look), Calls.answer(house, look));
        }
    }

    private static void feed(RobeHouse house, PlainHouse plain, String text) {
        for (char c : text.toCharArray()) {
            both(house, plain, "feed", c, 1);
        }
    }

    /** Bolts of all kinds of lengths, with few patterns so that layings tie, or many. */
    private static void compareBest(int seed) {
        CHECK.about("best " + seed);
        Random random = new Random(seed);
        RobeHouse house = new RobeHouse();
        PlainHouse plain = new PlainHouse();
        int most = seed % 5 == 0 ? 18 : 6;
        int body = 1 + random.nextInt(most);
        int front = 1 + random.nextInt(most);
        int collar = 1 + random.nextInt(most);
        int rows = 2 * body + front + collar + 2 * (1 + random.nextInt(most));
        int patterns = seed % 3 == 0 ? 10 : 1 + seed % 3;
        StringBuilder text = new StringBuilder();
        for (int k = 0; k < Math.min(rows, 110); k++) {
            text.append(random.nextInt(patterns)).append(random.nextInt(12) == 0 && text.length() < 125 ? "!" : "");
        }
        feed(house, plain, text.toString());
        both(house, plain, "measure", body, front, collar);
        both(house, plain, "set", 0, random.nextInt(4));
        both(house, plain, "set", 1, random.nextInt(4));
        both(house, plain, "bolt", 0, seed % 4 == 3 ? 1 : 0);
        both(house, plain, "best", 0);
        int order = both(house, plain, "laid", 0);
        int turned = both(house, plain, "laid", 1);
        if (order >= 0) {
            both(house, plain, "ugly", 0, order, turned);
        }
    }

    /** Few robes for many people, or the other way, with rules that let some wear some. */
    private static void compareClothing(int seed) {
        CHECK.about("clothing " + seed);
        Random random = new Random(seed);
        RobeHouse house = new RobeHouse();
        PlainHouse plain = new PlainHouse();
        int robes = 1 + random.nextInt(seed % 4 == 0 ? 14 : 7);
        for (int k = 0; k < robes; k++) {
            // sleeves of 1 and more tell robes of one chest apart
            feed(house, plain, "0".repeat(14 + 2 * random.nextInt(4)));
            both(house, plain, "bolt", random.nextInt(4), 0);
            both(house, plain, "sew", k, 1865, 0);
            both(house, plain, "chest", k, random.nextInt(4));
        }
        for (int person = 0; person < 10; person++) {
            if (random.nextInt(6) > 0) {
                both(house, plain, "person", person, random.nextInt(4), random.nextInt(4));
            }
        }
        for (int chest = 0; chest < 4; chest++) {
            List<String> clauses = new ArrayList<>();
            for (int k = random.nextInt(3); k >= 0; k--) {
                String word = new String[] {"season", "age", "rank", "rank", "sleeve", "colour"}[random.nextInt(6)];
                clauses.add(word + "<=>".charAt(random.nextInt(3)) + random.nextInt(4));
            }
            feed(house, plain, String.join(";", clauses));
            both(house, plain, "rules", chest);
        }
        for (int round = 0; round < 6; round++) {
            int season = random.nextInt(4);
            both(house, plain, "clothe", season);
            for (int person = 0; person < 10; person++) {
                both(house, plain, "gets", person);
            }
            both(house, plain, "lend", random.nextInt(robes), random.nextInt(10), season);
        }
    }
}

import java.nio.charset.StandardCharsets;
import java.util.ArrayDeque;
import java.util.Deque;
import java.util.Random;

/** Makes calls that get far: mostly sensible ones, some with wrong arguments. */
final class RandomRun {
    private static final String[] WORDS = {"season", "age", "rank", "colour", "lined", "sleeve"};
    private static final int[] MOST = {4, 40, 10, 10, 2, 6};
    private final Random random;
    private final PlainHouse seen;
    private final boolean withBest;
    private final Deque<Calls.Call> waiting = new ArrayDeque<>();
    private int body = 4, front = 2, collar = 2;
    /** Small patterns and measures make many ties, great ones many misses. */
    private final int patterns;
    private final int mostMeasure;

    RandomRun(long seed, PlainHouse seen, boolean withBest) {
        random = new Random(seed);
        this.seen = seen;
        this.withBest = withBest;
        patterns = random.nextBoolean() ? 2 : 10;
        mostMeasure = random.nextInt(4) == 0 ? 12 : 5;
    }

    private int to(int end) {
        return random.nextInt(end);
    }

    /** One below end, now and then one that is not. */
    private int about(int end) {
        return to(25) == 0 ? to(end + 4) - 2 : to(Math.max(1, end));
    }

    private int aBolt() {
        for (int k = 0; k < 6; k++) {
            int bolt = about(seen.count(5));
            if (seen.about(bolt, 0) > 0) {
                return bolt;
            }
        }
        return about(seen.count(5));
    }

    private int aRobe() {
        for (int k = 0; k < 25; k++) {
            int robe = to(30);
            if (seen.robe(robe, 1) > 0) {
                return robe;
            }
        }
        return about(6);
    }

    private int anOrder() {
        int[] digits = {0, 1, 2, 3, 4, 5};
        for (int k = 5; k > 0; k--) {
            int j = to(k + 1);
            int digit = digits[k];
            digits[k] = digits[j];
            digits[j] = digit;
        }
        int order = 0;
        for (int digit : digits) {
            order = order * 6 + digit;
        }
        return to(30) == 0 ? order + to(3) - 1 : order;
    }

    private int turned() {
        return to(3) == 0 ? 63 * to(2) : about(64);
    }

    private void feed(String text) {
        byte[] bytes = text.getBytes(StandardCharsets.ISO_8859_1);
        int at = 0;
        while (at < bytes.length) {
            int n = Math.min(bytes.length - at, to(6) == 0 ? 1 + to(8) : 8);
            // the bytes above the lowest n don't matter
            long w = random.nextLong();
            for (int k = 0; k < n; k++) {
                w = w << 8 | bytes[at + k] & 255;
            }
            waiting.add(new Calls.Call("feed", w, n));
            at += n;
        }
    }

    private void aNewBolt() {
        int rows = 2 * body + front + collar + 2 * (1 + to(5)) + (to(8) == 0 ? 1 : 0);
        if (to(10) == 0) {
            rows = 1 + to(121);
        }
        StringBuilder text = new StringBuilder();
        for (int k = 0; k < rows; k++) {
            text.append((char) ('0' + to(patterns))).append(to(9) == 0 ? "!" : "");
        }
        if (to(12) == 0) {
            text.insert(to(text.length() + 1), (char) to(256));
        }
        if (text.length() > 130) {
            text.setLength(130);
        }
        feed(text.toString());
        waiting.add(new Calls.Call("bolt", about(10), to(4) == 0 ? about(2) : 0));
    }

    private void newRules() {
        StringBuilder text = new StringBuilder();
        int clauses = to(8) == 0 ? to(9) : 1 + to(2);
        for (int k = 0; k < clauses; k++) {
            int word = to(6);
            text.append(k > 0 ? ";" : "").append(WORDS[word]).append("<=>".charAt(to(3))).append(to(MOST[word]));
        }
        for (int k = to(5) == 0 ? 1 + to(2) : 0; k > 0; k--) {
            int at = to(text.length() + 1);
            if (to(2) == 0) {
                text.setLength(at);
            } else {
                text.insert(at, "seacl0123;<=> ".charAt(to(14)));
            }
        }
        if (text.length() <= 130) {
            feed(text.toString());
        }
        waiting.add(new Calls.Call("rules", about(4)));
    }

    private void newMeasures() {
        int b = 1 + to(mostMeasure);
        int f = 1 + to(mostMeasure);
        int c = 1 + to(mostMeasure);
        if (to(20) == 0) {
            waiting.add(new Calls.Call("measure", to(35), to(35), to(35)));
        }
        waiting.add(new Calls.Call("measure", b, f, c));
        body = b;
        front = f;
        collar = c;
    }

    private void one(String name, long... args) {
        waiting.add(new Calls.Call(name, args));
    }

    Calls.Call next() {
        if (waiting.isEmpty()) {
            choose();
        }
        return waiting.remove();
    }

    private void choose() {
        int kind = to(100);
        if (kind < 10) {
            aNewBolt();
        } else if (kind < 14) {
            newRules();
        } else if (kind < 34) {
            chooseOfBolts();
        } else if (kind < 66) {
            chooseOfRobes();
        } else {
            chooseOfPeople();
        }
    }

    private void chooseOfBolts() {
        switch (to(12)) {
            case 0: one("about", aBolt(), about(3)); break;
            case 1: one("row", aBolt(), about(20), about(3)); break;
            case 2: one("wash", aBolt()); break;
            case 3: one("dye", aBolt(), about(10)); break;
            case 4: newMeasures(); break;
            case 5: one("set", about(2), about(to(2) == 0 ? 3 : 10)); break;
            case 6: one("sleeves", aBolt()); break;
            case 7: one("ugly", aBolt(), anOrder(), turned()); break;
            case 8:
                if (withBest && to(4) == 0) {
                    one("best", aBolt());
                }
                one("laid", about(2));
                break;
            default: one("sew", aBolt(), anOrder(), turned()); break;
        }
    }

    private void chooseOfRobes() {
        switch (to(10)) {
            case 0: one("unpick", aRobe(), anOrder(), turned()); break;
            case 1: one("line", aRobe(), aBolt()); break;
            case 2: one("unline", aRobe()); break;
            case 3: one("wear", aRobe()); break;
            case 4: one("miss", aRobe(), about(5)); break;
            case 5:
            case 6: one("piece", aRobe(), about(6), about(5), about(3)); break;
            default: one("robe", aRobe(), about(10)); break;
        }
    }

    private void chooseOfPeople() {
        switch (to(12)) {
            case 0:
            case 1: one("person", about(10), about(to(9) == 0 ? 100 : 40), about(10)); break;
            case 2:
            case 3: one("chest", aRobe(), about(5) - 1); break;
            case 4: one("may", aRobe(), about(10), about(4)); break;
            case 5:
            case 6: one("lend", aRobe(), about(10), about(4)); break;
            case 7:
            case 8: one("back", aRobe(), about(10)); break;
            case 9: one("clothe", about(4)); break;
            case 10: one("gets", about(10)); break;
            default: one("count", about(6)); break;
        }
    }
}

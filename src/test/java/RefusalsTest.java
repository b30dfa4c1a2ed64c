import java.util.ArrayList;
import java.util.List;

/** A refused call changes nothing that other calls could tell. */
public final class RefusalsTest {
    private static final int RUNS = 12;
    private static final Check CHECK = new Check();

    public static void main(String[] args) {
        for (int run = 0; run < RUNS; run++) {
            watchRun(run);
        }
        refusedTapeStays();
        CHECK.end("RefusalsTest");
    }

    /** NONE of chest(), laid(), gets() is an answer; faults are answers too. */
    private static boolean isRefusal(Calls.Call call, int answer) {
        return answer < 0 && answer >= -5 && !(call.name.equals("chest") && answer == -1);
    }

    private static void watchRun(int seed) {
        RobeHouse house = new RobeHouse();
        PlainHouse plain = new PlainHouse();
        RandomRun calls = new RandomRun(1000 + seed, plain, false);
        for (int k = 0; k < 512; k++) {
            Calls.Call call = calls.next();
            List<Integer> before = lookAt(house);
            int answer = Calls.answer(house, call);
            Calls.answer(plain, call);
            if (isRefusal(call, answer)) {
                CHECK.about("run " + seed + ", call " + k + ", refused " + call);
                CHECK.yes("all stays as it was", before.equals(lookAt(house)));
            }
        }
    }

    private static List<Integer> lookAt(RobeHouse house) {
        List<Integer> answers = new ArrayList<>();
        for (Calls.Call look : Looks.all()) {
            answers.add(Calls.answer(house, look));
        }
        for (int what = 0; what < 2; what++) {
            int was = house.set(what, 0);
            house.set(what, was);
            answers.add(was);
        }
        return answers;
    }

    /** What is on the tape shows only when it is read. */
    private static void refusedTapeStays() {
        CHECK.about("the tape");
        RobeHouse house = new RobeHouse();
        Tapes.feed(house, "1!2");
        house.feed(0x39L, 0);
        house.feed(0x39L, 9);
        house.bolt(10, 0);
        house.bolt(0, 2);
        house.rules(4);
        house.rules(-1);
        CHECK.due("bolt(0, 0)", 0, house.bolt(0, 0));
        CHECK.due("its rows", "1! 2", Tapes.rowsOf(house, 0));
        Tapes.feed(house, "5".repeat(119) + "!");
        for (int k = 0; k < 10; k++) {
            house.feed(0x30L, 1);
        }
        CHECK.due("feed beyond 130", -4, house.feed(0x3030L, 2));
        CHECK.due("bolt of 129 rows", -131, house.bolt(0, 0));
    }
}

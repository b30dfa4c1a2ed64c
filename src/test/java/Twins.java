import java.util.ArrayList;
import java.util.EnumMap;
import java.util.List;
import java.util.Map;

/**
 * Whether a refused call changes anything: all that later calls show of the house is compared with what they show
 * of a twin that was not asked that call.
 */
final class Twins {
    private static final int NONE = -1;
    private static final int[] ORDERS = {Houses.PLAIN, Houses.REVERSED, 16605, 8530};
    private static final Map<Houses, List<List<Shown>>> UNTOUCHED = new EnumMap<>(Houses.class);

    /** A later call and its answer. */
    private static final class Shown {
        final Calls.Call call;
        final int answer;

        Shown(Calls.Call call, int answer) {
            this.call = call;
            this.answer = answer;
        }
    }

    private final RobeHouse house;
    private final List<Shown> shown = new ArrayList<>();

    private Twins(RobeHouse house) {
        this.house = house;
    }

    /** The call is refused so, and nothing is changed by it. */
    static void refused(Check check, Houses kind, int want, String name, long... args) {
        Calls.Call call = new Calls.Call(name, args);
        List<List<Shown>> due = UNTOUCHED.computeIfAbsent(kind, k -> showAll(k, null));
        check.call(want, kind.make(), name, args);
        List<List<Shown>> got = showAll(kind, call);
        for (int k = 0; k < due.size(); k++) {
            compare(check, kind + " behind a refused " + call + ": ", due.get(k), got.get(k));
        }
    }

    private static void compare(Check check, String where, List<Shown> due, List<Shown> got) {
        check.due(where + "later calls", due.size(), got.size());
        for (int k = 0; k < due.size() && k < got.size(); k++) {
            if (due.get(k).answer != got.get(k).answer) {
                check.due(where + due.get(k).call, due.get(k).answer, got.get(k).answer);
                return;
            }
        }
    }

    /** Looking uses the house up, so each way of looking has one of its own. */
    private static List<List<Shown>> showAll(Houses kind, Calls.Call refused) {
        List<List<Shown>> all = new ArrayList<>();
        for (int way = 0; way < 2; way++) {
            RobeHouse house = kind.make();
            if (refused != null) {
                Calls.answer(house, refused);
            }
            Twins looking = new Twins(house);
            if (way == 0) {
                looking.look();
                looking.readTape();
                looking.tellPeopleAnew();
            } else {
                looking.askAges();
                looking.takeApart();
            }
            all.add(looking.shown);
        }
        return all;
    }

    private int ask(String name, long... args) {
        Calls.Call call = new Calls.Call(name, args);
        int answer = Calls.answer(house, call);
        shown.add(new Shown(call, answer));
        return answer;
    }

    private void askEach(int end, String name) {
        for (int what = 0; what < end; what++) {
            ask(name, what);
        }
    }

    private void look() {
        askEach(6, "count");
        askEach(2, "laid");
        askEach(10, "gets");
        for (int bolt = 0; bolt < 40; bolt++) {
            lookAtBolt(bolt);
        }
        for (int robe = 0; robe < 30; robe++) {
            lookAtRobe(robe);
        }
        for (int season = 0; season < 4; season++) {
            ask("clothe", season);
            askEach(10, "gets");
        }
        for (int what = 0; what < 2; what++) {
            int was = ask("set", what, 0);
            house.set(what, was);
        }
    }

    private void lookAtBolt(int bolt) {
        int rows = ask("about", bolt, 0);
        if (rows == NONE) {
            return;
        }
        ask("about", bolt, 1);
        ask("about", bolt, 2);
        if (ask("sleeves", bolt) > 0) {
            for (int order : ORDERS) {
                ask("ugly", bolt, order, 0);
                ask("ugly", bolt, order, 63);
            }
        }
        for (int row = 0; row < rows; row++) {
            for (int what = 0; what < 3; what++) {
                ask("row", bolt, row, what);
            }
        }
    }

    private void lookAtRobe(int robe) {
        if (ask("robe", robe, 0) == NONE) {
            return;
        }
        for (int what = 1; what < 10; what++) {
            ask("robe", robe, what);
        }
        for (int seam = 0; seam < 5; seam++) {
            ask("miss", robe, seam);
        }
        for (int piece = 0; piece < 6; piece++) {
            for (int i = 0; ask("piece", robe, piece, i, 0) >= 0; i++) {
                ask("piece", robe, piece, i, 1);
                ask("piece", robe, piece, i, 2);
            }
        }
        for (int person = 0; person < 10; person++) {
            ask("may", robe, person, robe % 4);
        }
    }

    /** What is on the tape shows as a bolt; in a house that can have no more, as a fault of rules. */
    private void readTape() {
        int bolt = ask("bolt", 1, 0);
        if (bolt >= 0) {
            lookAtBolt(bolt);
        } else if (bolt == RobeHouse.FULL) {
            ask("rules", 3);
        }
    }

    private int robeAtHand() {
        for (int robe = 0; robe < 30; robe++) {
            if (house.robe(robe, 0) >= 0 && house.robe(robe, 8) == NONE) {
                return robe;
            }
        }
        return 0;
    }

    /** The rules of chests show by people of all kinds. */
    private void tellPeopleAnew() {
        int robe = robeAtHand();
        for (int chest = 0; chest < 4; chest++) {
            ask("chest", robe, chest);
            for (int k = 0; k < 10; k++) {
                ask("person", 0, new int[] {0, 19, 20, 21, 99}[k % 5], new int[] {4, 5}[k / 5]);
                for (int season = 0; season < 4; season++) {
                    ask("may", robe, 0, season);
                }
            }
        }
    }

    /** Ages and ranks of people show by rules for each. */
    private void askAges() {
        int robe = robeAtHand();
        ask("chest", robe, 3);
        house.rules(3);
        for (int n = 0; n < 110; n++) {
            Tapes.rules(house, n < 100 ? "age=" + n : "rank=" + (n - 100), 3);
            for (int person = 0; person < 10; person++) {
                ask("may", robe, person, 0);
            }
        }
    }

    private void takeApart() {
        for (int bolt = 0; bolt < 40; bolt++) {
            if (ask("wash", bolt) >= 0) {
                ask("best", bolt);
                askEach(2, "laid");
                int robe = ask("sew", bolt, Houses.PLAIN, 0);
                if (robe >= 0) {
                    lookAtRobe(robe);
                }
            }
        }
        for (int robe = 0; robe < 30; robe++) {
            ask("back", robe, 1);
            if (ask("wear", robe) >= 0) {
                ask("unline", robe);
                ask("unpick", robe, Houses.REVERSED, 0);
            }
        }
        look();
    }
}

import java.util.ArrayList;
import java.util.EnumMap;
import java.util.LinkedHashMap;
import java.util.List;
import java.util.Map;

/** Whether a refused call changes anything: a house that was asked it and the plain model that was not go on alike. */
final class Twins {
    private static final Map<Houses, List<Later>> LATER = new EnumMap<>(Houses.class);
    private static final Map<Houses, PlainHouse> PLAIN = new EnumMap<>(Houses.class);

    private Twins() {
    }

    /** The call is refused so, and nothing that later calls show is changed by it. */
    static void refused(Check check, Houses kind, int want, String name, long... args) {
        Calls.Call call = new Calls.Call(name, args);
        PlainHouse plain = PLAIN.computeIfAbsent(kind, Houses::makePlain);
        check.due(kind + ": the model's " + call, want, Calls.answer(plain, call));
        for (Later later : LATER.computeIfAbsent(kind, Later::ways)) {
            RobeHouse house = kind.make();
            check.call(want, house, name, args);
            later.compare(check, kind + " behind a refused " + call + ": ", house);
        }
    }

    /** Calls by which all that a house holds shows, with the model's answers. They use the house up. */
    private static final class Later {
        private static final int[] ORDERS = {Houses.PLAIN, Houses.REVERSED, 16605, 8530};
        private final Object model;
        private final List<Calls.Call> calls = new ArrayList<>();
        private final List<Integer> answers = new ArrayList<>();
        /** Those that are refused come last: they might change what is to be shown. */
        private final Map<String, Calls.Call> refused = new LinkedHashMap<>();

        private Later(Houses kind) {
            model = kind.makePlain();
        }

        static List<Later> ways(Houses kind) {
            Later looking = new Later(kind);
            looking.look();
            looking.readTape();
            looking.tellPeopleAnew();
            looking.askRefused();
            Later takingApart = new Later(kind);
            takingApart.askAges();
            takingApart.takeApart();
            takingApart.askRefused();
            return List.of(looking, takingApart);
        }

        void compare(Check check, String where, RobeHouse house) {
            for (int k = 0; k < calls.size(); k++) {
                int got = Calls.answer(house, calls.get(k));
                if (got != answers.get(k)) {
                    check.due(where + calls.get(k), answers.get(k), got);
                    return;
                }
            }
        }

        private int ask(String name, long... args) {
            return ask(new Calls.Call(name, args));
        }

        private int ask(Calls.Call call) {
            int answer = Calls.answer(model, call);
            if (isRefusal(call, answer)) {
                refused.put(call.toString(), call);
            } else {
                calls.add(call);
                answers.add(answer);
            }
            return answer;
        }

        private void askRefused() {
            for (Calls.Call call : refused.values()) {
                calls.add(call);
                answers.add(Calls.answer(model, call));
            }
        }

        /** Whether an answer below 0 is no answer: NONE may be one, and so are faults. */
        private boolean isRefusal(Calls.Call call, int answer) {
            switch (call.name) {
                case "gets":
                case "laid":
                    return false;
                case "chest":
                    return answer < -1;
                case "robe":
                    return Calls.answer(model, "robe", call.args[0], 0) < 0;
                default:
                    return answer < 0 && answer > -10;
            }
        }

        private void askEach(int end, String name) {
            for (int what = 0; what < end; what++) {
                ask(name, what);
            }
        }

        private void look() {
            askEach(6, "count");
            askEach(2, "laid");
            askEach(10, "gets");
            for (int bolt = 0; bolt < 40; bolt++) {
                lookAtBolt(bolt);
            }
            for (int robe = 0; robe < 30; robe++) {
                lookAtRobe(robe);
            }
            for (int season = 0; season < 4; season++) {
                ask("clothe", season);
                askEach(10, "gets");
            }
            for (int what = 0; what < 2; what++) {
                ask("set", what, ask("set", what, 0));
            }
        }

        private void lookAtBolt(int bolt) {
            ask("about", bolt, 1);
            ask("about", bolt, 2);
            if (ask("sleeves", bolt) > 0) {
                for (int order : ORDERS) {
                    ask("ugly", bolt, order, 0);
                    ask("ugly", bolt, order, 63);
                }
            }
            int rows = ask("about", bolt, 0);
            for (int row = 0; row < rows; row++) {
                for (int what = 0; what < 3; what++) {
                    ask("row", bolt, row, what);
                }
            }
        }

        private void lookAtRobe(int robe) {
            if (ask("robe", robe, 0) < 0) {
                return;
            }
            for (int what = 1; what < 10; what++) {
                ask("robe", robe, what);
            }
            for (int seam = 0; seam < 5; seam++) {
                ask("miss", robe, seam);
            }
            int[] whatOfPiece = {2, 2, 1, 1, 3, 4};
            for (int piece = 0; piece < 6; piece++) {
                int rows = Calls.answer(model, "robe", robe, whatOfPiece[piece]);
                for (int k = 0; k < 3 * rows; k++) {
                    ask("piece", robe, piece, k / 3, k % 3);
                }
            }
            for (int k = 0; k < 40; k++) {
                ask("may", robe, k / 4, k % 4);
            }
        }

        /** What is on the tape shows as a bolt; in a house that can have no more, as a fault of rules. */
        private void readTape() {
            int bolt = ask("bolt", 1, 0);
            if (bolt >= 0) {
                lookAtBolt(bolt);
            } else if (bolt == RobeHouse.FULL) {
                ask("rules", 3);
            }
        }

        private int robeAtHand() {
            for (int robe = 0; robe < 30; robe++) {
                if (Calls.answer(model, "robe", robe, 0) >= 0 && Calls.answer(model, "robe", robe, 8) < 0) {
                    return robe;
                }
            }
            return 0;
        }

        /** The rules of chests show by people of all kinds. */
        private void tellPeopleAnew() {
            int robe = robeAtHand();
            int[] ages = {0, 19, 20, 21, 99};
            for (int chest = 0; chest < 4; chest++) {
                ask("chest", robe, chest);
                for (int k = 0; k < 40; k++) {
                    ask("person", 0, ages[k % 5], 4 + k / 5 % 2);
                    ask("may", robe, 0, k / 10);
                }
            }
        }

        /** Ages and ranks of people show by rules for each. */
        private void askAges() {
            int robe = robeAtHand();
            ask("chest", robe, 3);
            ask("rules", 3);
            for (int n = 0; n < 110; n++) {
                ask(Tapes.feedOf(n < 100 ? "age=" + n : "rank=" + (n - 100)));
                ask("rules", 3);
                for (int person = 0; person < 10; person++) {
                    ask("may", robe, person, 0);
                }
            }
        }

        private void takeApart() {
            // the model is slow in this: one is enough to show what it goes by
            ask("best", 8);
            askEach(2, "laid");
            for (int bolt = 0; bolt < 40; bolt++) {
                ask("wash", bolt);
                int robe = ask("sew", bolt, Houses.PLAIN, 0);
                if (robe >= 0) {
                    lookAtRobe(robe);
                }
            }
            for (int robe = 0; robe < 30; robe++) {
                ask("back", robe, 1);
                ask("wear", robe);
                ask("unline", robe);
                ask("unpick", robe, Houses.REVERSED, 0);
            }
            look();
        }
    }
}

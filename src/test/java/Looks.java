import java.util.ArrayList;
import java.util.List;

/** The calls that change nothing, over all that there can be. */
final class Looks {
    private static final List<Calls.Call> ALL = make();

    private Looks() {
    }

    static List<Calls.Call> all() {
        return ALL;
    }

    private static List<Calls.Call> make() {
        List<Calls.Call> looks = new ArrayList<>();
        for (int what = 0; what <= 5; what++) {
            looks.add(new Calls.Call("count", what));
        }
        looks.add(new Calls.Call("laid", 0));
        looks.add(new Calls.Call("laid", 1));
        for (int bolt = 0; bolt < 40; bolt++) {
            looks.add(new Calls.Call("sleeves", bolt));
            looks.add(new Calls.Call("ugly", bolt, 44790, 0));
            for (int what = 0; what < 3; what++) {
                looks.add(new Calls.Call("about", bolt, what));
                for (int row = 0; row < 120; row += row < 30 ? 1 : 7) {
                    looks.add(new Calls.Call("row", bolt, row, what));
                }
            }
        }
        for (int robe = 0; robe < 30; robe++) {
            for (int what = 0; what < 10; what++) {
                looks.add(new Calls.Call("robe", robe, what));
            }
            for (int seam = 0; seam < 5; seam++) {
                looks.add(new Calls.Call("miss", robe, seam));
            }
            for (int piece = 0; piece < 6; piece++) {
                for (int i = 0; i < 9; i++) {
                    for (int what = 0; what < 3; what++) {
                        looks.add(new Calls.Call("piece", robe, piece, i, what));
                    }
                }
            }
            for (int person = 0; person < 10; person++) {
                looks.add(new Calls.Call("may", robe, person, robe % 4));
            }
        }
        for (int person = 0; person < 10; person++) {
            looks.add(new Calls.Call("gets", person));
        }
        return looks;
    }
}

import java.nio.charset.StandardCharsets;

/** Feeds texts to a RobeHouse or a PlainHouse, and tells rows as texts. */
final class Tapes {
    private Tapes() {
    }

    /** Feeds a whole text by eights: the last answer, or the first refusal. */
    static int feed(Object house, String text) {
        int answer = Calls.answer(house, "count", 4);
        for (int at = 0; at < text.length() && answer >= 0; at += 8) {
            answer = Calls.answer(house, feedOf(text.substring(at, Math.min(at + 8, text.length()))));
        }
        return answer;
    }

    /** The call that feeds up to eight signs. */
    static Calls.Call feedOf(String text) {
        long w = 0;
        for (byte b : text.getBytes(StandardCharsets.ISO_8859_1)) {
            w = w << 8 | b & 255;
        }
        return new Calls.Call("feed", w, text.length());
    }

    static int bolt(Object house, String text, int colour, int oneWay) {
        feed(house, text);
        return Calls.answer(house, "bolt", colour, oneWay);
    }

    static int rules(Object house, String text, int chest) {
        feed(house, text);
        return Calls.answer(house, "rules", chest);
    }

    /** The patterns, flaws and worn of a bolt as a text: "3 4! 5(2)". */
    static String rowsOf(RobeHouse house, int bolt) {
        StringBuilder text = new StringBuilder();
        for (int i = 0; i < house.about(bolt, 0); i++) {
            append(text, house.row(bolt, i, 0), house.row(bolt, i, 1), house.row(bolt, i, 2));
        }
        return text.toString().trim();
    }

    static String pieceOf(RobeHouse house, int robe, int piece) {
        StringBuilder text = new StringBuilder();
        for (int i = 0; i < 120 && house.piece(robe, piece, i, 0) >= 0; i++) {
            append(text, house.piece(robe, piece, i, 0), house.piece(robe, piece, i, 1),
                    house.piece(robe, piece, i, 2));
        }
        return text.toString().trim();
    }

    private static void append(StringBuilder text, int pattern, int flawed, int worn) {
        text.append(pattern).append(flawed == 1 ? "!" : "");
        text.append(worn > 0 ? "(" + worn + ")" : "").append(' ');
    }
}

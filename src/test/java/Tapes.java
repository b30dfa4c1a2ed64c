import java.nio.charset.StandardCharsets;

/** Feeds texts. */
final class Tapes {
    private Tapes() {
    }

    /** Feeds a whole text by eights: the last answer, or the first refusal. */
    static int feed(RobeHouse house, String text) {
        byte[] bytes = text.getBytes(StandardCharsets.ISO_8859_1);
        int answer = house.count(4);
        for (int at = 0; at < bytes.length && answer >= 0; at += 8) {
            int n = Math.min(8, bytes.length - at);
            long w = 0;
            for (int k = 0; k < n; k++) {
                w = w << 8 | bytes[at + k] & 255;
            }
            answer = house.feed(w, n);
        }
        return answer;
    }

    static int bolt(RobeHouse house, String text, int colour, int oneWay) {
        feed(house, text);
        return house.bolt(colour, oneWay);
    }

    static int rules(RobeHouse house, String text, int chest) {
        feed(house, text);
        return house.rules(chest);
    }

    /** The patterns, flaws and worn of a bolt as a text: "3 4! 5(2)". */
    static String rowsOf(RobeHouse house, int bolt) {
        StringBuilder text = new StringBuilder();
        for (int i = 0; i < house.about(bolt, 0); i++) {
            append(text, house.row(bolt, i, 0), house.row(bolt, i, 1), house.row(bolt, i, 2));
        }
        return text.toString().trim();
    }

    static String pieceOf(RobeHouse house, int robe, int piece) {
        StringBuilder text = new StringBuilder();
        for (int i = 0; house.piece(robe, piece, i, 0) >= 0; i++) {
            append(text, house.piece(robe, piece, i, 0), house.piece(robe, piece, i, 1),
                    house.piece(robe, piece, i, 2));
        }
        return text.toString().trim();
    }

    private static void append(StringBuilder text, int pattern, int flawed, int worn) {
        text.append(pattern).append(flawed == 1 ? "!" : "");
        text.append(worn > 0 ? "(" + worn + ")" : "").append(' ');
    }
}

import java.nio.charset.StandardCharsets;
import java.util.ArrayList;
import java.util.Collections;
import java.util.List;

/** The document again, as plainly as can be and without a thought for speed, to compare answers with. */
final class PlainHouse {
    private static final int NONE = -1, BAD = -2, STATE = -3, FULL = -4;
    private static final int[] ORDERS =
            java.util.stream.IntStream.range(0, 46656).filter(order -> piecesOf(order) != null).toArray();
    private static final String[] WORDS = {"season", "age", "rank", "colour", "lined", "sleeve"};

    private static final class Row {
        int pattern;
        boolean flawed;
        int worn;

        int what(int what) {
            return what == 0 ? pattern : what == 1 ? (flawed ? 1 : 0) : what == 2 ? worn : NONE;
        }
    }

    private static final class Bolt {
        List<Row> rows = new ArrayList<>();
        int colour;
        int oneWay;
    }

    private static final class Robe {
        List<List<Row>> pieces = new ArrayList<>();
        int colour;
        int oneWay;
        Bolt lining;
        int chest = NONE;
        int who = NONE;

        int rows() {
            return pieces.stream().mapToInt(List::size).sum();
        }
    }

    private String tape = "";
    private final List<Bolt> bolts = new ArrayList<>();
    private final List<Robe> robes = new ArrayList<>();
    private int body = 4, front = 2, collar = 2;
    private final int[] settings = {0, 2};
    private final int[] laid = {NONE, NONE};
    private final String[] rules = {"", "", "", ""};
    private final int[][] people = new int[10][];
    private int[] gets = {NONE, NONE, NONE, NONE, NONE, NONE, NONE, NONE, NONE, NONE};

    private static boolean in(int n, int from, int to) {
        return from <= n && n <= to;
    }

    private Bolt boltOf(int i) {
        return in(i, 0, bolts.size() - 1) ? bolts.get(i) : null;
    }

    private Robe robeOf(int i) {
        return in(i, 0, robes.size() - 1) ? robes.get(i) : null;
    }

    int feed(long w, int n) {
        if (!in(n, 1, 8)) {
            return BAD;
        }
        if (tape.length() + n > 130) {
            return FULL;
        }
        byte[] bytes = new byte[n];
        for (int k = n - 1; k >= 0; k--) {
            bytes[k] = (byte) w;
            w >>>= 8;
        }
        tape += new String(bytes, StandardCharsets.ISO_8859_1);
        return tape.length();
    }

    /** Whether a text can be the beginning of a bolt's. */
    private static boolean beginsBolt(String text) {
        return text.matches("([0-9]!?){0,120}");
    }

    private static boolean beginsRules(String text) {
        String[] clauses = text.split(";", -1);
        for (int k = 0; k < clauses.length - 1; k++) {
            if (!isClause(clauses[k])) {
                return false;
            }
        }
        return clauses.length <= 6 && beginsClause(clauses[clauses.length - 1]);
    }

    private static boolean isClause(String text) {
        return text.matches("(season|age|rank|colour|lined|sleeve)[<=>](0|[1-9][0-9]?)");
    }

    private static boolean beginsClause(String text) {
        for (String word : WORDS) {
            if (word.startsWith(text) || text.startsWith(word) && (text.length() == word.length()
                    || text.substring(word.length()).matches("[<=>](0|[1-9][0-9]?)?"))) {
                return true;
            }
        }
        return false;
    }

    private static int fault(String text, boolean asBolt) {
        int n = 0;
        while (n < text.length()
                && (asBolt ? beginsBolt(text.substring(0, n + 1)) : beginsRules(text.substring(0, n + 1)))) {
            n++;
        }
        return -10 - n;
    }

    private String takeTape() {
        String text = tape;
        tape = "";
        return text;
    }

    int bolt(int colour, int oneWay) {
        if (!in(colour, 0, 9) || !in(oneWay, 0, 1)) {
            return BAD;
        }
        if (bolts.size() == 40) {
            return FULL;
        }
        String text = takeTape();
        if (text.isEmpty() || !beginsBolt(text)) {
            return fault(text, true);
        }
        Bolt bolt = new Bolt();
        bolt.colour = colour;
        bolt.oneWay = oneWay;
        for (char c : text.toCharArray()) {
            if (c == '!') {
                bolt.rows.get(bolt.rows.size() - 1).flawed = true;
            } else {
                Row row = new Row();
                row.pattern = c - '0';
                bolt.rows.add(row);
            }
        }
        return add(bolt);
    }

    private int add(Bolt bolt) {
        bolts.add(bolt);
        return bolts.size() - 1;
    }

    int about(int i, int what) {
        Bolt bolt = boltOf(i);
        if (bolt == null || !in(what, 0, 2)) {
            return NONE;
        }
        return new int[] {bolt.rows.size(), bolt.colour, bolt.oneWay}[what];
    }

    int row(int i, int row, int what) {
        Bolt bolt = boltOf(i);
        return bolt == null || !in(row, 0, bolt.rows.size() - 1) ? NONE : bolt.rows.get(row).what(what);
    }

    int wash(int i) {
        Bolt bolt = boltOf(i);
        if (bolt == null) {
            return NONE;
        }
        bolt.colour = Math.max(0, bolt.colour - 1);
        return bolt.colour;
    }

    int dye(int i, int colour) {
        Bolt bolt = boltOf(i);
        if (bolt == null) {
            return NONE;
        }
        if (!in(colour, 0, 9)) {
            return BAD;
        }
        if (bolt.colour >= colour) {
            return STATE;
        }
        bolt.colour = colour;
        int n = 0;
        for (Row row : bolt.rows) {
            if (row.pattern < colour) {
                row.pattern = colour;
                n++;
            }
        }
        return n;
    }

    int measure(int b, int f, int c) {
        if (!in(b, 1, 30) || !in(f, 1, 30) || !in(c, 1, 30)) {
            return BAD;
        }
        body = b;
        front = f;
        collar = c;
        return 0;
    }

    int set(int what, int n) {
        if (!in(what, 0, 1)) {
            return NONE;
        }
        if (!in(n, 0, 9)) {
            return BAD;
        }
        int was = settings[what];
        settings[what] = n;
        return was;
    }

    private int sleeveOf(Bolt bolt) {
        int left = bolt.rows.size() - body - body - front - collar;
        return left >= 2 && left % 2 == 0 ? left / 2 : STATE;
    }

    int sleeves(int i) {
        Bolt bolt = boltOf(i);
        return bolt == null ? NONE : sleeveOf(bolt);
    }

    /** The digits of an order that has every piece once, else null. */
    private static int[] piecesOf(int order) {
        if (order < 0 || order >= 6 * 6 * 6 * 6 * 6 * 6) {
            return null;
        }
        int[] pieces = new int[6];
        boolean[] met = new boolean[6];
        for (int k = 5; k >= 0; k--) {
            pieces[k] = order % 6;
            order /= 6;
            if (met[pieces[k]]) {
                return null;
            }
            met[pieces[k]] = true;
        }
        return pieces;
    }

    private static boolean isLaying(int order, int turned, int oneWay) {
        return piecesOf(order) != null && in(turned, 0, 63) && (oneWay == 0 || turned == 0 || turned == 63);
    }

    private List<List<Row>> cut(Bolt bolt, int order, int turned) {
        int sleeve = sleeveOf(bolt);
        int[] lengths = {body, body, sleeve, sleeve, front, collar};
        List<List<Row>> pieces = new ArrayList<>(Collections.nCopies(6, null));
        int at = 0;
        for (int piece : piecesOf(order)) {
            List<Row> rows = new ArrayList<>(bolt.rows.subList(at, at + lengths[piece]));
            if ((turned & 1 << piece) != 0) {
                Collections.reverse(rows);
            }
            pieces.set(piece, rows);
            at += lengths[piece];
        }
        return pieces;
    }

    private boolean unlike(Row a, Row b) {
        int up = Math.floorMod(a.pattern - b.pattern, 10);
        int down = Math.floorMod(b.pattern - a.pattern, 10);
        return Math.min(up, down) > settings[0];
    }

    private int missOf(List<List<Row>> p, int seam) {
        int size = p.get(0).size();
        int n = 0;
        for (int i = 0; i < 30; i++) {
            Row a = null;
            Row b = null;
            if (seam == 0) {
                a = get(p.get(0), i);
                b = get(p.get(1), i);
            } else if (seam <= 2) {
                a = i < size / 2 ? get(p.get(seam + 1), i) : null;
                b = get(p.get(seam - 1), i);
            } else if (seam == 3) {
                a = get(p.get(4), i);
                b = get(p.get(0), size - 1 - i);
            } else {
                a = get(p.get(5), i);
                b = get(p.get(4), i);
            }
            if (a != null && b != null && unlike(a, b)) {
                n++;
            }
        }
        return n;
    }

    private static Row get(List<Row> rows, int i) {
        return in(i, 0, rows.size() - 1) ? rows.get(i) : null;
    }

    private int shownOf(List<List<Row>> pieces) {
        int n = 0;
        for (List<Row> rows : pieces) {
            for (int i = 0; i < rows.size(); i++) {
                boolean inFold = i < settings[1] || rows.size() - 1 - i < settings[1];
                if (!inFold && (rows.get(i).flawed || rows.get(i).worn >= 3)) {
                    n++;
                }
            }
        }
        return n;
    }

    private int uglyOf(List<List<Row>> pieces) {
        int sum = 5 * shownOf(pieces);
        for (int seam = 0; seam < 5; seam++) {
            sum += missOf(pieces, seam);
        }
        return sum;
    }

    private int refusal(int i, int order, int turned) {
        Bolt bolt = boltOf(i);
        if (bolt == null) {
            return NONE;
        }
        if (!isLaying(order, turned, bolt.oneWay)) {
            return BAD;
        }
        return sleeveOf(bolt) < 0 ? STATE : 0;
    }

    int ugly(int i, int order, int turned) {
        int refusal = refusal(i, order, turned);
        return refusal < 0 ? refusal : uglyOf(cut(bolts.get(i), order, turned));
    }

    int best(int i) {
        Bolt bolt = boltOf(i);
        if (bolt == null) {
            return NONE;
        }
        if (sleeveOf(bolt) < 0) {
            return STATE;
        }
        int[] found = null;
        for (int order : ORDERS) {
            for (int turned = 0; turned < 64; turned++) {
                if (isLaying(order, turned, bolt.oneWay)) {
                    int[] now = {uglyOf(cut(bolt, order, turned)), order, Integer.bitCount(turned), turned};
                    if (found == null || java.util.Arrays.compare(now, found) < 0) {
                        found = now;
                    }
                }
            }
        }
        laid[0] = found[1];
        laid[1] = found[3];
        return found[0];
    }

    int laid(int what) {
        return in(what, 0, 1) ? laid[what] : NONE;
    }

    int sew(int i, int order, int turned) {
        int refusal = refusal(i, order, turned);
        if (refusal < 0) {
            return refusal;
        }
        if (robes.size() == 30) {
            return FULL;
        }
        Robe robe = new Robe();
        robe.pieces = cut(bolts.get(i), order, turned);
        robe.colour = bolts.get(i).colour;
        robe.oneWay = bolts.get(i).oneWay;
        bolts.set(i, null);
        robes.add(robe);
        return robes.size() - 1;
    }

    int robe(int i, int what) {
        Robe robe = robeOf(i);
        if (robe == null || !in(what, 0, 9)) {
            return NONE;
        }
        return new int[] {robe.colour, robe.pieces.get(2).size(), robe.pieces.get(0).size(),
            robe.pieces.get(4).size(), robe.pieces.get(5).size(), robe.lining == null ? 0 : 1,
            robe.lining == null ? 0 : robe.lining.rows.size(), robe.chest, robe.who, shownOf(robe.pieces)}[what];
    }

    int piece(int i, int piece, int row, int what) {
        Robe robe = robeOf(i);
        if (robe == null || !in(piece, 0, 5) || get(robe.pieces.get(piece), row) == null) {
            return NONE;
        }
        return robe.pieces.get(piece).get(row).what(what);
    }

    int miss(int i, int seam) {
        Robe robe = robeOf(i);
        return robe == null || !in(seam, 0, 4) ? NONE : missOf(robe.pieces, seam);
    }

    int wear(int i) {
        Robe robe = robeOf(i);
        return robe == null ? NONE : wearOnce(robe);
    }

    private static int wearOnce(Robe robe) {
        List<Row> rows = new ArrayList<>(robe.pieces.get(5));
        for (int piece = 0; piece < 2; piece++) {
            rows.add(robe.pieces.get(piece).get(robe.pieces.get(piece).size() / 2));
            List<Row> sleeve = robe.pieces.get(piece + 2);
            rows.addAll(sleeve.subList(0, Math.min(3, sleeve.size())));
        }
        int n = 0;
        for (Row row : rows) {
            if (row.worn < 9) {
                row.worn++;
                n++;
            }
        }
        return n;
    }

    int unpick(int i, int order, int turned) {
        Robe robe = robeOf(i);
        if (robe == null) {
            return NONE;
        }
        if (!isLaying(order, turned, robe.oneWay)) {
            return BAD;
        }
        if (robe.who != NONE || robe.lining != null) {
            return STATE;
        }
        if (bolts.size() == 40) {
            return FULL;
        }
        Bolt bolt = new Bolt();
        bolt.colour = robe.colour;
        bolt.oneWay = robe.oneWay;
        for (int piece : piecesOf(order)) {
            List<Row> rows = new ArrayList<>(robe.pieces.get(piece));
            if ((turned & 1 << piece) != 0) {
                Collections.reverse(rows);
            }
            bolt.rows.addAll(rows);
        }
        robes.set(i, null);
        return add(bolt);
    }

    int line(int i, int j) {
        Robe robe = robeOf(i);
        Bolt bolt = boltOf(j);
        if (robe == null || bolt == null) {
            return NONE;
        }
        if (robe.lining != null || bolt.rows.size() < robe.rows()) {
            return STATE;
        }
        robe.lining = new Bolt();
        robe.lining.colour = bolt.colour;
        robe.lining.oneWay = bolt.oneWay;
        for (int k = robe.rows(); k > 0; k--) {
            robe.lining.rows.add(bolt.rows.remove(0));
        }
        if (bolt.rows.isEmpty()) {
            bolts.set(j, null);
        }
        return bolt.rows.size();
    }

    int unline(int i) {
        Robe robe = robeOf(i);
        if (robe == null) {
            return NONE;
        }
        if (robe.lining == null) {
            return STATE;
        }
        if (bolts.size() == 40) {
            return FULL;
        }
        Bolt bolt = robe.lining;
        robe.lining = null;
        return add(bolt);
    }

    int rules(int chest) {
        if (!in(chest, 0, 3)) {
            return NONE;
        }
        String text = takeTape();
        String[] clauses = text.split(";", -1);
        if (!beginsRules(text) || !isClause(clauses[clauses.length - 1])) {
            return fault(text, false);
        }
        rules[chest] = text;
        return clauses.length;
    }

    int chest(int i, int chest) {
        Robe robe = robeOf(i);
        if (robe == null || !in(chest, -1, 3)) {
            return -5;
        }
        if (robe.who != NONE) {
            return STATE;
        }
        int was = robe.chest;
        robe.chest = chest;
        return was;
    }

    int person(int person, int age, int rank) {
        if (!in(person, 0, 9)) {
            return NONE;
        }
        if (!in(age, 0, 99) || !in(rank, 0, 9)) {
            return BAD;
        }
        int isNew = people[person] == null ? 1 : 0;
        people[person] = new int[] {age, rank};
        return isNew;
    }

    private boolean told(int person) {
        return in(person, 0, 9) && people[person] != null;
    }

    private boolean allowed(Robe robe, int person, int season) {
        String text = rules[robe.chest];
        if (text.isEmpty()) {
            return true;
        }
        for (String clause : text.split(";")) {
            String[] parts = clause.split("[<=>]");
            int value = 0;
            switch (parts[0]) {
                case "season": value = season; break;
                case "age": value = people[person][0]; break;
                case "rank": value = people[person][1]; break;
                case "colour": value = robe.colour; break;
                case "lined": value = robe.lining == null ? 0 : 1; break;
                default: value = robe.pieces.get(2).size(); break;
            }
            int number = Integer.parseInt(parts[1]);
            boolean holds = clause.contains("<") ? value < number : clause.contains("=") ? value == number
                    : value > number;
            if (!holds) {
                return false;
            }
        }
        return true;
    }

    private int refusalOfMay(int i, int person, int season) {
        Robe robe = robeOf(i);
        if (robe == null || !told(person)) {
            return NONE;
        }
        if (!in(season, 0, 3)) {
            return BAD;
        }
        return robe.chest == NONE || robe.who != NONE ? STATE : 0;
    }

    int may(int i, int person, int season) {
        int refusal = refusalOfMay(i, person, season);
        return refusal < 0 ? refusal : allowed(robes.get(i), person, season) ? 1 : 0;
    }

    private boolean has(int person) {
        return robes.stream().anyMatch(robe -> robe != null && robe.who == person);
    }

    int lend(int i, int person, int season) {
        int refusal = refusalOfMay(i, person, season);
        if (refusal < 0) {
            return refusal;
        }
        if (has(person) || !allowed(robes.get(i), person, season)) {
            return STATE;
        }
        robes.get(i).who = person;
        return 0;
    }

    int back(int i, int n) {
        Robe robe = robeOf(i);
        if (robe == null) {
            return NONE;
        }
        if (!in(n, 0, 9)) {
            return BAD;
        }
        if (robe.who == NONE) {
            return STATE;
        }
        int who = robe.who;
        robe.who = NONE;
        for (int k = 0; k < n; k++) {
            wearOnce(robe);
        }
        return who;
    }

    /** All ways, person by person; the first of those with the most robes is the one that is due. */
    private static final class Ways {
        final List<List<Integer>> choices = new ArrayList<>();
        int most = -1;
        int[] found = null;

        void tryAll(int person, long taken, int n, int[] now) {
            if (person == 10) {
                if (n > most) {
                    most = n;
                    found = now.clone();
                }
                return;
            }
            // with as many as are left it can't become more
            if (n + 10 - person <= most) {
                return;
            }
            for (int robe : choices.get(person)) {
                if ((taken & 1L << robe) == 0) {
                    now[person] = robe;
                    tryAll(person + 1, taken | 1L << robe, n + 1, now);
                }
            }
            now[person] = NONE;
            tryAll(person + 1, taken, n, now);
        }
    }

    int clothe(int season) {
        if (!in(season, 0, 3)) {
            return BAD;
        }
        Ways ways = new Ways();
        for (int person = 0; person < 10; person++) {
            List<Integer> choices = new ArrayList<>();
            for (int i = 0; i < robes.size(); i++) {
                if (told(person) && !has(person) && refusalOfMay(i, person, season) == 0
                        && allowed(robes.get(i), person, season)) {
                    choices.add(i);
                }
            }
            ways.choices.add(choices);
        }
        ways.tryAll(0, 0, 0, new int[10]);
        gets = ways.found;
        return ways.most;
    }

    int gets(int person) {
        return in(person, 0, 9) ? gets[person] : NONE;
    }

    int count(int what) {
        int boltsThere = 0;
        int robesThere = 0;
        int lent = 0;
        int rows = 0;
        for (Bolt bolt : bolts) {
            boltsThere += bolt == null ? 0 : 1;
            rows += bolt == null ? 0 : bolt.rows.size();
        }
        for (Robe robe : robes) {
            robesThere += robe == null ? 0 : 1;
            lent += robe != null && robe.who != NONE ? 1 : 0;
            rows += robe == null ? 0 : robe.rows() + (robe.lining == null ? 0 : robe.lining.rows.size());
        }
        return in(what, 0, 5)
                ? new int[] {boltsThere, robesThere, lent, rows, tape.length(), bolts.size()}[what] : NONE;
    }
}

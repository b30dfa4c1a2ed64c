import java.util.Arrays;

/**
 * A house in which cloth is never cut away: bolts are sewn into robes, robes are worn, lined,
 * lent from chests with rules, and unpicked into bolts again.
 */
public final class RobeHouse {
    public static final int NONE = -1, BAD = -2, STATE = -3, FULL = -4;

    /** What chest() refuses with, as NONE is an answer of it. */
    private static final int NO_SUCH = -5;
    /** A fault at the tape's place 0; later places are further below. */
    private static final int FAULT = -10;

    private static final int MOST_BOLTS = 40;
    private static final int MOST_ROWS = 120;
    private static final int MOST_BYTES = 130;
    private static final int MOST_ROBES = 30;
    private static final int MOST_CLAUSES = 6;
    private static final int MOST_MEASURE = 30;
    private static final int MOST_WORN = 9;
    private static final int SPOT_WORN = 3;
    private static final int SLEEVE_ROWS_WORN = 3;
    private static final int UGLY_OF_SHOWN = 5;
    private static final int CHESTS = 4;
    private static final int SEASONS = 4;
    private static final int PEOPLE = 10;
    private static final int COLOURS = 10;

    private static final int PIECES = 6;
    private static final int ALL_PIECES = 63;
    private static final int BODY = 0, SECOND_BODY = 1;
    private static final int SLEEVE = 2, SECOND_SLEEVE = 3;
    private static final int FRONT = 4, COLLAR = 5;
    /** The order 0, 1, .. 5, in which a robe keeps its pieces. */
    private static final int ROBE_ORDER = 1865;
    private static final int ORDERS_END = 46656;

    private static final int SEAMS = 5;
    private static final int SEAM_A = 0, SEAM_B = 1, SEAM_C = 2, SEAM_D = 3, SEAM_E = 4;
    /** Seam s sews piece s + 1 to this one, which is always a lesser one: the seams make a tree. */
    private static final int[] SEWN_TO = {0, 0, 1, 0, 4};

    /** A row is one number: the pattern, whether it is flawed, and from WORN_SHIFT on how worn. */
    private static final int PATTERN_BITS = 15;
    private static final int FLAWED_SHIFT = 4;
    private static final int FLAWED = 1 << FLAWED_SHIFT;
    private static final int WORN_SHIFT = 5;
    private static final int WORN_ONCE = 1 << WORN_SHIFT;

    private final Tape tape = new Tape();
    private final RuleReader ruleReader = new RuleReader();
    private final Cloth[] bolts = new Cloth[MOST_BOLTS];
    private int boltsMade;
    private final Robe[] robes = new Robe[MOST_ROBES];
    private int robesMade;

    /** ROWS of each piece by the measures; those of the sleeves by the bolt looked at latest. */
    private final int[] measures = {4, 4, 0, 0, 2, 2};
    private int threads = 0;
    private int fold = 2;
    private final Search search = new Search();
    /** The one that search looks at; all layings are looked at on it. */
    private final Layout layout = search.layout;
    private int laidOrder = NONE;
    private int laidTurned = NONE;

    private final Rules[] chests = new Rules[CHESTS];
    private final Person[] people = new Person[PEOPLE];
    private final Clothing clothing = new Clothing();
    /** What clauses speak of, in the order of their words, for the robe and person looked at. */
    private final int[] facts = new int[RuleReader.WORDS];

    public RobeHouse() {
        for (int i = 0; i < CHESTS; i++) {
            chests[i] = new Rules();
        }
        for (int i = 0; i < PEOPLE; i++) {
            people[i] = new Person();
        }
    }

    // ---- bolts

    public int feed(long w, int n) {
        if (!within(n, 1, 8)) {
            return BAD;
        }
        if (tape.size + n > MOST_BYTES) {
            return FULL;
        }
        tape.push(w, n);
        return tape.size;
    }

    public int bolt(int colour, int oneWay) {
        if (!within(colour, 0, COLOURS - 1) || !within(oneWay, 0, 1)) {
            return BAD;
        }
        if (boltsMade >= MOST_BOLTS) {
            return FULL;
        }
        int n = tape.readRows();
        tape.size = 0;
        if (n < 0) {
            return n;
        }
        return keepBolt(new Cloth(Arrays.copyOf(tape.rows, n), colour, oneWay));
    }

    public int about(int bolt, int what) {
        Cloth cloth = boltAt(bolt);
        if (cloth == null) {
            return NONE;
        }
        switch (what) {
            case 0:
                return cloth.rows.length;
            case 1:
                return cloth.colour;
            case 2:
                return cloth.oneWay;
            default:
                return NONE;
        }
    }

    public int row(int bolt, int row, int what) {
        Cloth cloth = boltAt(bolt);
        if (cloth == null) {
            return NONE;
        }
        return cloth.partOf(row, what);
    }

    public int wash(int bolt) {
        Cloth cloth = boltAt(bolt);
        if (cloth == null) {
            return NONE;
        }
        if (cloth.colour > 0) {
            cloth.colour--;
        }
        return cloth.colour;
    }

    public int dye(int bolt, int colour) {
        Cloth cloth = boltAt(bolt);
        if (cloth == null) {
            return NONE;
        }
        if (!within(colour, 0, COLOURS - 1)) {
            return BAD;
        }
        if (colour <= cloth.colour) {
            return STATE;
        }
        return cloth.darken(colour);
    }

    // ---- measures, layings

    public int measure(int body, int front, int collar) {
        if (!within(body, 1, MOST_MEASURE) || !within(front, 1, MOST_MEASURE)
                || !within(collar, 1, MOST_MEASURE)) {
            return BAD;
        }
        measures[BODY] = body;
        measures[SECOND_BODY] = body;
        measures[FRONT] = front;
        measures[COLLAR] = collar;
        return 0;
    }

    public int set(int what, int n) {
        if (!within(what, 0, 1)) {
            return NONE;
        }
        if (!within(n, 0, 9)) {
            return BAD;
        }
        int was = what == 0 ? threads : fold;
        if (what == 0) {
            threads = n;
        } else {
            fold = n;
        }
        return was;
    }

    public int sleeves(int bolt) {
        Cloth cloth = boltAt(bolt);
        if (cloth == null) {
            return NONE;
        }
        return fitSleeves(cloth) ? measures[SLEEVE] : STATE;
    }

    public int ugly(int bolt, int order, int turned) {
        Cloth cloth = boltAt(bolt);
        if (cloth == null) {
            return NONE;
        }
        if (!cloth.canLie(order, turned)) {
            return BAD;
        }
        if (!fitSleeves(cloth)) {
            return STATE;
        }
        layout.spread(cloth.rows, measures, threads, fold);
        layout.lay(order, turned);
        return layout.uglySum();
    }

    public int best(int bolt) {
        Cloth cloth = boltAt(bolt);
        if (cloth == null) {
            return NONE;
        }
        if (!fitSleeves(cloth)) {
            return STATE;
        }
        layout.spread(cloth.rows, measures, threads, fold);
        search.find(cloth.oneWay == 1);
        laidOrder = search.bestOrder;
        laidTurned = search.bestTurned;
        return search.leastUgly;
    }

    public int laid(int what) {
        switch (what) {
            case 0:
                return laidOrder;
            case 1:
                return laidTurned;
            default:
                return NONE;
        }
    }

    public int sew(int bolt, int order, int turned) {
        Cloth cloth = boltAt(bolt);
        if (cloth == null) {
            return NONE;
        }
        if (!cloth.canLie(order, turned)) {
            return BAD;
        }
        if (!fitSleeves(cloth)) {
            return STATE;
        }
        if (robesMade >= MOST_ROBES) {
            return FULL;
        }
        layout.spread(cloth.rows, measures, threads, fold);
        layout.lay(order, turned);
        Cloth sewn = new Cloth(layout.cutRows(), cloth.colour, cloth.oneWay);
        bolts[bolt] = null;
        robes[robesMade] = new Robe(sewn, measures.clone());
        robesMade++;
        return robesMade - 1;
    }

    // ---- robes

    public int robe(int robe, int what) {
        Robe it = robeAt(robe);
        if (it == null) {
            return NONE;
        }
        switch (what) {
            case 0:
                return it.cloth.colour;
            case 1:
                return it.lengths[SLEEVE];
            case 2:
                return it.lengths[BODY];
            case 3:
                return it.lengths[FRONT];
            case 4:
                return it.lengths[COLLAR];
            case 5:
                return it.lining == null ? 0 : 1;
            case 6:
                return it.liningRows();
            case 7:
                return it.chest;
            case 8:
                return it.holder;
            case 9:
                spreadRobe(it);
                return layout.shownSum();
            default:
                return NONE;
        }
    }

    public int piece(int robe, int piece, int i, int what) {
        Robe it = robeAt(robe);
        if (it == null || !within(piece, 0, PIECES - 1) || !within(i, 0, it.lengths[piece] - 1)) {
            return NONE;
        }
        return it.cloth.partOf(it.startOf(piece) + i, what);
    }

    public int miss(int robe, int seam) {
        Robe it = robeAt(robe);
        if (it == null || !within(seam, 0, SEAMS - 1)) {
            return NONE;
        }
        spreadRobe(it);
        return layout.missOf(seam);
    }

    public int wear(int robe) {
        Robe it = robeAt(robe);
        if (it == null) {
            return NONE;
        }
        return it.wearOnce();
    }

    public int unpick(int robe, int order, int turned) {
        Robe it = robeAt(robe);
        if (it == null) {
            return NONE;
        }
        if (!it.cloth.canLie(order, turned)) {
            return BAD;
        }
        if (it.holder != NONE || it.lining != null) {
            return STATE;
        }
        if (boltsMade >= MOST_BOLTS) {
            return FULL;
        }
        layout.spread(it.cloth.rows, it.lengths, threads, fold);
        layout.lay(order, turned);
        robes[robe] = null;
        return keepBolt(new Cloth(layout.joinRows(), it.cloth.colour, it.cloth.oneWay));
    }

    public int line(int robe, int bolt) {
        Robe it = robeAt(robe);
        Cloth cloth = boltAt(bolt);
        if (it == null || cloth == null) {
            return NONE;
        }
        int needed = it.cloth.rows.length;
        int stays = cloth.rows.length - needed;
        if (it.lining != null || stays < 0) {
            return STATE;
        }
        if (stays == 0) {
            it.lining = cloth;
            bolts[bolt] = null;
        } else {
            it.lining = new Cloth(Arrays.copyOf(cloth.rows, needed), cloth.colour, cloth.oneWay);
            cloth.rows = Arrays.copyOfRange(cloth.rows, needed, needed + stays);
        }
        return stays;
    }

    public int unline(int robe) {
        Robe it = robeAt(robe);
        if (it == null) {
            return NONE;
        }
        if (it.lining == null) {
            return STATE;
        }
        if (boltsMade >= MOST_BOLTS) {
            return FULL;
        }
        Cloth cloth = it.lining;
        it.lining = null;
        return keepBolt(cloth);
    }

    // ---- chests, people

    public int rules(int chest) {
        if (!within(chest, 0, CHESTS - 1)) {
            return NONE;
        }
        int n = ruleReader.readFrom(tape);
        tape.size = 0;
        if (n >= 0) {
            chests[chest].take(ruleReader.clauses, n);
        }
        return n;
    }

    public int chest(int robe, int chest) {
        Robe it = robeAt(robe);
        if (it == null || !within(chest, NONE, CHESTS - 1)) {
            return NO_SUCH;
        }
        if (it.holder != NONE) {
            return STATE;
        }
        int was = it.chest;
        it.chest = chest;
        return was;
    }

    public int person(int person, int age, int rank) {
        if (!within(person, 0, PEOPLE - 1)) {
            return NONE;
        }
        if (!within(age, 0, 99) || !within(rank, 0, 9)) {
            return BAD;
        }
        Person one = people[person];
        int isNew = one.told ? 0 : 1;
        one.told = true;
        one.age = age;
        one.rank = rank;
        return isNew;
    }

    public int may(int robe, int person, int season) {
        Robe it = robeAt(robe);
        Person one = personAt(person);
        if (it == null || one == null) {
            return NONE;
        }
        if (!within(season, 0, SEASONS - 1)) {
            return BAD;
        }
        if (!it.isAtHand()) {
            return STATE;
        }
        return canWear(it, one, season) ? 1 : 0;
    }

    public int lend(int robe, int person, int season) {
        Robe it = robeAt(robe);
        Person one = personAt(person);
        if (it == null || one == null) {
            return NONE;
        }
        if (!within(season, 0, SEASONS - 1)) {
            return BAD;
        }
        if (!it.isAtHand() || one.hasRobe || !canWear(it, one, season)) {
            return STATE;
        }
        it.holder = person;
        one.hasRobe = true;
        return 0;
    }

    public int back(int robe, int n) {
        Robe it = robeAt(robe);
        if (it == null) {
            return NONE;
        }
        if (!within(n, 0, 9)) {
            return BAD;
        }
        int holder = it.holder;
        if (!within(holder, 0, PEOPLE - 1)) {
            return STATE;
        }
        it.holder = NONE;
        people[holder].hasRobe = false;
        for (int k = 0; k < n; k++) {
            it.wearOnce();
        }
        return holder;
    }

    public int clothe(int season) {
        if (!within(season, 0, SEASONS - 1)) {
            return BAD;
        }
        for (int i = 0; i < PEOPLE; i++) {
            clothing.wearable[i] = wearableFor(people[i], season);
        }
        return clothing.share();
    }

    public int gets(int person) {
        return within(person, 0, PEOPLE - 1) ? clothing.given[person] : NONE;
    }

    public int count(int what) {
        switch (what) {
            case 0:
                return boltsThere();
            case 1:
                return robesThere();
            case 2:
                return robesLent();
            case 3:
                return rowsThere();
            case 4:
                return tape.size;
            case 5:
                return boltsMade;
            default:
                return NONE;
        }
    }

    // ---- what the calls share

    private static boolean within(int n, int least, int most) {
        return n >= least && n <= most;
    }

    /** The piece at place k of an order; a piece's number whatever order is. */
    private static int pieceAt(int order, int k) {
        int rest = order;
        for (int behind = PIECES - 1; behind > k; behind--) {
            rest /= PIECES;
        }
        return Math.floorMod(rest, PIECES);
    }

    private Cloth boltAt(int bolt) {
        return within(bolt, 0, MOST_BOLTS - 1) ? bolts[bolt] : null;
    }

    private Robe robeAt(int robe) {
        return within(robe, 0, MOST_ROBES - 1) ? robes[robe] : null;
    }

    /** One of the people, if age and rank were told. */
    private Person personAt(int person) {
        return within(person, 0, PEOPLE - 1) && people[person].told ? people[person] : null;
    }

    /** Gives cloth the next bolt's number; callers refuse first where none is left. */
    private int keepBolt(Cloth cloth) {
        if (boltsMade >= MOST_BOLTS) {
            return FULL;
        }
        bolts[boltsMade] = cloth;
        boltsMade++;
        return boltsMade - 1;
    }

    /** Gives the sleeves what the other measures leave of a bolt; false where that can't be. */
    private boolean fitSleeves(Cloth cloth) {
        int left = cloth.rows.length - 2 * measures[BODY] - measures[FRONT] - measures[COLLAR];
        if (left < 2 || left % 2 != 0) {
            return false;
        }
        measures[SLEEVE] = left / 2;
        measures[SECOND_SLEEVE] = left / 2;
        return true;
    }

    private void spreadRobe(Robe robe) {
        layout.spread(robe.cloth.rows, robe.lengths, threads, fold);
        layout.lay(ROBE_ORDER, 0);
    }

    private boolean canWear(Robe robe, Person person, int season) {
        if (!within(robe.chest, 0, CHESTS - 1)) {
            return false;
        }
        facts[0] = season;
        facts[1] = person.age;
        facts[2] = person.rank;
        facts[3] = robe.cloth.colour;
        facts[4] = robe.lining == null ? 0 : 1;
        facts[5] = robe.lengths[SLEEVE];
        return chests[robe.chest].hold(facts);
    }

    /** The robes, as bits, that a person without one may wear and that lie in a chest. */
    private int wearableFor(Person person, int season) {
        if (!person.told || person.hasRobe) {
            return 0;
        }
        int bits = 0;
        for (int i = 0; i < MOST_ROBES; i++) {
            Robe robe = robes[i];
            if (robe != null && robe.isAtHand() && canWear(robe, person, season)) {
                bits |= 1 << i;
            }
        }
        return bits;
    }

    private int boltsThere() {
        int n = 0;
        for (Cloth cloth : bolts) {
            if (cloth != null) {
                n++;
            }
        }
        return n;
    }

    private int robesThere() {
        int n = 0;
        for (Robe robe : robes) {
            if (robe != null) {
                n++;
            }
        }
        return n;
    }

    private int robesLent() {
        int n = 0;
        for (Robe robe : robes) {
            if (robe != null && robe.holder != NONE) {
                n++;
            }
        }
        return n;
    }

    private int rowsThere() {
        int n = 0;
        for (Cloth cloth : bolts) {
            if (cloth != null) {
                n += cloth.rows.length;
            }
        }
        for (Robe robe : robes) {
            if (robe != null) {
                n += robe.cloth.rows.length + robe.liningRows();
            }
        }
        return n;
    }

    // ---- what the house holds

    /** The bytes that were fed and not read yet. */
    private static final class Tape {
        final int[] bytes = new int[MOST_BYTES];
        int size;
        /** The rows that were read latest. */
        final int[] rows = new int[MOST_ROWS];

        void push(long w, int n) {
            for (int shift = 8 * (n - 1); shift >= 0 && size < MOST_BYTES; shift -= 8) {
                bytes[size] = (int) (w >> shift & 255);
                size++;
            }
        }

        /** The byte at a place, or NONE behind the end. */
        int byteAt(int place) {
            return place >= 0 && place < size ? bytes[place] : NONE;
        }

        boolean isDigitAt(int place) {
            int b = byteAt(place);
            return b >= '0' && b <= '9';
        }

        /** Reads the tape as rows: how many, or the fault. */
        int readRows() {
            int n = 0;
            for (int at = 0; at < size; at++) {
                if (isDigitAt(at) && n < MOST_ROWS) {
                    rows[n] = byteAt(at) - '0';
                    n++;
                } else if (byteAt(at) == '!' && n > 0 && (rows[n - 1] & FLAWED) == 0) {
                    rows[n - 1] |= FLAWED;
                } else {
                    return FAULT - at;
                }
            }
            return n > 0 ? n : FAULT - size;
        }
    }

    /** A length of cloth: a bolt, the pieces of a robe in their order, or a lining. */
    private static final class Cloth {
        int[] rows;
        int colour;
        final int oneWay;

        Cloth(int[] rows, int colour, int oneWay) {
            this.rows = rows;
            this.colour = colour;
            this.oneWay = oneWay;
        }

        /** Of a row: what 0 the pattern, 1 flawed, 2 worn. */
        int partOf(int row, int what) {
            if (row < 0 || row >= rows.length) {
                return NONE;
            }
            switch (what) {
                case 0:
                    return rows[row] & PATTERN_BITS;
                case 1:
                    return rows[row] >> FLAWED_SHIFT & 1;
                case 2:
                    return rows[row] >> WORN_SHIFT;
                default:
                    return NONE;
            }
        }

        /** Dyes it: how many patterns became the colour. */
        int darken(int darker) {
            colour = darker;
            int n = 0;
            for (int i = 0; i < rows.length; i++) {
                if ((rows[i] & PATTERN_BITS) < darker) {
                    rows[i] = rows[i] & ~PATTERN_BITS | darker;
                    n++;
                }
            }
            return n;
        }

        /** Whether order has every piece once, and turned are pieces that may be turned here. */
        boolean canLie(int order, int turned) {
            if (order < 0 || order >= ORDERS_END || turned < 0 || turned > ALL_PIECES) {
                return false;
            }
            if (oneWay == 1 && turned != 0 && turned != ALL_PIECES) {
                return false;
            }
            int met = 0;
            for (int k = 0; k < PIECES; k++) {
                met |= 1 << pieceAt(order, k);
            }
            return met == ALL_PIECES;
        }
    }

    /** Six pieces sewn together; its cloth has their rows in the order of the pieces' numbers. */
    private static final class Robe {
        final Cloth cloth;
        final int[] lengths;
        Cloth lining = null;
        int chest = NONE;
        int holder = NONE;

        Robe(Cloth cloth, int[] lengths) {
            this.cloth = cloth;
            this.lengths = lengths;
        }

        /** Whether it lies in a chest and nobody has it. */
        boolean isAtHand() {
            return chest != NONE && holder == NONE;
        }

        int liningRows() {
            return lining == null ? 0 : lining.rows.length;
        }

        int startOf(int piece) {
            int start = 0;
            for (int k = 0; k < piece && k < PIECES; k++) {
                start += lengths[k];
            }
            return start;
        }

        /** Wears it once: how many rows became more worn. */
        int wearOnce() {
            int n = 0;
            int at = 0;
            for (int piece = 0; piece < PIECES; piece++) {
                for (int i = 0; i < lengths[piece] && at < cloth.rows.length; i++) {
                    if (wearsAt(piece, i) && cloth.rows[at] >> WORN_SHIFT < MOST_WORN) {
                        cloth.rows[at] += WORN_ONCE;
                        n++;
                    }
                    at++;
                }
            }
            return n;
        }

        private boolean wearsAt(int piece, int i) {
            switch (piece) {
                case BODY:
                case SECOND_BODY:
                    return i == lengths[piece] / 2;
                case SLEEVE:
                case SECOND_SLEEVE:
                    return i < SLEEVE_ROWS_WORN;
                case COLLAR:
                    return true;
                default:
                    return false;
            }
        }
    }

    /** Rows with six pieces laid on them, and how these look as the robe that they are or would be. */
    private static final class Layout {
        int[] rows = new int[0];
        int[] lengths = new int[PIECES];
        int threads;
        int fold;
        /** How many rows of each seam's two pieces meet. */
        private final int[] seamRows = new int[SEAMS];
        /** How many rows ahead of each place are flawed or worn so that it can be seen. */
        final int[] spotsAhead = new int[MOST_ROWS + 1];
        final int[] starts = new int[PIECES];
        int turned;

        /** Takes rows and lengths that are used up by one another. */
        void spread(int[] clothRows, int[] pieceLengths, int threadsNow, int foldNow) {
            rows = clothRows;
            lengths = pieceLengths;
            threads = threadsNow;
            fold = foldNow;
            for (int i = 0; i < rows.length && i < MOST_ROWS; i++) {
                spotsAhead[i + 1] = spotsAhead[i] + (isSpot(rows[i]) ? 1 : 0);
            }
            meetAtSeams();
        }

        private void meetAtSeams() {
            int besideSleeve = Math.min(lengths[BODY] / 2, lengths[SLEEVE]);
            seamRows[SEAM_A] = lengths[BODY];
            seamRows[SEAM_B] = besideSleeve;
            seamRows[SEAM_C] = besideSleeve;
            seamRows[SEAM_D] = Math.min(lengths[FRONT], lengths[BODY]);
            seamRows[SEAM_E] = Math.min(lengths[COLLAR], lengths[FRONT]);
        }

        private static boolean isSpot(int row) {
            return (row & FLAWED) != 0 || row >> WORN_SHIFT >= SPOT_WORN;
        }

        void lay(int order, int turnedPieces) {
            turned = turnedPieces;
            int start = 0;
            for (int k = 0; k < PIECES; k++) {
                int piece = pieceAt(order, k);
                starts[piece] = start;
                start += lengths[piece];
            }
        }

        private int turnOf(int piece) {
            return turned >> piece & 1;
        }

        /** Where row i of a piece lies. */
        private int placeOf(int piece, int i) {
            return starts[piece] + (turnOf(piece) == 0 ? i : lengths[piece] - 1 - i);
        }

        private boolean isOnCloth(int place) {
            return place >= 0 && place < rows.length;
        }

        private int patternAt(int place) {
            return place >= 0 && place < rows.length ? rows[place] & PATTERN_BITS : 0;
        }

        /** The rows that lie here, in the order of the pieces' numbers, row 0 of each first. */
        int[] cutRows() {
            int[] cut = new int[rows.length];
            int at = 0;
            for (int piece = 0; piece < PIECES; piece++) {
                for (int i = 0; i < lengths[piece]; i++) {
                    int place = placeOf(piece, i);
                    if (isOnCloth(at) && isOnCloth(place)) {
                        cut[at] = rows[place];
                    }
                    at++;
                }
            }
            return cut;
        }

        /** The other way: rows in the order of the pieces' numbers, put where they are laid. */
        int[] joinRows() {
            int[] joined = new int[rows.length];
            int at = 0;
            for (int piece = 0; piece < PIECES; piece++) {
                for (int i = 0; i < lengths[piece]; i++) {
                    int place = placeOf(piece, i);
                    if (isOnCloth(at) && isOnCloth(place)) {
                        joined[place] = rows[at];
                    }
                    at++;
                }
            }
            return joined;
        }

        int uglySum() {
            int sum = UGLY_OF_SHOWN * shownSum();
            for (int seam = 0; seam < SEAMS; seam++) {
                sum += missOf(seam);
            }
            return sum;
        }

        int shownSum() {
            int sum = 0;
            for (int piece = 0; piece < PIECES; piece++) {
                sum += shownOf(piece);
            }
            return sum;
        }

        int shownOf(int piece) {
            int from = starts[piece] + fold;
            int to = starts[piece] + lengths[piece] - fold;
            return from >= 0 && from < to && to <= MOST_ROWS ? spotsAhead[to] - spotsAhead[from] : 0;
        }

        int missOf(int seam) {
            return missTurned(seam, turnOf(seam + 1), turnOf(SEWN_TO[seam]));
        }

        /** MISS of a seam where its pieces lie, if they were turned so (1) or not (0). */
        int missTurned(int seam, int turn, int turnSewnTo) {
            int piece = seam + 1;
            int sewnTo = SEWN_TO[seam];
            boolean fromEnd = turn == 1;
            // the front is sewn up along the body from the body's last row
            boolean sewnToFromEnd = (turnSewnTo == 1) != (seam == SEAM_D);
            int at = starts[piece] + (fromEnd ? lengths[piece] - 1 : 0);
            int sewnToAt = starts[sewnTo] + (sewnToFromEnd ? lengths[sewnTo] - 1 : 0);
            int step = fromEnd ? -1 : 1;
            int sewnToStep = sewnToFromEnd ? -1 : 1;
            int misses = 0;
            for (int left = seamRows[seam]; left > 0; left--) {
                int apart = Math.abs(patternAt(at) - patternAt(sewnToAt));
                // patterns are round: apart one way, and 10 less that the other way
                if (apart > threads && 10 - apart > threads) {
                    misses++;
                }
                at += step;
                sewnToAt += sewnToStep;
            }
            return misses;
        }
    }

    /**
     * Looks for the best laying: builds orders piece by piece, least first, and leaves those that
     * can't become less ugly than one that was found.
     */
    private static final class Search {
        /** Seams B and C are alike in all lengths, so what is known of one is known of the other. */
        private static final int[] SEAM_KIND = {0, 1, 1, 2, 3};
        private static final int SEAM_KINDS = 4;
        /** A start is told by how many bodies (0 .. 2), sleeves (0 .. 2), fronts, collars lie ahead. */
        private static final int STARTS = 36;
        private static final int UNKNOWN = -1;
        /** Misses for the four ways of turning two pieces, and the least of them, in one number. */
        private static final int MISS_SHIFT = 6, MISS_BITS = 63, LEAST_SHIFT = 24;
        /** In a key misses come ahead of how many are turned, and that ahead of which are. */
        private static final int KEY_MISS = 512, KEY_TURNED = 64;
        private static final int FAR_TOO_UGLY = 1000000;

        final Layout layout = new Layout();
        private final int[] known = new int[SEAM_KINDS * STARTS * STARTS];
        private final int[] startCodes = new int[PIECES];
        private final int[] seamMisses = new int[SEAMS];
        private final int[] keyStraight = new int[PIECES];
        private final int[] keyTurned = new int[PIECES];
        private boolean oneWay;
        int leastUgly;
        int bestOrder;
        int bestTurned;

        /** Finds the best laying of what is spread on the layout. */
        void find(boolean clothIsOneWay) {
            oneWay = clothIsOneWay;
            leastUgly = FAR_TOO_UGLY;
            Arrays.fill(known, UNKNOWN);
            extend(0, 0, 0, 0, 0, 0);
        }

        /** Tries all pieces that are not used yet behind those of an order that is begun. */
        private void extend(int depth, int used, int order, int start, int shown, int misses) {
            if (depth >= PIECES) {
                weigh(order, shown);
                return;
            }
            int startCode = startCodeOf(used);
            for (int piece = 0; piece < PIECES; piece++) {
                if ((used >> piece & 1) == 0) {
                    layout.starts[piece] = start;
                    startCodes[piece] = startCode;
                    int shownNow = shown + layout.shownOf(piece);
                    int missesNow = misses + meetSeams(piece, used);
                    if (UGLY_OF_SHOWN * shownNow + missesNow < leastUgly) {
                        extend(depth + 1, used | 1 << piece, order * PIECES + piece,
                                start + layout.lengths[piece], shownNow, missesNow);
                    }
                }
            }
        }

        private static int startCodeOf(int used) {
            int bodies = (used & 1) + (used >> SECOND_BODY & 1);
            int sleeves = (used >> SLEEVE & 1) + (used >> SECOND_SLEEVE & 1);
            return bodies + 3 * sleeves + 9 * (used >> FRONT);
        }

        /** Looks at the seams between a piece and used ones: the misses that no turning spares. */
        private int meetSeams(int piece, int used) {
            int least = 0;
            for (int seam = 0; seam < SEAMS; seam++) {
                int other = otherOf(seam, piece);
                if (other != NONE && (used >> other & 1) == 1) {
                    seamMisses[seam] = missesOf(seam);
                    least += seamMisses[seam] >> LEAST_SHIFT;
                }
            }
            return least;
        }

        /** The piece that a seam sews to this one, or NONE. */
        private static int otherOf(int seam, int piece) {
            if (piece == seam + 1) {
                return SEWN_TO[seam];
            }
            return piece == SEWN_TO[seam] ? seam + 1 : NONE;
        }

        private int missesOf(int seam) {
            int code = startCodes[seam + 1];
            int sewnToCode = startCodes[SEWN_TO[seam]];
            int index = (SEAM_KIND[seam] * STARTS + code) * STARTS + sewnToCode;
            if (index < 0 || index >= known.length) {
                return countMisses(seam);
            }
            if (known[index] == UNKNOWN) {
                known[index] = countMisses(seam);
            }
            return known[index];
        }

        private int countMisses(int seam) {
            int least = MISS_BITS;
            int packed = 0;
            for (int way = 0; way < 4; way++) {
                int misses = layout.missTurned(seam, way & 1, way >> 1);
                least = Math.min(least, misses);
                packed |= misses << MISS_SHIFT * way;
            }
            return least << LEAST_SHIFT | packed;
        }

        private static int missWay(int packed, int turn, int turnSewnTo) {
            return packed >> MISS_SHIFT * (turn + 2 * turnSewnTo) & MISS_BITS;
        }

        /** Takes a whole order with its best turning, if it is less ugly than all ahead of it. */
        private void weigh(int order, int shown) {
            int key = leastKey();
            int ugly = UGLY_OF_SHOWN * shown + key / KEY_MISS;
            if (ugly < leastUgly) {
                leastUgly = ugly;
                bestOrder = order;
                bestTurned = key & ALL_PIECES;
            }
        }

        /**
         * The least key of all turnings. Each piece but the first body hangs on a lesser one by
         * one seam, so from the last piece down each can choose its best turn for both of that one.
         */
        private int leastKey() {
            for (int piece = 0; piece < PIECES; piece++) {
                keyStraight[piece] = 0;
                keyTurned[piece] = KEY_TURNED + (1 << piece);
            }
            for (int piece = PIECES - 1; piece > 0; piece--) {
                int sewnTo = SEWN_TO[piece - 1];
                keyStraight[sewnTo] += keyOf(piece, 0);
                keyTurned[sewnTo] += keyOf(piece, 1);
            }
            return Math.min(keyStraight[BODY], keyTurned[BODY]);
        }

        /** The least key of a piece and all that hangs on it, as the one that it is sewn to lies. */
        private int keyOf(int piece, int turnSewnTo) {
            int packed = seamMisses[piece - 1];
            int straight = KEY_MISS * missWay(packed, 0, turnSewnTo) + keyStraight[piece];
            int turned = KEY_MISS * missWay(packed, 1, turnSewnTo) + keyTurned[piece];
            if (oneWay) {
                return turnSewnTo == 0 ? straight : turned;
            }
            return Math.min(straight, turned);
        }
    }

    /** One of the people. */
    private static final class Person {
        boolean told;
        int age;
        int rank;
        boolean hasRobe;
    }

    /** The clauses of a chest, as RuleReader makes them. */
    private static final class Rules {
        private final int[] clauses = new int[MOST_CLAUSES];
        private int size;

        void take(int[] newClauses, int n) {
            size = Math.min(n, MOST_CLAUSES);
            System.arraycopy(newClauses, 0, clauses, 0, size);
        }

        boolean hold(int[] facts) {
            for (int i = 0; i < size; i++) {
                if (!RuleReader.holds(clauses[i], facts)) {
                    return false;
                }
            }
            return true;
        }
    }

    /** Reads clauses from the tape, each as one number of its word, its sign and its number. */
    private static final class RuleReader {
        static final int WORDS = 6;
        private static final int SIGNS = 3;
        private static final int NUMBERS = 100;

        final int[] clauses = new int[MOST_CLAUSES];
        /** The place of the first byte that is not read yet; behind a failed reading, of the fault. */
        private int at;

        private static String wordOf(int word) {
            switch (word) {
                case 0:
                    return "season";
                case 1:
                    return "age";
                case 2:
                    return "rank";
                case 3:
                    return "colour";
                case 4:
                    return "lined";
                default:
                    return "sleeve";
            }
        }

        static boolean holds(int clause, int[] facts) {
            int word = clause / (NUMBERS * SIGNS);
            if (word < 0 || word >= facts.length) {
                return false;
            }
            int number = clause % NUMBERS;
            switch (clause / NUMBERS % SIGNS) {
                case 0:
                    return facts[word] < number;
                case 1:
                    return facts[word] == number;
                default:
                    return facts[word] > number;
            }
        }

        /** Reads the whole tape: how many clauses, or the fault. */
        int readFrom(Tape tape) {
            at = 0;
            for (int n = 0; n < MOST_CLAUSES; n++) {
                clauses[n] = readClause(tape);
                if (clauses[n] == NONE) {
                    return FAULT - at;
                }
                if (at == tape.size) {
                    return n + 1;
                }
                // behind the last clause that can be, not even a ; goes on
                if (tape.byteAt(at) != ';' || n == MOST_CLAUSES - 1) {
                    return FAULT - at;
                }
                at++;
            }
            return FAULT - at;
        }

        private int readClause(Tape tape) {
            int word = readWord(tape);
            if (word == NONE) {
                return NONE;
            }
            int sign = readSign(tape);
            if (sign == NONE) {
                return NONE;
            }
            int number = readNumber(tape);
            if (number == NONE) {
                return NONE;
            }
            return (word * SIGNS + sign) * NUMBERS + number;
        }

        /** No word begins another one, so one that is read whole is the word. */
        private int readWord(Tape tape) {
            int longest = 0;
            for (int word = 0; word < WORDS; word++) {
                int same = sameAs(wordOf(word), tape);
                if (same == wordOf(word).length()) {
                    at += same;
                    return word;
                }
                longest = Math.max(longest, same);
            }
            at += longest;
            return NONE;
        }

        /** How many of a word's first letters stand here. */
        private int sameAs(String word, Tape tape) {
            int n = 0;
            while (n < word.length() && tape.byteAt(at + n) == word.charAt(n)) {
                n++;
            }
            return n;
        }

        private int readSign(Tape tape) {
            int b = tape.byteAt(at);
            if (b < '<' || b > '>') {
                return NONE;
            }
            at++;
            return b - '<';
        }

        private int readNumber(Tape tape) {
            if (!tape.isDigitAt(at)) {
                return NONE;
            }
            int number = tape.byteAt(at) - '0';
            at++;
            if (number > 0 && tape.isDigitAt(at)) {
                number = 10 * number + tape.byteAt(at) - '0';
                at++;
            }
            return number;
        }
    }

    /** Shares robes among people: as many as can be, the least people and robes first. */
    private static final class Clothing {
        /** For each of the people the robes, as bits, that it could get. */
        final int[] wearable = new int[PEOPLE];
        /** For each of the people the robe that it gets by the latest sharing, or NONE. */
        final int[] given = new int[PEOPLE];
        private final int[] takers = new int[MOST_ROBES];
        private int tried;

        Clothing() {
            for (int i = 0; i < PEOPLE; i++) {
                given[i] = NONE;
            }
        }

        int share() {
            int most = mostFrom(0, 0);
            int left = most;
            int taken = 0;
            for (int person = 0; person < PEOPLE; person++) {
                given[person] = leastRobeFor(person, taken, left);
                if (given[person] != NONE) {
                    taken |= 1 << given[person];
                    left--;
                }
            }
            return most;
        }

        /** The least robe with which this one and those behind it still are as many as left. */
        private int leastRobeFor(int person, int taken, int left) {
            for (int robe = 0; robe < MOST_ROBES && left > 0; robe++) {
                int bit = 1 << robe;
                if ((wearable[person] & ~taken & bit) != 0
                        && mostFrom(person + 1, taken | bit) == left - 1) {
                    return robe;
                }
            }
            return NONE;
        }

        /** How many of the people from one on can get robes that are not taken. */
        private int mostFrom(int first, int taken) {
            Arrays.fill(takers, NONE);
            int n = 0;
            for (int person = first; person < PEOPLE; person++) {
                tried = taken;
                if (findRobe(person, 0)) {
                    n++;
                }
            }
            return n;
        }

        /** Gives one a robe, if need be by moving others; no robe is tried twice, so depth stays low. */
        private boolean findRobe(int person, int depth) {
            if (depth >= PEOPLE || person < 0 || person >= PEOPLE) {
                return false;
            }
            for (int robe = 0; robe < MOST_ROBES; robe++) {
                int bit = 1 << robe;
                if ((wearable[person] & ~tried & bit) != 0) {
                    tried |= bit;
                    if (takers[robe] == NONE || findRobe(takers[robe], depth + 1)) {
                        takers[robe] = person;
                        return true;
                    }
                }
            }
            return false;
        }
    }
}

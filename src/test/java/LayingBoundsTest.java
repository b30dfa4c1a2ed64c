import java.util.Arrays;

/** The boundary cases of promises 8 to 14, each by a test named by its promise. */
public final class LayingBoundsTest {
    private static final int NONE = -1, BAD = -2, STATE = -3, FULL = -4;
    private static final int PLAIN = Houses.PLAIN, REVERSED = Houses.REVERSED;
    /** How many orders are told by six digits to the base 6. */
    private static final int ORDERS = 46656;
    private static final Check CHECK = new Check();

    public static void main(String[] args) {
        Suite.run(LayingBoundsTest.class, CHECK, 8, 14);
    }

    private static void due(int want, RobeHouse h, String name, long... args) {
        CHECK.call(want, h, name, args);
    }

    private static void refused(Houses kind, int want, String name, long... args) {
        Twins.refused(CHECK, kind, want, name, args);
    }

    private static void outside(Houses kind, int want, int k, int least, int most, String name, long... args) {
        Edges.refused(CHECK, kind, want, k, least, most, new Calls.Call(name, args));
    }

    private static RobeHouse measured(int body, int front, int collar) {
        RobeHouse h = new RobeHouse();
        due(0, h, "measure", body, front, collar);
        return h;
    }

    /** The least house in which robes can be: bodies, front and collar of one row. */
    private static RobeHouse leastHouse(String text, int oneWay) {
        RobeHouse h = measured(1, 1, 1);
        Tapes.bolt(h, text, 0, oneWay);
        return h;
    }

    private static int orderOf(int... pieces) {
        int order = 0;
        for (int piece : pieces) {
            order = 6 * order + piece;
        }
        return order;
    }

    /** Whether the six digits to the base 6 are all different. */
    private static boolean isOrder(int order) {
        if (order < 0 || order >= ORDERS) {
            return false;
        }
        String digits = Integer.toString(ORDERS + order, 6).substring(1);
        return digits.chars().distinct().count() == 6;
    }

    // ---- promise 8: measure

    static void promise08BodyIsBad() {
        outside(Houses.RICH, BAD, 0, 1, 30, "measure", 0, 3, 3);
    }

    static void promise08FrontIsBad() {
        outside(Houses.RICH, BAD, 1, 1, 30, "measure", 3, 0, 3);
    }

    static void promise08CollarIsBad() {
        outside(Houses.RICH, BAD, 2, 1, 30, "measure", 3, 3, 0);
        refused(Houses.NEW, BAD, "measure", 5, 5, 31);
        refused(Houses.NEW, BAD, "measure", 0, 0, 0);
    }

    static void promise08MeasuresAre422AtFirst() {
        RobeHouse h = new RobeHouse();
        due(0, h, "sew", Tapes.bolt(h, "0".repeat(14), 0, 0), PLAIN, 0);
        int[] want = {1, 4, 2, 2};
        for (int what = 1; what <= 4; what++) {
            due(want[what - 1], h, "robe", 0, what);
        }
        int[] rows = {4, 4, 1, 1, 2, 2};
        for (int piece = 0; piece < 6; piece++) {
            due(0, h, "piece", 0, piece, rows[piece] - 1, 0);
            due(NONE, h, "piece", 0, piece, rows[piece], 0);
        }
    }

    static void promise08From1To30Each() {
        for (int n = 1; n <= 30; n++) {
            for (int which = 0; which < 3; which++) {
                int body = which == 0 ? n : 3;
                int front = which == 1 ? n : 4;
                int collar = which == 2 ? n : 5;
                RobeHouse h = measured(body, front, collar);
                int rows = 2 * body + front + collar + 4;
                due(0, h, "sew", Tapes.bolt(h, "0".repeat(rows), 0, 0), PLAIN, 0);
                due(2, h, "robe", 0, 1);
                due(body, h, "robe", 0, 2);
                due(front, h, "robe", 0, 3);
                due(collar, h, "robe", 0, 4);
            }
        }
    }

    static void promise08AllGreatest() {
        RobeHouse h = measured(30, 30, 30);
        Tapes.bolt(h, "0".repeat(120), 0, 0);
        due(STATE, h, "sleeves", 0);
    }

    static void promise08WhatWasSewnStays() {
        RobeHouse h = measured(1, 1, 1);
        Houses.sewn(h, "123456", 0, 0);
        due(0, h, "measure", 30, 29, 28);
        for (int what = 1; what <= 4; what++) {
            due(1, h, "robe", 0, what);
        }
        due(NONE, h, "piece", 0, 0, 1, 0);
        due(6, h, "piece", 0, 5, 0, 0);
        due(1, h, "unpick", 0, PLAIN, 0);
        due(6, h, "about", 1, 0);
    }

    static void promise08FromNowOn() {
        RobeHouse h = new RobeHouse();
        Tapes.bolt(h, "0".repeat(30), 0, 0);
        due(9, h, "sleeves", 0);
        due(0, h, "measure", 10, 2, 2);
        due(3, h, "sleeves", 0);
        due(0, h, "measure", 11, 3, 3);
        due(1, h, "sleeves", 0);
    }

    // ---- promise 9: set

    static void promise09WhatIsNone() {
        outside(Houses.RICH, NONE, 0, 0, 1, "set", 0, 5);
    }

    static void promise09NoneComesAheadOfBad() {
        outside(Houses.RICH, NONE, 0, 0, 1, "set", 0, 10);
        outside(Houses.RICH, NONE, 0, 0, 1, "set", 0, -1);
    }

    static void promise09NIsBad() {
        outside(Houses.RICH, BAD, 1, 0, 9, "set", 0, 0);
        outside(Houses.RICH, BAD, 1, 0, 9, "set", 1, 0);
    }

    static void promise09AtFirst() {
        RobeHouse h = new RobeHouse();
        due(0, h, "set", 0, 9);
        due(2, h, "set", 1, 9);
        due(9, h, "set", 0, 0);
        due(9, h, "set", 1, 0);
    }

    static void promise09From0To9() {
        for (int what = 0; what < 2; what++) {
            RobeHouse h = new RobeHouse();
            h.set(what, 0);
            for (int n = 0; n <= 9; n++) {
                due(Math.max(0, n - 1), h, "set", what, n);
            }
            due(9, h, "set", what, 9);
            due(what == 0 ? 2 : 0, h, "set", 1 - what, 0);
        }
    }

    static void promise09FoldHidesTheFirstAndTheLast() {
        for (int rows = 1; rows <= 30; rows++) {
            RobeHouse h = measured(1, 1, rows);
            // the collar alone is flawed, all of it
            Tapes.bolt(h, "00000" + "0!".repeat(rows), 0, 0);
            for (int fold = 0; fold <= 9; fold++) {
                h.set(1, fold);
                due(5 * Math.max(0, rows - 2 * fold), h, "ugly", 0, PLAIN, 0);
            }
        }
    }

    static void promise09EachRowOfAPieceByFold() {
        for (int flawed = 0; flawed < 20; flawed++) {
            RobeHouse h = measured(1, 1, 20);
            Tapes.bolt(h, "00000" + "0".repeat(flawed + 1) + "!" + "0".repeat(19 - flawed), 0, 0);
            due(0, h, "sew", 0, PLAIN, 0);
            for (int fold = 0; fold <= 9; fold++) {
                h.set(1, fold);
                due(flawed < fold || flawed > 19 - fold ? 0 : 1, h, "robe", 0, 9);
            }
        }
    }

    static void promise09ThreadsGoRound() {
        for (int a = 0; a <= 9; a++) {
            for (int b = 0; b <= 9; b++) {
                int apart = Math.min(Math.abs(a - b), 10 - Math.abs(a - b));
                // bodies a and b, front and collar as body 0
                RobeHouse h = leastHouse("" + a + b + "00" + a + a, 0);
                for (int threads = 0; threads <= 9; threads++) {
                    h.set(0, threads);
                    due(apart > threads ? 1 : 0, h, "ugly", 0, PLAIN, 0);
                }
            }
        }
    }

    // ---- promise 10: sleeves

    static void promise10BoltIsNone() {
        outside(Houses.RICH, NONE, 0, 0, 10, "sleeves", 0);
        outside(Houses.ALL_BOLTS, NONE, 0, 0, 39, "sleeves", 0);
        refused(Houses.RICH, NONE, "sleeves", 0);
        refused(Houses.RICH, NONE, "sleeves", 9);
    }

    static void promise10NoneCanBeSewnSo() {
        refused(Houses.RICH, STATE, "sleeves", 7);
        refused(Houses.RICH, STATE, "sleeves", 5);
    }

    static void promise10EvenAnd2AtLeast() {
        for (int rows = 1; rows <= 120; rows++) {
            RobeHouse h = new RobeHouse();
            Tapes.bolt(h, "0".repeat(rows), 0, 0);
            due(rows < 14 || rows % 2 == 1 ? STATE : (rows - 12) / 2, h, "sleeves", 0);
            h.measure(1, 1, 1);
            due(rows < 6 || rows % 2 == 1 ? STATE : (rows - 4) / 2, h, "sleeves", 0);
            h.measure(1, 1, 2);
            due(rows < 7 || rows % 2 == 0 ? STATE : (rows - 5) / 2, h, "sleeves", 0);
        }
    }

    static void promise10GreatestMeasuresOf120Rows() {
        RobeHouse h = measured(30, 30, 28);
        Tapes.bolt(h, "0".repeat(120), 0, 0);
        due(1, h, "sleeves", 0);
        h.measure(30, 30, 29);
        due(STATE, h, "sleeves", 0);
        h.measure(29, 30, 30);
        due(1, h, "sleeves", 0);
        h.measure(1, 1, 1);
        due(58, h, "sleeves", 0);
    }

    // ---- promise 11: ugly

    static void promise11BoltIsNone() {
        outside(Houses.RICH, NONE, 0, 0, 10, "ugly", 0, PLAIN, 0);
        outside(Houses.ALL_BOLTS, NONE, 0, 0, 39, "ugly", 0, PLAIN, 0);
        refused(Houses.RICH, NONE, "ugly", 0, PLAIN, 0);
        refused(Houses.RICH, NONE, "ugly", 9, PLAIN, 0);
    }

    static void promise11NoneComesAheadOfBad() {
        refused(Houses.RICH, NONE, "ugly", 0, -1, 0);
        refused(Houses.RICH, NONE, "ugly", 11, PLAIN, 64);
        refused(Houses.RICH, NONE, "ugly", -1, ORDERS, -1);
    }

    static void promise11OrderIsBad() {
        outside(Houses.RICH, BAD, 1, 0, ORDERS - 1, "ugly", 8, 0, 0);
        for (int order : new int[] {0, 1, PLAIN - 1, PLAIN + 1, REVERSED - 1, REVERSED + 1, ORDERS - 1,
            PLAIN + ORDERS, PLAIN - ORDERS, -PLAIN, -REVERSED, REVERSED + ORDERS}) {
            refused(Houses.RICH, BAD, "ugly", 8, order, 0);
        }
    }

    static void promise11TurnedIsBad() {
        outside(Houses.RICH, BAD, 2, 0, 63, "ugly", 8, PLAIN, 0);
        refused(Houses.RICH, BAD, "ugly", 8, PLAIN, 64 | 63);
        refused(Houses.RICH, BAD, "ugly", 8, PLAIN, -64);
    }

    static void promise11OneWayTurnedIsBad() {
        for (int turned = 1; turned < 63; turned++) {
            refused(Houses.RICH, BAD, "ugly", 6, PLAIN, turned);
        }
        outside(Houses.RICH, BAD, 2, 0, 63, "ugly", 6, PLAIN, 0);
    }

    static void promise11BadComesAheadOfState() {
        refused(Houses.RICH, BAD, "ugly", 7, 0, 0);
        refused(Houses.RICH, BAD, "ugly", 7, PLAIN, 64);
        refused(Houses.RICH, BAD, "ugly", 7, PLAIN, -1);
        // bolt 5 is one-way and too short
        refused(Houses.RICH, BAD, "ugly", 5, PLAIN, 1);
    }

    static void promise11State() {
        refused(Houses.RICH, STATE, "ugly", 7, PLAIN, 0);
        refused(Houses.RICH, STATE, "ugly", 7, REVERSED, 63);
        refused(Houses.RICH, STATE, "ugly", 5, PLAIN, 63);
    }

    static void promise11EachOrder() {
        RobeHouse h = leastHouse("000000", 0);
        int found = 0;
        for (int order = -10; order < ORDERS + 10; order++) {
            due(isOrder(order) ? 0 : BAD, h, "ugly", 0, order, 0);
            found += isOrder(order) ? 1 : 0;
        }
        CHECK.due("orders", 720, found);
    }

    static void promise11EachTurned() {
        RobeHouse plain = leastHouse("000000", 0);
        RobeHouse oneWay = leastHouse("000000", 1);
        for (int turned = -130; turned <= 130; turned++) {
            due(turned >= 0 && turned <= 63 ? 0 : BAD, plain, "ugly", 0, PLAIN, turned);
            due(turned == 0 || turned == 63 ? 0 : BAD, oneWay, "ugly", 0, PLAIN, turned);
        }
    }

    static void promise11FirstPieceIsTheHighestDigit() {
        // bodies of 1, front of 1, collar of 2, sleeves of 1: only the collar's second row is flawed
        RobeHouse h = measured(1, 1, 2);
        h.set(1, 0);
        Tapes.bolt(h, "12" + "3" + "4" + "5" + "67", 0, 0);
        // collar 12, front 3, sleeves 4 and 5, bodies 6 (1) and 7 (0)
        due(0, h, "sew", 0, REVERSED, 0);
        String[] pieces = {"7", "6", "5", "4", "3", "1 2"};
        for (int piece = 0; piece < 6; piece++) {
            CHECK.due("piece " + piece, pieces[piece], Tapes.pieceOf(h, 0, piece));
        }
    }

    static void promise11BitOfEachPiece() {
        for (int turned = 0; turned < 6; turned++) {
            RobeHouse h = measured(2, 2, 2);
            Tapes.bolt(h, "121212121212", 0, 0);
            due(0, h, "sew", 0, PLAIN, 1 << turned);
            for (int piece = 0; piece < 6; piece++) {
                CHECK.due("piece " + piece, piece == turned ? "2 1" : "1 2", Tapes.pieceOf(h, 0, piece));
            }
        }
    }

    static void promise11SeamAIsAllOfTheBodies() {
        for (int body = 1; body <= 30; body++) {
            RobeHouse h = measured(body, 1, 1);
            Tapes.bolt(h, "0".repeat(body) + "5".repeat(body) + "05" + "00", 0, 0);
            due(body, h, "ugly", 0, PLAIN, 0);
        }
    }

    static void promise11SeamsBAndCGoHalfTheBody() {
        for (int body = 1; body <= 30; body++) {
            for (int sleeve = 1; sleeve <= 17; sleeve += sleeve == 1 ? 1 : 5) {
                RobeHouse h = measured(body, 1, 1);
                int meet = Math.min(body / 2, sleeve);
                String bodies = "0".repeat(2 * body);
                Tapes.bolt(h, bodies + "5".repeat(sleeve) + "0".repeat(sleeve) + "00", 0, 0);
                due(meet, h, "ugly", 0, PLAIN, 0);
                Tapes.bolt(h, bodies + "0".repeat(sleeve) + "5".repeat(sleeve) + "00", 0, 0);
                due(meet, h, "ugly", 1, PLAIN, 0);
                Tapes.bolt(h, bodies + "5".repeat(2 * sleeve) + "00", 0, 0);
                due(2 * meet, h, "ugly", 2, PLAIN, 0);
            }
        }
    }

    static void promise11SeamDAsLongAsBothAreThere() {
        for (int body = 1; body <= 12; body++) {
            for (int front = 1; front <= 14; front++) {
                RobeHouse h = measured(body, front, 1);
                // the collar is as the front's first row, all else as the bodies
                Tapes.bolt(h, "0".repeat(2 * body + 2) + "5".repeat(front) + "5", 0, 0);
                due(Math.min(body, front), h, "ugly", 0, PLAIN, 0);
            }
        }
    }

    static void promise11SeamDGoesFromTheBodysLastRow() {
        // bodies 0123, sleeves 0, front 32, collar 3: row 0 of the front with row 3 of the body
        RobeHouse h = measured(4, 2, 1);
        Tapes.bolt(h, "0123" + "0123" + "01" + "01" + "32" + "3", 0, 0);
        due(0, h, "ugly", 0, PLAIN, 0);
        Tapes.bolt(h, "0123" + "0123" + "01" + "01" + "01" + "0", 0, 0);
        due(2, h, "ugly", 1, PLAIN, 0);
        // a front of all the body's rows meets row 0 at its last row; one that is longer ends there
        h.measure(4, 5, 1);
        Tapes.bolt(h, "0123" + "0123" + "01" + "01" + "32109" + "3", 0, 0);
        due(0, h, "ugly", 2, PLAIN, 0);
    }

    static void promise11SeamEAsLongAsBothAreThere() {
        for (int front = 1; front <= 12; front++) {
            for (int collar = 1; collar <= 14; collar++) {
                RobeHouse h = measured(1, front, collar);
                Tapes.bolt(h, "0".repeat(4 + front) + "5".repeat(collar), 0, 0);
                due(Math.min(front, collar), h, "ugly", 0, PLAIN, 0);
            }
        }
    }

    static void promise11WornOf2IsNotShownAndOf3Is() {
        for (int times = 0; times <= 10; times++) {
            RobeHouse h = leastHouse("000000", 0);
            h.set(1, 0);
            h.sew(0, PLAIN, 0);
            for (int k = 0; k < times; k++) {
                h.wear(0);
            }
            h.unpick(0, PLAIN, 0);
            // all but the front are worn
            due(times >= 3 ? 25 : 0, h, "ugly", 1, PLAIN, 0);
        }
    }

    static void promise11FlawedAndWornIsShownOnce() {
        RobeHouse h = leastHouse("0!0!0!0!0!0!", 0);
        h.set(1, 0);
        due(30, h, "ugly", 0, PLAIN, 0);
        h.sew(0, PLAIN, 0);
        for (int k = 0; k < 3; k++) {
            h.wear(0);
        }
        due(6, h, "robe", 0, 9);
        h.unpick(0, PLAIN, 0);
        due(30, h, "ugly", 1, PLAIN, 0);
    }

    static void promise11EachRowOfTheGreatestBoltIsShown() {
        for (int flawed = 0; flawed < 120; flawed++) {
            RobeHouse h = measured(30, 29, 29);
            h.set(1, 0);
            Tapes.bolt(h, "0".repeat(flawed + 1) + "!" + "0".repeat(119 - flawed), 0, 0);
            due(5, h, "ugly", 0, PLAIN, 0);
            due(5, h, "ugly", 0, REVERSED, 63);
            due(0, h, "sew", 0, REVERSED, 63);
            due(1, h, "robe", 0, 9);
        }
    }

    static void promise11GreatestBolt() {
        RobeHouse h = measured(30, 29, 29);
        h.set(1, 0);
        Tapes.bolt(h, "0".repeat(30) + "5".repeat(30) + "50" + "5".repeat(29) + "0".repeat(29), 0, 0);
        // A 30, B 1, C 1, D 29, E 29
        due(90, h, "ugly", 0, PLAIN, 0);
        h.measure(1, 1, 1);
        Tapes.bolt(h, "0!".repeat(65), 0, 0);
        due(STATE, h, "ugly", 1, PLAIN, 0);
        Tapes.bolt(h, "0!".repeat(64), 0, 0);
        due(5 * 64, h, "ugly", 2, PLAIN, 0);
    }

    // ---- promise 12: best

    static void promise12BoltIsNone() {
        outside(Houses.RICH, NONE, 0, 0, 10, "best", 0);
        outside(Houses.ALL_BOLTS, NONE, 0, 0, 39, "best", 0);
        refused(Houses.RICH, NONE, "best", 0);
        refused(Houses.RICH, NONE, "best", 9);
    }

    static void promise12State() {
        refused(Houses.RICH, STATE, "best", 7);
        refused(Houses.RICH, STATE, "best", 5);
    }

    static void promise12OfAllAlikeTheLeast() {
        for (int rows : new int[] {6, 8, 120}) {
            for (int oneWay = 0; oneWay < 2; oneWay++) {
                RobeHouse h = leastHouse("4".repeat(rows), oneWay);
                due(0, h, "best", 0);
                due(PLAIN, h, "laid", 0);
                due(0, h, "laid", 1);
            }
        }
    }

    /** THE BEST by asking ugly() for each laying there is: ugly, order, how many are turned, turned. */
    private static int[] bestByAsking(RobeHouse h, int bolt) {
        int[] found = {Integer.MAX_VALUE, 0, 0, 0};
        for (int order = PLAIN; order <= REVERSED; order++) {
            for (int turned = 0; turned < 64 && isOrder(order); turned++) {
                int ugly = h.ugly(bolt, order, turned);
                int[] now = {ugly, order, Integer.bitCount(turned), turned};
                if (ugly >= 0 && Arrays.compare(now, found) < 0) {
                    found = now;
                }
            }
        }
        return found;
    }

    private static void bestIsAsAsked(RobeHouse h, int bolt) {
        int[] want = bestByAsking(h, bolt);
        due(want[0], h, "best", bolt);
        due(want[1], h, "laid", 0);
        due(want[3], h, "laid", 1);
    }

    static void promise12OfTheLeastBolts() {
        // rows without an inner order: only the order of the pieces matters, and none is turned
        for (String text : new String[] {"012345", "554433", "909090", "123123", "000001", "100000", "9!8!7!6!5!4!"}) {
            for (int fold = 0; fold < 2; fold++) {
                RobeHouse h = leastHouse(text, 0);
                h.set(1, fold);
                bestIsAsAsked(h, 0);
                due(0, h, "laid", 1);
            }
        }
    }

    static void promise12OfTheGreatestBolts() {
        int[][] measures = {{30, 29, 29}, {1, 1, 1}, {20, 15, 9}, {1, 30, 30}, {30, 1, 1}};
        for (int k = 0; k < measures.length; k++) {
            RobeHouse h = measured(measures[k][0], measures[k][1], measures[k][2]);
            StringBuilder text = new StringBuilder();
            for (int row = 0; row < 120; row++) {
                text.append(row * row * (k + 3) / 7 % 10).append(row % 13 == 5 ? "!" : "");
            }
            Tapes.bolt(h, text.toString(), 0, k % 2);
            due(120, h, "about", 0, 0);
            bestIsAsAsked(h, 0);
        }
    }

    static void promise12OneWayNoneOrAllTurned() {
        for (String text : new String[] {"0123456789", "1221331441", "9876543210", "1112223334"}) {
            RobeHouse h = measured(2, 2, 2);
            h.set(1, 0);
            Tapes.bolt(h, text, 0, 1);
            bestIsAsAsked(h, 0);
            CHECK.yes("none is turned, or all are", h.laid(1) == 0 || h.laid(1) == 63);
        }
    }

    static void promise12OneWayOfBothTheFewestTurned() {
        RobeHouse h = measured(2, 2, 2);
        // all pieces have 2 rows, and each reads the same from both ends
        Tapes.bolt(h, "113311334455", 0, 1);
        bestIsAsAsked(h, 0);
        due(0, h, "laid", 1);
    }

    static void promise12LessUglyAheadOfTheLeastOrder() {
        // bodies 1 and 1 must not lie first, where 5 is
        RobeHouse h = leastHouse("511111", 0);
        due(0, h, "best", 0);
        // a sleeve takes the 5, as no seam goes to it from bodies of 1: 0, 1 stay behind it
        due(orderOf(2, 0, 1, 3, 4, 5), h, "laid", 0);
    }

    static void promise12FewestTurnedAheadOfTheLeastSet() {
        RobeHouse h = measured(2, 2, 2);
        h.set(0, 1);
        // bodies 02, sleeves 1, front 20, collar 02: the collar turned, or bodies and front turned (19)
        Tapes.bolt(h, "02" + "02" + "1" + "1" + "20" + "02", 0, 0);
        due(0, h, "ugly", 0, PLAIN, 19);
        due(0, h, "ugly", 0, PLAIN, 32);
        due(0, h, "best", 0);
        due(PLAIN, h, "laid", 0);
        due(32, h, "laid", 1);
    }

    static void promise12OfAsManyTurnedTheLeastSet() {
        RobeHouse h = measured(2, 2, 2);
        h.set(0, 1);
        // the front turned, or the collar
        Tapes.bolt(h, "11" + "11" + "1" + "1" + "20" + "02", 0, 0);
        due(0, h, "best", 0);
        due(PLAIN, h, "laid", 0);
        due(16, h, "laid", 1);
        // one of the bodies
        Tapes.bolt(h, "02" + "20" + "1" + "1" + "11" + "11", 0, 0);
        due(0, h, "best", 1);
        due(PLAIN, h, "laid", 0);
        due(1, h, "laid", 1);
    }

    static void promise12LeastOrderAheadOfTheFewestTurned() {
        RobeHouse h = measured(2, 2, 2);
        h.set(0, 1);
        // a body turned, or none if 02 and 20 are sleeves
        Tapes.bolt(h, "02" + "20" + "11" + "11" + "11" + "11", 0, 0);
        due(0, h, "ugly", 0, orderOf(2, 3, 0, 1, 4, 5), 0);
        due(0, h, "best", 0);
        due(PLAIN, h, "laid", 0);
        due(1, h, "laid", 1);
    }

    static void promise12ManyTies() {
        for (int k = 0; k < 24; k++) {
            RobeHouse h = measured(2 + k % 3, 1 + k % 4, 1 + k % 5);
            h.set(1, k % 3);
            h.set(0, k % 2);
            int rows = 2 * (2 + k % 3) + 1 + k % 4 + 1 + k % 5 + 2 + 2 * (k % 2);
            StringBuilder text = new StringBuilder();
            for (int row = 0; row < rows; row++) {
                text.append("0135".charAt((row * 7 + row * row * k) % 11 % 4)).append((row + k) % 6 == 0 ? "!" : "");
            }
            Tapes.bolt(h, text.toString(), 0, 0);
            bestIsAsAsked(h, 0);
        }
    }

    static void promise12AllLengthsAreDifferent() {
        int[][] measures = {{4, 3, 2}, {3, 5, 1}, {2, 1, 4}, {5, 2, 3}};
        for (int k = 0; k < 40; k++) {
            RobeHouse h = measured(measures[k % 4][0], measures[k % 4][1], measures[k % 4][2]);
            h.set(0, k % 3);
            int sleeve = k % 8 < 4 ? 1 : 6;
            int rows = 2 * measures[k % 4][0] + measures[k % 4][1] + measures[k % 4][2] + 2 * sleeve;
            StringBuilder text = new StringBuilder();
            for (int row = 0; row < rows; row++) {
                text.append(row * (row + 3) * (2 * k + 7) % 101 % 10);
            }
            Tapes.bolt(h, text.toString(), 0, 0);
            bestIsAsAsked(h, 0);
        }
    }

    static void promise12BoltStaysAsItIs() {
        RobeHouse h = Houses.RICH.make();
        String before = Tapes.rowsOf(h, 8);
        h.best(8);
        CHECK.due("its rows", before, Tapes.rowsOf(h, 8));
        due(10, h, "about", 8, 0);
    }

    // ---- promise 13: laid

    static void promise13WhatIsNone() {
        outside(Houses.RICH, NONE, 0, 0, 1, "laid", 0);
        outside(Houses.NEW, NONE, 0, 0, 1, "laid", 0);
    }

    static void promise13NoneWasFound() {
        RobeHouse h = new RobeHouse();
        Tapes.bolt(h, "123", 0, 0);
        due(NONE, h, "best", 1);
        due(STATE, h, "best", 0);
        due(NONE, h, "laid", 0);
        due(NONE, h, "laid", 1);
    }

    static void promise13TheLatestThatWasFound() {
        RobeHouse h = leastHouse("511111", 0);
        Tapes.bolt(h, "111111", 0, 0);
        Tapes.bolt(h, "11111", 0, 0);
        due(0, h, "best", 0);
        due(0, h, "best", 1);
        due(PLAIN, h, "laid", 0);
        due(0, h, "best", 0);
        due(orderOf(2, 0, 1, 3, 4, 5), h, "laid", 0);
        due(STATE, h, "best", 2);
        due(NONE, h, "best", 3);
        due(NONE, h, "best", -1);
        due(orderOf(2, 0, 1, 3, 4, 5), h, "laid", 0);
        due(0, h, "laid", 1);
    }

    static void promise13StaysWhenAllElseChanges() {
        RobeHouse h = leastHouse("511111", 0);
        h.best(0);
        h.measure(9, 9, 9);
        h.set(0, 9);
        h.measure(1, 1, 1);
        due(0, h, "sew", 0, h.laid(0), h.laid(1));
        due(1, h, "unpick", 0, REVERSED, 63);
        due(orderOf(2, 0, 1, 3, 4, 5), h, "laid", 0);
    }

    // ---- promise 14: sew

    static void promise14BoltIsNone() {
        outside(Houses.RICH, NONE, 0, 0, 10, "sew", 0, PLAIN, 0);
        outside(Houses.ALL_BOLTS, NONE, 0, 0, 39, "sew", 0, PLAIN, 0);
        refused(Houses.RICH, NONE, "sew", 0, PLAIN, 0);
        refused(Houses.RICH, NONE, "sew", 9, PLAIN, 0);
    }

    static void promise14NoneComesAheadOfAll() {
        refused(Houses.RICH, NONE, "sew", 0, -1, 0);
        refused(Houses.RICH, NONE, "sew", 11, PLAIN, 64);
        refused(Houses.ALL_ROBES, NONE, "sew", 0, PLAIN, 0);
        refused(Houses.ALL_MADE, NONE, "sew", 40, 0, 0);
    }

    static void promise14OrderIsBad() {
        outside(Houses.RICH, BAD, 1, 0, ORDERS - 1, "sew", 8, 0, 0);
        for (int order : new int[] {0, PLAIN - 1, PLAIN + 1, REVERSED + 1, ORDERS - 1, PLAIN + ORDERS, -PLAIN}) {
            refused(Houses.RICH, BAD, "sew", 8, order, 0);
        }
    }

    static void promise14TurnedIsBad() {
        outside(Houses.RICH, BAD, 2, 0, 63, "sew", 8, PLAIN, 0);
        outside(Houses.RICH, BAD, 2, 0, 63, "sew", 6, PLAIN, 0);
        for (int turned = 1; turned < 63; turned++) {
            refused(Houses.RICH, BAD, "sew", 6, PLAIN, turned);
        }
    }

    static void promise14BadComesAheadOfStateAndFull() {
        refused(Houses.RICH, BAD, "sew", 7, 0, 0);
        refused(Houses.RICH, BAD, "sew", 7, PLAIN, 64);
        refused(Houses.ALL_ROBES, BAD, "sew", 8, 0, 0);
        refused(Houses.ALL_ROBES, BAD, "sew", 6, PLAIN, 1);
        refused(Houses.ALL_ROBES, BAD, "sew", 7, PLAIN, -1);
    }

    static void promise14State() {
        refused(Houses.RICH, STATE, "sew", 7, PLAIN, 0);
        refused(Houses.RICH, STATE, "sew", 5, PLAIN, 63);
    }

    static void promise14StateComesAheadOfFull() {
        refused(Houses.ALL_ROBES, STATE, "sew", 7, PLAIN, 0);
        refused(Houses.ALL_MADE, STATE, "sew", 5, PLAIN, 0);
    }

    static void promise14FullChangesNothing() {
        refused(Houses.ALL_ROBES, FULL, "sew", 8, PLAIN, 0);
        refused(Houses.ALL_ROBES, FULL, "sew", 6, REVERSED, 63);
        refused(Houses.ALL_MADE, FULL, "sew", 10, PLAIN, 7);
    }

    static void promise14ThirtyRobesInAll() {
        RobeHouse h = measured(1, 1, 1);
        for (int robe = 0; robe < 30; robe++) {
            due(robe, h, "sew", Tapes.bolt(h, "123456", 0, 0), PLAIN, 0);
        }
        due(30, h, "count", 1);
        due(1, h, "robe", 29, 2);
        Tapes.bolt(h, "123456", 0, 0);
        due(FULL, h, "sew", 30, PLAIN, 0);
        // one that is unpicked leaves no number free
        due(31, h, "unpick", 29, PLAIN, 0);
        due(FULL, h, "sew", 31, PLAIN, 0);
        due(29, h, "count", 1);
    }

    static void promise14NumbersGoOnBehindUnpickedOnes() {
        RobeHouse h = measured(1, 1, 1);
        due(0, h, "sew", Tapes.bolt(h, "123456", 0, 0), PLAIN, 0);
        due(1, h, "unpick", 0, PLAIN, 0);
        due(1, h, "sew", 1, PLAIN, 0);
        due(NONE, h, "robe", 0, 0);
        due(1, h, "count", 1);
    }

    static void promise14LeastAndGreatestRobe() {
        RobeHouse h = measured(1, 1, 1);
        due(0, h, "sew", Tapes.bolt(h, "123456", 0, 0), REVERSED, 63);
        due(6, h, "piece", 0, 0, 0, 0);
        due(1, h, "piece", 0, 5, 0, 0);
        h.measure(30, 29, 29);
        due(1, h, "sew", Tapes.bolt(h, "0123456789".repeat(12), 9, 1), REVERSED, 63);
        // turned: row 0 of the collar lies at place 28, row 28 at place 0, row 0 of body 0 at the end
        due(8, h, "piece", 1, 5, 0, 0);
        due(0, h, "piece", 1, 5, 28, 0);
        due(9, h, "piece", 1, 0, 0, 0);
        due(0, h, "piece", 1, 0, 29, 0);
        due(126, h, "count", 3);
        due(0, h, "count", 0);
    }

    static void promise14EachLayingTakesEachRowOnce() {
        for (int order = PLAIN; order <= REVERSED; order++) {
            if (isOrder(order)) {
                RobeHouse h = measured(2, 1, 1);
                Tapes.bolt(h, "12345678", 0, 0);
                int turned = order % 64;
                due(0, h, "sew", 0, order, turned);
                due(1, h, "unpick", 0, order, turned);
                CHECK.due("joined as it was laid", "1 2 3 4 5 6 7 8", Tapes.rowsOf(h, 1));
            }
        }
    }

    static void promise14BoltIsUsedUp() {
        RobeHouse h = leastHouse("123456", 0);
        due(0, h, "sew", 0, PLAIN, 0);
        due(NONE, h, "sew", 0, PLAIN, 0);
        due(NONE, h, "about", 0, 0);
        due(NONE, h, "row", 0, 0, 0);
        due(NONE, h, "wash", 0);
        due(NONE, h, "dye", 0, 9);
        due(NONE, h, "sleeves", 0);
        due(NONE, h, "ugly", 0, PLAIN, 0);
        due(NONE, h, "best", 0);
        due(NONE, h, "line", 0, 0);
        due(0, h, "count", 0);
        due(1, h, "count", 5);
    }

    static void promise14ColourWornAndFlawsGoIntoTheRobe() {
        RobeHouse h = leastHouse("12!3456!", 0);
        h.dye(0, 2);
        h.sew(0, PLAIN, 0);
        h.wear(0);
        h.unpick(0, REVERSED, 0);
        due(1, h, "sew", 1, PLAIN, 0);
        due(2, h, "robe", 1, 0);
        String[] pieces = {"6!(1)", "5", "4(1)", "3(1)", "2!(1)", "2(1)"};
        for (int piece = 0; piece < 6; piece++) {
            CHECK.due("piece " + piece, pieces[piece], Tapes.pieceOf(h, 1, piece));
        }
    }
}

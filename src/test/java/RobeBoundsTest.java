/** The boundary cases of promises 15 to 21, each by a test named by its promise. */
public final class RobeBoundsTest {
    private static final int NONE = -1, BAD = -2, STATE = -3, FULL = -4;
    private static final int PLAIN = Houses.PLAIN, REVERSED = Houses.REVERSED;
    /** How many orders are told by six digits to the base 6. */
    private static final int ORDERS = 46656;
    private static final Check CHECK = new Check();

    public static void main(String[] args) {
        Suite.run(RobeBoundsTest.class, CHECK, 15, 21);
    }

    private static void due(int want, RobeHouse h, String name, long... args) {
        CHECK.call(want, h, name, args);
    }

    private static void refused(Houses kind, int want, String name, long... args) {
        Twins.refused(CHECK, kind, want, name, args);
    }

    private static void outside(Houses kind, int want, int k, int least, int most, String name, long... args) {
        Edges.refused(CHECK, kind, want, k, least, most, new Calls.Call(name, args));
    }

    /** No such robe: numbers outside, one that is unpicked, one that is not sewn yet. */
    private static void robeIsNone(String name, long... args) {
        outside(Houses.RICH, NONE, 0, 0, 4, name, args);
        outside(Houses.ALL_ROBES, NONE, 0, 0, 29, name, args);
        args[0] = 3;
        refused(Houses.RICH, NONE, name, args);
        refused(Houses.ALL_ROBES, NONE, name, args);
    }

    /** A house with one robe of these measures, all of pattern 0. */
    private static RobeHouse oneRobe(int body, int front, int collar, int sleeve) {
        RobeHouse h = new RobeHouse();
        h.measure(body, front, collar);
        due(0, h, "sew", Tapes.bolt(h, "0".repeat(2 * body + 2 * sleeve + front + collar), 0, 0), PLAIN, 0);
        return h;
    }

    private static void wear(RobeHouse h, int robe, int times) {
        for (int k = 0; k < times; k++) {
            h.wear(robe);
        }
    }

    // ---- promise 15: robe

    static void promise15RobeIsNone() {
        robeIsNone("robe", 0, 0);
        for (int what = 0; what < 10; what++) {
            refused(Houses.RICH, NONE, "robe", 3, what);
        }
    }

    static void promise15WhatIsNone() {
        outside(Houses.RICH, NONE, 1, 0, 9, "robe", 0, 0);
        outside(Houses.RICH, NONE, 1, 0, 9, "robe", 1, 0);
    }

    static void promise15EachWhat() {
        RobeHouse h = Houses.RICH.make();
        int[][] want = {{3, 1, 2, 1, 1, 0, 0, 0, NONE, 0}, {5, 2, 2, 1, 1, 1, 10, 1, NONE, 0},
            {0, 1, 2, 1, 1, 0, 0, 0, 4, 0}, null, {8, 1, 2, 1, 1, 1, 8, NONE, NONE, 0}};
        for (int robe = 0; robe < want.length; robe++) {
            for (int what = 0; what < 10; what++) {
                due(want[robe] == null ? NONE : want[robe][what], h, "robe", robe, what);
            }
        }
    }

    static void promise15FirstAndLastRobe() {
        RobeHouse h = Houses.ALL_ROBES.make();
        due(3, h, "robe", 0, 0);
        due(2, h, "robe", 29, 0);
        due(NONE, h, "robe", 30, 0);
    }

    static void promise15LeastAndGreatestColour() {
        RobeHouse h = new RobeHouse();
        h.measure(1, 1, 1);
        due(0, h, "robe", Houses.sewn(h, "123456", 0, 0), 0);
        due(9, h, "robe", Houses.sewn(h, "123456", 9, 0), 0);
    }

    static void promise15LeastAndGreatestRows() {
        RobeHouse h = oneRobe(1, 1, 1, 58);
        due(58, h, "robe", 0, 1);
        due(1, h, "robe", 0, 2);
        h = oneRobe(30, 29, 29, 1);
        due(1, h, "robe", 0, 1);
        due(30, h, "robe", 0, 2);
        due(29, h, "robe", 0, 3);
        due(29, h, "robe", 0, 4);
        h = oneRobe(29, 30, 30, 1);
        due(30, h, "robe", 0, 3);
        due(30, h, "robe", 0, 4);
    }

    static void promise15EachChestAndEachOne() {
        for (int chest = 0; chest < 4; chest++) {
            for (int person = 0; person < 10; person++) {
                RobeHouse h = oneRobe(1, 1, 1, 1);
                due(NONE, h, "robe", 0, 7);
                due(NONE, h, "robe", 0, 8);
                h.chest(0, chest);
                h.person(person, 0, 0);
                due(chest, h, "robe", 0, 7);
                due(NONE, h, "robe", 0, 8);
                due(0, h, "lend", 0, person, 0);
                due(person, h, "robe", 0, 8);
                due(person, h, "back", 0, 0);
                due(NONE, h, "robe", 0, 8);
                due(chest, h, "robe", 0, 7);
            }
        }
    }

    static void promise15RowsOfTheLeastAndTheGreatestLining() {
        RobeHouse h = oneRobe(1, 1, 1, 1);
        due(0, h, "robe", 0, 6);
        Tapes.bolt(h, "1".repeat(120), 0, 0);
        due(114, h, "line", 0, 1);
        due(6, h, "robe", 0, 6);
        due(1, h, "robe", 0, 5);
        h = oneRobe(30, 29, 29, 1);
        Tapes.bolt(h, "1".repeat(120), 0, 0);
        due(0, h, "line", 0, 1);
        due(120, h, "robe", 0, 6);
    }

    static void promise15ShownRowsByFold() {
        RobeHouse h = new RobeHouse();
        h.measure(5, 4, 3);
        // pieces of 5, 5, 2, 2, 4, 3 rows, all flawed
        Houses.sewn(h, "0!".repeat(21), 0, 0);
        int[] want = {21, 3 + 3 + 0 + 0 + 2 + 1, 1 + 1, 0, 0, 0, 0, 0, 0, 0};
        for (int fold = 0; fold <= 9; fold++) {
            h.set(1, fold);
            due(want[fold], h, "robe", 0, 9);
        }
    }

    static void promise15ShownFromWorn3On() {
        RobeHouse h = oneRobe(1, 1, 1, 1);
        h.set(1, 0);
        for (int times = 1; times <= 10; times++) {
            h.wear(0);
            due(times < 3 ? 0 : 5, h, "robe", 0, 9);
        }
    }

    static void promise15LiningIsNotShown() {
        RobeHouse h = oneRobe(1, 1, 1, 1);
        h.set(1, 0);
        Tapes.bolt(h, "1!1!1!1!1!1!", 9, 0);
        due(0, h, "line", 0, 1);
        due(0, h, "robe", 0, 9);
        due(0, h, "robe", 0, 0);
        due(0, h, "miss", 0, 0);
    }

    // ---- promise 16: piece

    static void promise16RobeIsNone() {
        robeIsNone("piece", 0, 0, 0, 0);
    }

    static void promise16PieceIsNone() {
        outside(Houses.RICH, NONE, 1, 0, 5, "piece", 0, 0, 0, 0);
    }

    static void promise16RowIsNone() {
        // pieces of 2, 2, 1, 1, 1, 1 rows
        for (int piece = 0; piece < 6; piece++) {
            outside(Houses.RICH, NONE, 2, 0, piece < 2 ? 1 : 0, "piece", 0, piece, 0, 0);
        }
    }

    static void promise16WhatIsNone() {
        outside(Houses.RICH, NONE, 3, 0, 2, "piece", 0, 0, 0, 0);
        outside(Houses.RICH, NONE, 3, 0, 2, "piece", 1, 5, 0, 0);
    }

    static void promise16FirstAndLastRowOfEachPiece() {
        RobeHouse h = new RobeHouse();
        h.measure(3, 4, 5);
        // bodies 012 and 345!, sleeves 67 and 89, front 0123, collar 45678!
        Houses.sewn(h, "012" + "345!" + "67" + "89" + "0123" + "45678!", 0, 0);
        int[] first = {0, 3, 6, 8, 0, 4};
        int[] rows = {3, 3, 2, 2, 4, 5};
        for (int piece = 0; piece < 6; piece++) {
            int last = rows[piece] - 1;
            due(first[piece], h, "piece", 0, piece, 0, 0);
            due(first[piece] + last, h, "piece", 0, piece, last, 0);
            due(piece == 1 || piece == 5 ? 1 : 0, h, "piece", 0, piece, last, 1);
            due(0, h, "piece", 0, piece, 0, 1);
            due(NONE, h, "piece", 0, piece, last + 1, 0);
            due(NONE, h, "piece", 0, piece, -1, 0);
        }
    }

    static void promise16Worn9AtMost() {
        RobeHouse h = oneRobe(1, 1, 1, 1);
        for (int times = 1; times <= 12; times++) {
            h.wear(0);
            due(Math.min(times, 9), h, "piece", 0, 5, 0, 2);
            due(0, h, "piece", 0, 4, 0, 2);
            due(0, h, "piece", 0, 5, 0, 0);
            due(0, h, "piece", 0, 5, 0, 1);
        }
    }

    // ---- promise 17: miss

    static void promise17RobeIsNone() {
        robeIsNone("miss", 0, 0);
    }

    static void promise17SeamIsNone() {
        outside(Houses.RICH, NONE, 1, 0, 4, "miss", 0, 0);
    }

    static void promise17EachSeamAlone() {
        // bodies of 4, sleeves of 2, front of 3, collar of 2
        String[] texts = {"0000" + "5555" + "00" + "55" + "000" + "00", "0000" + "0000" + "55" + "00" + "000" + "00",
            "0000" + "0000" + "00" + "55" + "000" + "00", "0000" + "0000" + "00" + "00" + "555" + "55",
            "0000" + "0000" + "00" + "00" + "000" + "55"};
        int[] rows = {4, 2, 2, 3, 2};
        for (int unlike = 0; unlike < 5; unlike++) {
            RobeHouse h = new RobeHouse();
            h.measure(4, 3, 2);
            Houses.sewn(h, texts[unlike], 0, 0);
            for (int seam = 0; seam < 5; seam++) {
                due(seam == unlike ? rows[seam] : 0, h, "miss", 0, seam);
            }
        }
    }

    static void promise17ThreadsGoRound() {
        for (int a = 0; a <= 9; a++) {
            for (int b = 0; b <= 9; b++) {
                RobeHouse h = new RobeHouse();
                h.measure(1, 1, 1);
                Houses.sewn(h, "" + a + b + "00" + a + b, 0, 0);
                int apart = Math.floorMod(a - b, 10);
                apart = Math.min(apart, 10 - apart);
                for (int threads = 0; threads <= 9; threads++) {
                    h.set(0, threads);
                    due(apart > threads ? 1 : 0, h, "miss", 0, 0);
                    due(0, h, "miss", 0, 3);
                    due(apart > threads ? 1 : 0, h, "miss", 0, 4);
                }
            }
        }
    }

    static void promise17AsTheRobeIsHoweverItWasLaid() {
        int[] orders = {PLAIN, REVERSED, 16605, 8530};
        for (int order : orders) {
            for (int turned = 0; turned < 64; turned++) {
                RobeHouse h = new RobeHouse();
                h.measure(3, 2, 2);
                Tapes.bolt(h, "0121!0201!120212", 0, 0);
                Tapes.bolt(h, "03692581470369", 0, 0);
                h.set(1, 0);
                int ugly = h.ugly(0, order, turned);
                due(0, h, "sew", 0, order, turned);
                // what is looked at in between does not matter
                h.ugly(1, REVERSED, 21);
                int sum = 5 * h.robe(0, 9);
                for (int seam = 0; seam < 5; seam++) {
                    sum += h.miss(0, seam);
                }
                CHECK.due("misses and shown rows of order " + order + ", turned " + turned, ugly, sum);
            }
        }
    }

    static void promise17HalfOfTheBodyIsCut() {
        for (int body = 1; body <= 9; body++) {
            for (int sleeve = 1; sleeve <= 6; sleeve++) {
                RobeHouse h = new RobeHouse();
                h.measure(body, 1, 1);
                Houses.sewn(h, "0".repeat(2 * body) + "5".repeat(2 * sleeve) + "00", 0, 0);
                due(Math.min(body / 2, sleeve), h, "miss", 0, 1);
                due(Math.min(body / 2, sleeve), h, "miss", 0, 2);
            }
        }
    }

    static void promise17AsLongAsBothAreThere() {
        for (int n = 1; n <= 6; n++) {
            RobeHouse h = new RobeHouse();
            h.measure(3, n, 4);
            Houses.sewn(h, "0".repeat(8) + "5".repeat(n) + "0000", 0, 0);
            due(Math.min(3, n), h, "miss", 0, 3);
            due(Math.min(4, n), h, "miss", 0, 4);
        }
    }

    // ---- promise 18: wear

    static void promise18RobeIsNone() {
        robeIsNone("wear", 0);
    }

    static void promise18NineAtMost() {
        RobeHouse h = oneRobe(2, 1, 3, 4);
        for (int times = 1; times <= 9; times++) {
            due(2 + 6 + 3, h, "wear", 0);
        }
        for (int times = 10; times <= 12; times++) {
            due(0, h, "wear", 0);
        }
        for (int piece = 0; piece < 6; piece++) {
            CHECK.due("piece " + piece, new String[] {"0 0(9)", "0 0(9)", "0(9) 0(9) 0(9) 0", "0(9) 0(9) 0(9) 0",
                "0", "0(9) 0(9) 0(9)"}[piece], Tapes.pieceOf(h, 0, piece));
        }
    }

    static void promise18RowsOfASleeveBelow3() {
        for (int sleeve = 1; sleeve <= 6; sleeve++) {
            RobeHouse h = oneRobe(1, 1, 1, sleeve);
            due(2 + 1 + 2 * Math.min(3, sleeve), h, "wear", 0);
            for (int i = 0; i < sleeve; i++) {
                due(i < 3 ? 1 : 0, h, "piece", 0, 2, i, 2);
                due(i < 3 ? 1 : 0, h, "piece", 0, 3, i, 2);
            }
        }
    }

    static void promise18MiddleRowOfTheBodies() {
        for (int body = 1; body <= 30; body++) {
            RobeHouse h = oneRobe(body, 1, 1, 1);
            due(2 + 2 + 1, h, "wear", 0);
            for (int i = 0; i < body; i++) {
                due(i == body / 2 ? 1 : 0, h, "piece", 0, 0, i, 2);
                due(i == body / 2 ? 1 : 0, h, "piece", 0, 1, i, 2);
            }
        }
    }

    static void promise18AllOfTheCollarNoneOfTheFront() {
        for (int collar = 1; collar <= 30; collar++) {
            RobeHouse h = oneRobe(1, 31 - collar, collar, 1);
            due(2 + 2 + collar, h, "wear", 0);
            for (int i = 0; i < collar; i++) {
                due(1, h, "piece", 0, 5, i, 2);
            }
            for (int i = 0; i < 31 - collar; i++) {
                due(0, h, "piece", 0, 4, i, 2);
            }
        }
    }

    static void promise18OnlyThoseBelow9BecomeMore() {
        RobeHouse h = oneRobe(1, 1, 1, 1);
        wear(h, 0, 8);
        // the front, not worn, becomes the collar; the collar, worn 8, the front
        due(1, h, "unpick", 0, PLAIN, 0);
        due(1, h, "sew", 1, ((((0 * 6 + 1) * 6 + 2) * 6 + 3) * 6 + 5) * 6 + 4, 0);
        due(5, h, "wear", 1);
        due(1, h, "wear", 1);
        due(9, h, "piece", 1, 0, 0, 2);
        due(2, h, "piece", 1, 5, 0, 2);
        due(8, h, "piece", 1, 4, 0, 2);
    }

    static void promise18LiningIsNotWorn() {
        RobeHouse h = oneRobe(1, 1, 1, 1);
        Tapes.bolt(h, "123456", 0, 0);
        h.line(0, 1);
        due(5, h, "wear", 0);
        due(2, h, "unline", 0);
        CHECK.due("the lining", "1 2 3 4 5 6", Tapes.rowsOf(h, 2));
    }

    static void promise18LentOnesAreNotRefused() {
        RobeHouse h = Houses.RICH.make();
        due(2 + 2 + 1, h, "wear", 2);
        due(4, h, "robe", 2, 8);
    }

    // ---- promise 19: unpick

    static void promise19RobeIsNone() {
        robeIsNone("unpick", 0, PLAIN, 0);
    }

    static void promise19NoneComesAheadOfAll() {
        refused(Houses.RICH, NONE, "unpick", 3, -1, 0);
        refused(Houses.RICH, NONE, "unpick", 5, PLAIN, 64);
        refused(Houses.ALL_BOLTS, NONE, "unpick", 3, PLAIN, 0);
    }

    static void promise19OrderIsBad() {
        outside(Houses.RICH, BAD, 1, 0, ORDERS - 1, "unpick", 0, 0, 0);
        for (int order : new int[] {0, PLAIN - 1, PLAIN + 1, REVERSED + 1, ORDERS - 1, PLAIN + ORDERS, -PLAIN}) {
            refused(Houses.RICH, BAD, "unpick", 0, order, 0);
        }
    }

    static void promise19TurnedIsBad() {
        outside(Houses.RICH, BAD, 2, 0, 63, "unpick", 0, PLAIN, 0);
    }

    static void promise19OneWayNoneOrAll() {
        for (int turned = -1; turned <= 64; turned++) {
            RobeHouse h = new RobeHouse();
            h.measure(1, 1, 1);
            Houses.sewn(h, "123456", 0, 1);
            due(turned == 0 || turned == 63 ? 1 : BAD, h, "unpick", 0, PLAIN, turned);
            due(turned == 0 || turned == 63 ? 0 : 1, h, "count", 1);
        }
    }

    static void promise19BadComesAheadOfStateAndFull() {
        // robe 1 is lined and one-way, robe 2 lent
        refused(Houses.RICH, BAD, "unpick", 1, PLAIN, 1);
        refused(Houses.RICH, BAD, "unpick", 2, 0, 0);
        refused(Houses.RICH, BAD, "unpick", 4, PLAIN, 64);
        refused(Houses.ALL_BOLTS, BAD, "unpick", 0, 0, 0);
        refused(Houses.ALL_BOLTS, BAD, "unpick", 0, PLAIN, -1);
    }

    static void promise19LentOrLined() {
        refused(Houses.RICH, STATE, "unpick", 1, PLAIN, 0);
        refused(Houses.RICH, STATE, "unpick", 1, REVERSED, 63);
        refused(Houses.RICH, STATE, "unpick", 2, PLAIN, 5);
        refused(Houses.RICH, STATE, "unpick", 4, PLAIN, 0);
    }

    static void promise19StateComesAheadOfFull() {
        refused(Houses.ALL_BOLTS, STATE, "unpick", 1, PLAIN, 0);
        refused(Houses.ALL_BOLTS, STATE, "unpick", 2, PLAIN, 0);
        refused(Houses.ALL_MADE, STATE, "unpick", 4, PLAIN, 0);
    }

    static void promise19FullChangesNothing() {
        refused(Houses.ALL_BOLTS, FULL, "unpick", 0, PLAIN, 0);
        refused(Houses.ALL_MADE, FULL, "unpick", 29, REVERSED, 63);
    }

    static void promise19TheLastBoltThatCanBe() {
        RobeHouse h = oneRobe(1, 1, 1, 1);
        Houses.fillBolts(h, 39);
        Tapes.feed(h, "1");
        due(39, h, "unpick", 0, PLAIN, 0);
        due(6, h, "about", 39, 0);
        due(FULL, h, "bolt", 0, 0);
    }

    static void promise19BroughtBackAndUnlinedItCanBe() {
        RobeHouse h = Houses.RICH.make();
        due(4, h, "back", 2, 0);
        due(11, h, "unpick", 2, PLAIN, 0);
        due(12, h, "unline", 1);
        due(13, h, "unpick", 1, PLAIN, 63);
        due(1, h, "about", 13, 2);
        due(5, h, "about", 13, 1);
        due(10, h, "about", 13, 0);
    }

    static void promise19LiesInNoChestThen() {
        RobeHouse h = Houses.RICH.make();
        due(11, h, "unpick", 0, PLAIN, 0);
        due(NONE, h, "robe", 0, 7);
        due(-5, h, "chest", 0, 0);
        due(NONE, h, "may", 0, 0, 0);
        due(NONE, h, "lend", 0, 0, 0);
        due(0, h, "clothe", 0);
        // sewn again it is another robe, in no chest
        due(5, h, "sew", 11, PLAIN, 0);
        due(NONE, h, "robe", 5, 7);
        due(NONE, h, "robe", 0, 7);
    }

    static void promise19Row0FirstOrLastIfTurned() {
        for (int turned = 0; turned < 64; turned++) {
            RobeHouse h = new RobeHouse();
            h.measure(2, 2, 2);
            Houses.sewn(h, "01" + "01" + "01" + "01" + "01" + "01", 0, 0);
            due(1, h, "unpick", 0, REVERSED, turned);
            for (int k = 0; k < 6; k++) {
                int isTurned = turned >> 5 - k & 1;
                due(isTurned, h, "row", 1, 2 * k, 0);
                due(1 - isTurned, h, "row", 1, 2 * k + 1, 0);
            }
        }
    }

    static void promise19LeastAndGreatestRobe() {
        RobeHouse h = oneRobe(1, 1, 1, 1);
        due(1, h, "unpick", 0, PLAIN, 0);
        due(6, h, "about", 1, 0);
        h = oneRobe(30, 29, 29, 1);
        due(1, h, "unpick", 0, REVERSED, 63);
        due(120, h, "about", 1, 0);
        due(120, h, "count", 3);
        due(NONE, h, "row", 1, 120, 0);
    }

    // ---- promise 20: line

    static void promise20RobeIsNone() {
        robeIsNone("line", 0, 8);
    }

    static void promise20BoltIsNone() {
        outside(Houses.RICH, NONE, 1, 0, 10, "line", 0, 0);
        outside(Houses.ALL_BOLTS, NONE, 1, 0, 39, "line", 0, 0);
        refused(Houses.RICH, NONE, "line", 0, 0);
        refused(Houses.RICH, NONE, "line", 0, 9);
    }

    static void promise20NoneComesAheadOfState() {
        // robe 1 is lined
        refused(Houses.RICH, NONE, "line", 1, 0);
        refused(Houses.RICH, NONE, "line", 1, 11);
        // bolt 5 is shorter than any robe
        refused(Houses.RICH, NONE, "line", 3, 5);
        refused(Houses.RICH, NONE, "line", 5, 5);
    }

    static void promise20LinedOrShorter() {
        refused(Houses.RICH, STATE, "line", 1, 8);
        refused(Houses.RICH, STATE, "line", 4, 8);
        refused(Houses.RICH, STATE, "line", 0, 5);
        refused(Houses.RICH, STATE, "line", 4, 5);
    }

    static void promise20AsLongOrLonger() {
        for (int rows = 1; rows <= 120; rows++) {
            RobeHouse h = oneRobe(4, 2, 2, 4);
            Tapes.bolt(h, "1".repeat(rows), 0, 0);
            due(rows < 20 ? STATE : rows - 20, h, "line", 0, 1);
            due(rows == 20 ? NONE : rows < 20 ? rows : rows - 20, h, "about", 1, 0);
            due(rows < 20 ? 0 : 20, h, "robe", 0, 6);
            due(rows + 20, h, "count", 3);
            due(rows == 20 ? 0 : 1, h, "count", 0);
        }
    }

    static void promise20GreatestRobe() {
        RobeHouse h = oneRobe(30, 29, 29, 1);
        Tapes.bolt(h, "1".repeat(119), 0, 0);
        due(STATE, h, "line", 0, 1);
        Tapes.bolt(h, "1".repeat(120), 0, 0);
        due(0, h, "line", 0, 2);
        due(NONE, h, "about", 2, 0);
    }

    static void promise20FirstRowsGo() {
        RobeHouse h = oneRobe(1, 1, 1, 1);
        Tapes.bolt(h, "0!12345!67!", 3, 1);
        due(2, h, "line", 0, 1);
        CHECK.due("the rest", "6 7!", Tapes.rowsOf(h, 1));
        due(3, h, "about", 1, 1);
        due(1, h, "about", 1, 2);
        due(2, h, "unline", 0);
        CHECK.due("the lining", "0! 1 2 3 4 5!", Tapes.rowsOf(h, 2));
        due(3, h, "about", 2, 1);
        due(1, h, "about", 2, 2);
    }

    static void promise20NeedsNoNewNumber() {
        RobeHouse h = Houses.ALL_MADE.make();
        due(2, h, "line", 0, 8);
        due(2, h, "about", 8, 0);
        due(40, h, "count", 5);
        due(0, h, "line", 29, 10);
        due(NONE, h, "about", 10, 0);
    }

    static void promise20LiningAndRestAreApart() {
        RobeHouse h = oneRobe(1, 1, 1, 1);
        Tapes.bolt(h, "1111111", 3, 0);
        due(1, h, "line", 0, 1);
        due(1, h, "dye", 1, 9);
        due(8, h, "wash", 1);
        due(2, h, "unline", 0);
        CHECK.due("the lining", "1 1 1 1 1 1", Tapes.rowsOf(h, 2));
        due(3, h, "about", 2, 1);
    }

    static void promise20LentOnesAreNotRefused() {
        RobeHouse h = Houses.RICH.make();
        due(0, h, "line", 2, 10);
        due(1, h, "robe", 2, 5);
        due(4, h, "robe", 2, 8);
        due(11, h, "unline", 2);
    }

    // ---- promise 21: unline

    static void promise21RobeIsNone() {
        robeIsNone("unline", 0);
    }

    static void promise21NotLined() {
        refused(Houses.RICH, STATE, "unline", 0);
        refused(Houses.RICH, STATE, "unline", 2);
    }

    static void promise21NoneComesAheadOfStateAndFull() {
        refused(Houses.ALL_BOLTS, NONE, "unline", 3);
        refused(Houses.ALL_BOLTS, NONE, "unline", 5);
    }

    static void promise21StateComesAheadOfFull() {
        refused(Houses.ALL_BOLTS, STATE, "unline", 0);
        refused(Houses.ALL_MADE, STATE, "unline", 29);
    }

    static void promise21FullChangesNothing() {
        refused(Houses.ALL_BOLTS, FULL, "unline", 1);
        refused(Houses.ALL_MADE, FULL, "unline", 4);
    }

    static void promise21TheLastBoltThatCanBe() {
        RobeHouse h = oneRobe(1, 1, 1, 1);
        Tapes.bolt(h, "123456", 0, 0);
        due(0, h, "line", 0, 1);
        Houses.fillBolts(h, 39);
        due(39, h, "unline", 0);
        due(6, h, "about", 39, 0);
        due(0, h, "line", 0, 39);
        due(FULL, h, "unline", 0);
        due(6, h, "robe", 0, 6);
    }

    static void promise21TakenOutOnce() {
        RobeHouse h = Houses.RICH.make();
        due(11, h, "unline", 1);
        due(STATE, h, "unline", 1);
        due(0, h, "robe", 1, 5);
        due(0, h, "robe", 1, 6);
        CHECK.due("the lining", "0! 1! 2 3 4 5 6 7 8 9", Tapes.rowsOf(h, 11));
        due(2, h, "about", 11, 1);
        due(1, h, "about", 11, 2);
    }

    static void promise21NewNumberAlsoForAWholeBolt() {
        RobeHouse h = Houses.RICH.make();
        // bolt 9 was used up by robe 4
        due(11, h, "unline", 4);
        due(NONE, h, "about", 9, 0);
        due(8, h, "about", 11, 0);
    }
}

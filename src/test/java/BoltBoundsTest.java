/** The boundary cases of promises 1 to 7, each by a test named by its promise. */
public final class BoltBoundsTest {
    private static final int NONE = -1, BAD = -2, STATE = -3, FULL = -4;
    private static final int PLAIN = Houses.PLAIN;
    private static final Check CHECK = new Check();

    public static void main(String[] args) {
        Suite.run(BoltBoundsTest.class, CHECK, 1, 7);
    }

    private static void due(int want, RobeHouse h, String name, long... args) {
        CHECK.call(want, h, name, args);
    }

    private static void refused(Houses kind, int want, String name, long... args) {
        Twins.refused(CHECK, kind, want, name, args);
    }

    private static void outside(Houses kind, int want, int k, int least, int most, String name, long... args) {
        Edges.refused(CHECK, kind, want, k, least, most, new Calls.Call(name, args));
    }

    // ---- promise 1: a new object

    static void promise01NothingIsCounted() {
        RobeHouse h = new RobeHouse();
        for (int what = 0; what < 6; what++) {
            due(0, h, "count", what);
        }
    }

    static void promise01NoBoltAndNoRobeIsThere() {
        RobeHouse h = new RobeHouse();
        for (int bolt = -1; bolt <= 40; bolt++) {
            due(NONE, h, "about", bolt, 0);
            due(NONE, h, "row", bolt, 0, 0);
        }
        for (int robe = -1; robe <= 30; robe++) {
            due(NONE, h, "robe", robe, 0);
            due(NONE, h, "piece", robe, 0, 0, 0);
        }
    }

    static void promise01EveryCallOnNothingIsRefused() {
        refused(Houses.NEW, NONE, "wash", 0);
        refused(Houses.NEW, NONE, "dye", 0, 5);
        refused(Houses.NEW, NONE, "sleeves", 0);
        refused(Houses.NEW, NONE, "ugly", 0, PLAIN, 0);
        refused(Houses.NEW, NONE, "best", 0);
        refused(Houses.NEW, NONE, "sew", 0, PLAIN, 0);
        refused(Houses.NEW, NONE, "miss", 0, 0);
        refused(Houses.NEW, NONE, "wear", 0);
        refused(Houses.NEW, NONE, "unpick", 0, PLAIN, 0);
        refused(Houses.NEW, NONE, "line", 0, 0);
        refused(Houses.NEW, NONE, "unline", 0);
        refused(Houses.NEW, -5, "chest", 0, 0);
        refused(Houses.NEW, NONE, "may", 0, 0, 0);
        refused(Houses.NEW, NONE, "lend", 0, 0, 0);
        refused(Houses.NEW, NONE, "back", 0, 0);
    }

    static void promise01TapeIsEmpty() {
        due(-10, new RobeHouse(), "bolt", 0, 0);
        due(-10, new RobeHouse(), "rules", 0);
        due(1, new RobeHouse(), "feed", '1', 1);
    }

    static void promise01PeopleAreNotTold() {
        RobeHouse h = new RobeHouse();
        for (int season = 0; season < 4; season++) {
            due(0, h, "clothe", season);
        }
        for (int person = 0; person < 10; person++) {
            due(NONE, h, "gets", person);
            due(1, h, "person", person, 0, 0);
        }
    }

    static void promise01NoLayingWasFound() {
        RobeHouse h = new RobeHouse();
        due(NONE, h, "laid", 0);
        due(NONE, h, "laid", 1);
    }

    static void promise01ObjectsShareNothing() {
        RobeHouse h = Houses.RICH.make();
        RobeHouse other = new RobeHouse();
        due(0, other, "count", 4);
        due(0, other, "count", 5);
        due(1, other, "person", 0, 20, 4);
        other.bolt(0, 0);
        other.measure(30, 30, 30);
        due(3, h, "count", 4);
        due(2, h, "sleeves", 8);
    }

    // ---- promise 2: feed

    static void promise02NIsBad() {
        outside(Houses.NEW, BAD, 1, 1, 8, "feed", 0x3131313131313131L, 0);
        outside(Houses.RICH, BAD, 1, 1, 8, "feed", 0x3131313131313131L, 0);
    }

    static void promise02BadComesAheadOfFull() {
        outside(Houses.FULL_TAPE, BAD, 1, 1, 8, "feed", 0x31, 0);
    }

    static void promise02NFrom1To8() {
        for (int n = 1; n <= 8; n++) {
            RobeHouse h = new RobeHouse();
            due(n, h, "feed", 0x3132333435363738L, n);
            due(n, h, "count", 4);
            due(0, h, "bolt", 0, 0);
            CHECK.due("the lowest " + n, "1 2 3 4 5 6 7 8".substring(16 - 2 * n), Tapes.rowsOf(h, 0));
        }
    }

    static void promise02HigherBytesDoNotMatter() {
        RobeHouse h = new RobeHouse();
        due(1, h, "feed", Long.MIN_VALUE | '4', 1);
        due(2, h, "feed", Long.MAX_VALUE & ~255L | '5', 1);
        due(3, h, "feed", -256L | '6', 1);
        due(0, h, "bolt", 0, 0);
        CHECK.due("its rows", "4 5 6", Tapes.rowsOf(h, 0));
    }

    static void promise02LeastAndGreatestWords() {
        for (long w : new long[] {Long.MIN_VALUE, Long.MAX_VALUE, -1L, 0L}) {
            RobeHouse h = new RobeHouse();
            due(8, h, "feed", w, 8);
            due(-10, h, "bolt", 0, 0);
        }
    }

    static void promise02TapeTakes130Bytes() {
        for (int n = 1; n <= 8; n++) {
            RobeHouse h = new RobeHouse();
            Tapes.feed(h, "1".repeat(130 - n));
            due(130, h, "feed", 0x3232323232323232L, n);
            due(130, h, "count", 4);
            for (int more = 1; more <= 8; more++) {
                due(FULL, h, "feed", 0x3232323232323232L, more);
            }
            due(130, h, "count", 4);
        }
    }

    static void promise02OneByteTooManyIsFull() {
        for (int n = 2; n <= 8; n++) {
            RobeHouse h = new RobeHouse();
            Tapes.feed(h, "1".repeat(110) + "1!".repeat(4));
            Tapes.feed(h, "x".repeat(13 - n));
            due(131 - n, h, "count", 4);
            due(FULL, h, "feed", 0x3232323232323232L, n);
            due(131 - n, h, "count", 4);
            due(130, h, "feed", 0x3232323232323232L, n - 1);
        }
    }

    static void promise02FullChangesNothing() {
        for (int n = 1; n <= 8; n++) {
            refused(Houses.FULL_TAPE, FULL, "feed", 0x3232323232323232L, n);
        }
    }

    static void promise02ReadTapeIsFedFromNothingAgain() {
        RobeHouse h = new RobeHouse();
        Tapes.feed(h, "1".repeat(130));
        due(-130, h, "bolt", 0, 0);
        due(8, h, "feed", 0x3131313131313131L, 8);
        due(-10, h, "rules", 0);
        due(1, h, "feed", 0x31, 1);
    }

    // ---- promise 3: bolt

    static void promise03ColourIsBad() {
        outside(Houses.RICH, BAD, 0, 0, 9, "bolt", 0, 0);
        outside(Houses.NEW, BAD, 0, 0, 9, "bolt", 0, 1);
    }

    static void promise03OneWayIsBad() {
        outside(Houses.RICH, BAD, 1, 0, 1, "bolt", 9, 0);
    }

    static void promise03BadComesAheadOfFull() {
        outside(Houses.ALL_BOLTS, BAD, 0, 0, 9, "bolt", 0, 0);
        outside(Houses.ALL_BOLTS, BAD, 1, 0, 1, "bolt", 0, 0);
    }

    static void promise03BadComesAheadOfFaults() {
        RobeHouse h = new RobeHouse();
        Tapes.feed(h, "1x");
        due(BAD, h, "bolt", 10, 0);
        due(BAD, h, "bolt", 0, 2);
        due(2, h, "count", 4);
        due(-11, h, "bolt", 0, 0);
    }

    static void promise03ColoursAndWaysThatCanBe() {
        RobeHouse h = new RobeHouse();
        for (int k = 0; k < 20; k++) {
            Tapes.feed(h, "1");
            due(k, h, "bolt", k / 2, k % 2);
            due(k / 2, h, "about", k, 1);
            due(k % 2, h, "about", k, 2);
        }
    }

    static void promise03EmptyTapeEndsTooEarly() {
        RobeHouse h = new RobeHouse();
        due(-10, h, "bolt", 0, 0);
        due(0, h, "count", 5);
        due(0, h, "count", 0);
    }

    static void promise03FromOneRowTo120() {
        for (int rows = 1; rows <= 120; rows++) {
            RobeHouse h = new RobeHouse();
            Tapes.feed(h, "3".repeat(rows));
            due(0, h, "bolt", 0, 0);
            due(rows, h, "about", 0, 0);
            due(rows, h, "count", 3);
        }
    }

    static void promise03Row121IsTheFault() {
        for (int rows = 121; rows <= 130; rows++) {
            RobeHouse h = new RobeHouse();
            Tapes.feed(h, "3".repeat(rows));
            due(-10 - 120, h, "bolt", 0, 0);
            due(0, h, "count", 5);
        }
        for (int flaws = 1; flaws <= 9; flaws++) {
            RobeHouse h = new RobeHouse();
            Tapes.feed(h, "3!".repeat(flaws) + "3".repeat(121 - flaws));
            due(-10 - 120 - flaws, h, "bolt", 0, 0);
        }
    }

    static void promise03AllBytesAndAllRows() {
        RobeHouse h = new RobeHouse();
        Tapes.feed(h, "3".repeat(110) + "4!".repeat(10));
        due(130, h, "count", 4);
        due(0, h, "bolt", 0, 0);
        due(120, h, "about", 0, 0);
        for (int row = 109; row < 120; row++) {
            due(row < 110 ? 0 : 1, h, "row", 0, row, 1);
        }
        Tapes.feed(h, "5!".repeat(65));
        due(1, h, "bolt", 0, 0);
        due(65, h, "about", 1, 0);
        due(1, h, "row", 1, 64, 1);
    }

    static void promise03FlawsBeforeAndBehindTheLastRow() {
        RobeHouse h = new RobeHouse();
        Tapes.feed(h, "3".repeat(120) + "!");
        due(0, h, "bolt", 0, 0);
        due(0, h, "row", 0, 118, 1);
        due(1, h, "row", 0, 119, 1);
        Tapes.feed(h, "3".repeat(120) + "!!");
        due(-10 - 121, h, "bolt", 0, 0);
    }

    static void promise03EachByteAtTheFirstPlace() {
        for (int b = 0; b < 256; b++) {
            RobeHouse h = new RobeHouse();
            h.feed(b, 1);
            due(b >= '0' && b <= '9' ? 0 : -10, h, "bolt", 0, 0);
            due(b >= '0' && b <= '9' ? b - '0' : NONE, h, "row", 0, 0, 0);
        }
    }

    static void promise03EachByteBehindARow() {
        for (int b = 0; b < 256; b++) {
            RobeHouse h = new RobeHouse();
            h.feed('7' << 8 | b, 2);
            boolean digit = b >= '0' && b <= '9';
            due(digit || b == '!' ? 0 : -11, h, "bolt", 0, 0);
            due(digit ? 2 : b == '!' ? 1 : NONE, h, "about", 0, 0);
        }
    }

    static void promise03EachByteBehindAFlaw() {
        for (int b = 0; b < 256; b++) {
            RobeHouse h = new RobeHouse();
            h.feed('7' << 16 | '!' << 8 | b, 3);
            boolean digit = b >= '0' && b <= '9';
            due(digit ? 0 : -12, h, "bolt", 0, 0);
            due(digit ? 2 : NONE, h, "about", 0, 0);
        }
    }

    static void promise03FaultAtEachPlace() {
        String rows = "5!".repeat(10) + "5".repeat(110);
        for (int place = 0; place < 130; place++) {
            RobeHouse h = new RobeHouse();
            Tapes.feed(h, rows.substring(0, place) + "x");
            due(-10 - place, h, "bolt", 0, 0);
            due(0, h, "count", 4);
            due(0, h, "count", 5);
        }
    }

    static void promise03FirstOfSeveralFaults() {
        RobeHouse h = new RobeHouse();
        Tapes.feed(h, "12x!!y");
        due(-12, h, "bolt", 0, 0);
    }

    static void promise03FortyBoltsInAll() {
        RobeHouse h = new RobeHouse();
        for (int bolt = 0; bolt < 40; bolt++) {
            Tapes.feed(h, "12");
            due(bolt, h, "bolt", 0, 0);
        }
        Tapes.feed(h, "12");
        due(FULL, h, "bolt", 0, 0);
        due(40, h, "count", 0);
        due(40, h, "count", 5);
        due(2, h, "about", 39, 0);
        due(NONE, h, "about", 40, 0);
    }

    static void promise03FullLeavesTheTape() {
        refused(Houses.ALL_BOLTS, FULL, "bolt", 0, 0);
        refused(Houses.ALL_MADE, FULL, "bolt", 9, 1);
    }

    static void promise03FullComesAheadOfFaults() {
        for (String text : new String[] {"", "x", "1!!", "5".repeat(130)}) {
            RobeHouse h = new RobeHouse();
            for (int bolt = 0; bolt < 40; bolt++) {
                Tapes.bolt(h, "1", 0, 0);
            }
            Tapes.feed(h, text);
            due(FULL, h, "bolt", 0, 0);
            due(text.length(), h, "count", 4);
        }
    }

    static void promise03UsedUpBoltsCountInAll() {
        RobeHouse h = new RobeHouse();
        h.measure(1, 1, 1);
        for (int bolt = 0; bolt < 20; bolt++) {
            due(bolt, h, "sew", Tapes.bolt(h, "123456", 0, 0), PLAIN, 0);
        }
        for (int robe = 0; robe < 19; robe++) {
            due(20 + robe, h, "unpick", robe, PLAIN, 0);
        }
        Tapes.feed(h, "1");
        due(39, h, "bolt", 0, 0);
        Tapes.feed(h, "1");
        due(FULL, h, "bolt", 0, 0);
        due(20, h, "count", 0);
        due(40, h, "count", 5);
    }

    static void promise03FaultsTakeNoNumber() {
        RobeHouse h = new RobeHouse();
        due(-10, h, "bolt", 0, 0);
        Tapes.feed(h, "1x");
        due(-11, h, "bolt", 0, 0);
        Tapes.feed(h, "1");
        due(0, h, "bolt", 0, 0);
    }

    // ---- promise 4: about

    static void promise04WhatIsNone() {
        outside(Houses.RICH, NONE, 1, 0, 2, "about", 8, 0);
    }

    static void promise04BoltIsNone() {
        outside(Houses.RICH, NONE, 0, 0, 10, "about", 0, 0);
        outside(Houses.ALL_BOLTS, NONE, 0, 0, 39, "about", 0, 1);
    }

    static void promise04EachWhat() {
        RobeHouse h = Houses.RICH.make();
        due(10, h, "about", 6, 0);
        due(4, h, "about", 6, 1);
        due(1, h, "about", 6, 2);
    }

    static void promise04FirstAndLastBolt() {
        RobeHouse h = new RobeHouse();
        Tapes.bolt(h, "1234567", 8, 1);
        due(7, h, "about", 0, 0);
        for (int bolt = 1; bolt < 40; bolt++) {
            due(NONE, h, "about", bolt, 0);
            Tapes.bolt(h, "12", 9, 0);
            due(2, h, "about", bolt, 0);
        }
        due(9, h, "about", 39, 1);
        due(8, h, "about", 0, 1);
    }

    static void promise04SewnBoltIsUsedUp() {
        for (int what = 0; what < 3; what++) {
            refused(Houses.RICH, NONE, "about", 0, what);
        }
    }

    static void promise04BoltOfALiningIsUsedUp() {
        for (int what = 0; what < 3; what++) {
            refused(Houses.RICH, NONE, "about", 9, what);
        }
        RobeHouse h = Houses.RICH.make();
        due(2, h, "about", 5, 0);
        due(2, h, "about", 5, 1);
        due(1, h, "about", 5, 2);
    }

    // ---- promise 5: row

    static void promise05WhatIsNone() {
        outside(Houses.RICH, NONE, 2, 0, 2, "row", 8, 0, 0);
    }

    static void promise05RowIsNone() {
        outside(Houses.RICH, NONE, 1, 0, 9, "row", 8, 0, 0);
        outside(Houses.RICH, NONE, 1, 0, 1, "row", 5, 0, 0);
    }

    static void promise05BoltIsNone() {
        outside(Houses.RICH, NONE, 0, 0, 10, "row", 0, 0, 0);
        outside(Houses.ALL_BOLTS, NONE, 0, 0, 39, "row", 0, 0, 0);
        refused(Houses.RICH, NONE, "row", 0, 0, 0);
        refused(Houses.RICH, NONE, "row", 9, 0, 0);
    }

    static void promise05FirstAndLastRow() {
        for (int rows : new int[] {1, 2, 119, 120}) {
            RobeHouse h = new RobeHouse();
            Tapes.bolt(h, "0123456789".repeat(12).substring(0, rows), 0, 0);
            due(0, h, "row", 0, 0, 0);
            due((rows - 1) % 10, h, "row", 0, rows - 1, 0);
            due(NONE, h, "row", 0, rows, 0);
            due(NONE, h, "row", 0, -1, 0);
        }
    }

    static void promise05PatternsFrom0To9() {
        RobeHouse h = new RobeHouse();
        Tapes.bolt(h, "0!123456789!", 0, 0);
        for (int row = 0; row < 10; row++) {
            due(row, h, "row", 0, row, 0);
            due(row % 9 == 0 ? 1 : 0, h, "row", 0, row, 1);
            due(0, h, "row", 0, row, 2);
        }
    }

    static void promise05WornFrom0To9() {
        for (int times = 0; times <= 12; times++) {
            RobeHouse h = new RobeHouse();
            h.measure(1, 1, 1);
            Houses.sewn(h, "9!9!9!9!9!9!", 0, 0);
            for (int k = 0; k < times; k++) {
                h.wear(0);
            }
            due(1, h, "unpick", 0, PLAIN, 0);
            for (int row = 0; row < 6; row++) {
                // the front is at place 4
                due(row == 4 ? 0 : Math.min(times, 9), h, "row", 1, row, 2);
                due(9, h, "row", 1, row, 0);
                due(1, h, "row", 1, row, 1);
            }
        }
    }

    static void promise05RowsOfTheRestOfALining() {
        RobeHouse h = new RobeHouse();
        h.measure(1, 1, 1);
        Houses.sewn(h, "000000", 0, 0);
        Tapes.bolt(h, "1234567!", 0, 0);
        due(1, h, "line", 0, 1);
        due(7, h, "row", 1, 0, 0);
        due(1, h, "row", 1, 0, 1);
        due(NONE, h, "row", 1, 1, 0);
    }

    // ---- promise 6: wash

    static void promise06BoltIsNone() {
        outside(Houses.RICH, NONE, 0, 0, 10, "wash", 0);
        outside(Houses.ALL_BOLTS, NONE, 0, 0, 39, "wash", 0);
        refused(Houses.RICH, NONE, "wash", 0);
        refused(Houses.RICH, NONE, "wash", 9);
    }

    static void promise06ColourIs0AtLeast() {
        for (int colour = 0; colour <= 9; colour++) {
            RobeHouse h = new RobeHouse();
            Tapes.bolt(h, "19!", colour, 0);
            for (int times = 1; times <= 11; times++) {
                due(Math.max(0, colour - times), h, "wash", 0);
                due(Math.max(0, colour - times), h, "about", 0, 1);
            }
            CHECK.due("its rows", "1 9!", Tapes.rowsOf(h, 0));
        }
    }

    static void promise06FlawsPatternsAndWornStay() {
        RobeHouse h = Houses.RICH.make();
        String before = Tapes.rowsOf(h, 10);
        CHECK.yes("some are worn", before.contains("(3)"));
        due(6, h, "wash", 10);
        CHECK.due("its rows", before, Tapes.rowsOf(h, 10));
        due(6, h, "about", 10, 1);
        due(0, h, "about", 10, 2);
    }

    static void promise06OtherBoltsStay() {
        RobeHouse h = new RobeHouse();
        Tapes.bolt(h, "1", 5, 0);
        Tapes.bolt(h, "1", 5, 1);
        due(4, h, "wash", 1);
        due(5, h, "about", 0, 1);
        due(1, h, "about", 1, 2);
    }

    // ---- promise 7: dye

    static void promise07BoltIsNone() {
        outside(Houses.RICH, NONE, 0, 0, 10, "dye", 0, 9);
        outside(Houses.ALL_BOLTS, NONE, 0, 0, 39, "dye", 0, 9);
        refused(Houses.RICH, NONE, "dye", 0, 9);
        refused(Houses.RICH, NONE, "dye", 9, 9);
    }

    static void promise07NoneComesAheadOfBad() {
        outside(Houses.RICH, NONE, 1, 0, 9, "dye", 0, 0);
        outside(Houses.RICH, NONE, 1, 0, 9, "dye", 11, 0);
    }

    static void promise07ColourIsBad() {
        outside(Houses.RICH, BAD, 1, 0, 9, "dye", 8, 0);
        // of a bolt of colour 9 no colour could be greater: BAD is told first
        outside(Houses.RICH, BAD, 1, 0, 9, "dye", 7, 0);
    }

    static void promise07NotGreaterThanItsColour() {
        for (int colour = 0; colour <= 9; colour++) {
            refused(Houses.RICH, STATE, "dye", 7, colour);
            if (colour <= 4) {
                refused(Houses.RICH, STATE, "dye", 6, colour);
            }
        }
        refused(Houses.RICH, STATE, "dye", 8, 0);
    }

    static void promise07EachColourToEachGreaterOne() {
        for (int from = 0; from <= 9; from++) {
            for (int to = 0; to <= 9; to++) {
                RobeHouse h = new RobeHouse();
                Tapes.bolt(h, "01234567890123456789", from, 0);
                // of two of each pattern those below become it
                due(to > from ? 2 * to : STATE, h, "dye", 0, to);
                due(Math.max(from, to), h, "about", 0, 1);
                for (int row = 0; row < 20; row++) {
                    due(to > from ? Math.max(row % 10, to) : row % 10, h, "row", 0, row, 0);
                }
            }
        }
    }

    static void promise07NoneAndAllRowsBecomeIt() {
        RobeHouse h = new RobeHouse();
        Tapes.bolt(h, "9".repeat(120), 0, 0);
        due(0, h, "dye", 0, 9);
        Tapes.bolt(h, "0".repeat(120), 0, 0);
        due(120, h, "dye", 1, 1);
        due(120, h, "dye", 1, 9);
        due(9, h, "row", 1, 119, 0);
    }

    static void promise07FlawsAndWornStay() {
        RobeHouse h = new RobeHouse();
        h.measure(1, 1, 1);
        Houses.sewn(h, "0!1!2!3!4!5!", 0, 0);
        h.wear(0);
        due(1, h, "unpick", 0, PLAIN, 0);
        due(6, h, "dye", 1, 8);
        CHECK.due("its rows", "8!(1) 8!(1) 8!(1) 8!(1) 8! 8!(1)", Tapes.rowsOf(h, 1));
    }

    static void promise07WashedItCanBeDyedAgain() {
        RobeHouse h = new RobeHouse();
        Tapes.bolt(h, "089", 9, 0);
        due(STATE, h, "dye", 0, 9);
        due(8, h, "wash", 0);
        due(STATE, h, "dye", 0, 8);
        due(2, h, "dye", 0, 9);
    }
}

/** Each promise of the document by answers worked out by hand. */
public final class PromisesTest {
    private static final int NONE = -1, BAD = -2, STATE = -3, FULL = -4;
    /** Pieces 0 .. 5 in their order. */
    private static final int PLAIN = 1865;
    /** Pieces 5, 4, 3, 2, 1, 0. */
    private static final int REVERSED = 44790;
    private static final Check CHECK = new Check();

    public static void main(String[] args) {
        newObject();
        feed();
        bolt();
        aboutAndRow();
        wash();
        dye();
        measureAndSleeves();
        set();
        uglyOfSeams();
        uglyOfShown();
        uglyRefusals();
        best();
        laid();
        sew();
        robe();
        piece();
        miss();
        wear();
        unpick();
        line();
        unline();
        rules();
        rulesFaults();
        chest();
        person();
        may();
        lend();
        back();
        clothe();
        gets();
        count();
        fullHouse();
        CHECK.end("PromisesTest");
    }

    private static void due(String call, long want, long got) {
        CHECK.due(call, want, got);
    }

    private static void newObject() {
        CHECK.about("promise 1");
        RobeHouse h = new RobeHouse();
        for (int what = 0; what <= 5; what++) {
            due("count(" + what + ")", 0, h.count(what));
        }
        due("about(0, 0)", NONE, h.about(0, 0));
        due("robe(0, 0)", NONE, h.robe(0, 0));
        due("laid(0)", NONE, h.laid(0));
        due("laid(1)", NONE, h.laid(1));
        for (int person = 0; person < 10; person++) {
            due("gets(" + person + ")", NONE, h.gets(person));
        }
        for (int person = 0; person < 10; person++) {
            due("person(" + person + ", 0, 0)", 1, h.person(person, 0, 0));
        }
        due("set(0, 0)", 0, h.set(0, 0));
        due("set(1, 2)", 2, h.set(1, 2));
    }

    private static void feed() {
        CHECK.about("promise 2");
        RobeHouse h = new RobeHouse();
        due("feed(0, 0)", BAD, h.feed(0, 0));
        due("feed(0, 9)", BAD, h.feed(0, 9));
        due("feed(0, -1)", BAD, h.feed(0, -1));
        // the lowest 3 of the bytes, the highest of these first
        due("feed(.., 3)", 3, h.feed(0x7777_7777_7731_3233L, 3));
        due("bolt(0, 0)", 0, h.bolt(0, 0));
        CHECK.due("its rows", "1 2 3", Tapes.rowsOf(h, 0));
        // bytes from 128 on are no digits, also if w is below 0
        due("feed(-1, 8)", 8, h.feed(-1L, 8));
        due("bolt(0, 0)", -10, h.bolt(0, 0));
        for (int k = 1; k <= 16; k++) {
            due("feed(.., 8)", 8 * k, h.feed(0x3030303030303030L, 8));
        }
        due("feed(.., 3) beyond 130", FULL, h.feed(0x303030L, 3));
        due("feed(.., 9) beyond 130", BAD, h.feed(0x303030L, 9));
        due("count(4)", 128, h.count(4));
        due("feed(.., 2) up to 130", 130, h.feed(0x3030L, 2));
        due("feed(.., 1) beyond 130", FULL, h.feed(0x30L, 1));
        due("count(4)", 130, h.count(4));
    }

    private static void bolt() {
        CHECK.about("promise 3");
        RobeHouse h = new RobeHouse();
        due("bolt of nothing", -10, h.bolt(0, 0));
        due("bolt \"!1\"", -10, Tapes.bolt(h, "!1", 0, 0));
        due("bolt \"12!!3\"", -13, Tapes.bolt(h, "12!!3", 0, 0));
        due("bolt \"12 3\"", -12, Tapes.bolt(h, "12 3", 0, 0));
        due("bolt \"12:\"", -12, Tapes.bolt(h, "12:", 0, 0));
        due("bolt \"12/\"", -12, Tapes.bolt(h, "12/", 0, 0));
        due("count(5)", 0, h.count(5));
        Tapes.feed(h, "9!0!1");
        due("bolt(-1, 0)", BAD, h.bolt(-1, 0));
        due("bolt(10, 0)", BAD, h.bolt(10, 0));
        due("bolt(0, -1)", BAD, h.bolt(0, -1));
        due("bolt(0, 2)", BAD, h.bolt(0, 2));
        due("count(4), the tape stays", 5, h.count(4));
        due("bolt(9, 1)", 0, h.bolt(9, 1));
        due("count(4), the tape is empty", 0, h.count(4));
        CHECK.due("its rows", "9! 0! 1", Tapes.rowsOf(h, 0));
        String rows = "0123456789".repeat(12);
        due("bolt of 120 rows, the last flawed", 1, Tapes.bolt(h, rows + "!", 0, 0));
        due("about(1, 0)", 120, h.about(1, 0));
        due("row(1, 119, 1)", 1, h.row(1, 119, 1));
        due("bolt of 121 rows", -130, Tapes.bolt(h, rows + "0", 0, 0));
        due("bolt of 121 rows with flaws", -131, Tapes.bolt(h, "0!" + rows, 0, 0));
        for (int k = 2; k < 40; k++) {
            due("bolt " + k, k, Tapes.bolt(h, "5", 0, 0));
        }
        Tapes.feed(h, "x");
        due("bolt(10, 0)", BAD, h.bolt(10, 0));
        due("a 41st bolt", FULL, h.bolt(0, 0));
        due("count(4), the tape stays", 1, h.count(4));
    }

    private static void aboutAndRow() {
        CHECK.about("promises 4, 5");
        RobeHouse h = new RobeHouse();
        Tapes.bolt(h, "12!3", 7, 1);
        due("about(0, 0)", 3, h.about(0, 0));
        due("about(0, 1)", 7, h.about(0, 1));
        due("about(0, 2)", 1, h.about(0, 2));
        due("about(0, 3)", NONE, h.about(0, 3));
        due("about(0, -1)", NONE, h.about(0, -1));
        due("about(1, 0)", NONE, h.about(1, 0));
        due("about(-1, 0)", NONE, h.about(-1, 0));
        due("about(40, 0)", NONE, h.about(40, 0));
        due("row(0, 1, 0)", 2, h.row(0, 1, 0));
        due("row(0, 1, 1)", 1, h.row(0, 1, 1));
        due("row(0, 2, 1)", 0, h.row(0, 2, 1));
        due("row(0, 1, 2)", 0, h.row(0, 1, 2));
        due("row(0, 1, 3)", NONE, h.row(0, 1, 3));
        due("row(0, 1, -1)", NONE, h.row(0, 1, -1));
        due("row(0, 3, 0)", NONE, h.row(0, 3, 0));
        due("row(0, -1, 0)", NONE, h.row(0, -1, 0));
        due("row(1, 0, 0)", NONE, h.row(1, 0, 0));
        due("row(-1, 0, 0)", NONE, h.row(-1, 0, 0));
        Tapes.bolt(h, "012345678901234", 3, 0);
        due("about(1, 2)", 0, h.about(1, 2));
        h.measure(4, 2, 3);
        due("sew(1, ..)", 0, h.sew(1, PLAIN, 0));
        due("about(1, 0), used up", NONE, h.about(1, 0));
        due("row(1, 0, 0), used up", NONE, h.row(1, 0, 0));
    }

    private static void wash() {
        CHECK.about("promise 6");
        RobeHouse h = new RobeHouse();
        Tapes.bolt(h, "12!3", 2, 0);
        due("wash(0)", 1, h.wash(0));
        due("wash(0)", 0, h.wash(0));
        due("wash(0)", 0, h.wash(0));
        due("about(0, 1)", 0, h.about(0, 1));
        CHECK.due("its rows", "1 2! 3", Tapes.rowsOf(h, 0));
        due("wash(1)", NONE, h.wash(1));
        due("wash(-1)", NONE, h.wash(-1));
    }

    private static void dye() {
        CHECK.about("promise 7");
        RobeHouse h = new RobeHouse();
        Tapes.bolt(h, "3!01589", 2, 0);
        due("dye(1, 5)", NONE, h.dye(1, 5));
        due("dye(0, 10)", BAD, h.dye(0, 10));
        due("dye(0, -1)", BAD, h.dye(0, -1));
        due("dye(0, 2)", STATE, h.dye(0, 2));
        due("dye(0, 0)", STATE, h.dye(0, 0));
        due("dye(0, 5)", 3, h.dye(0, 5));
        due("about(0, 1)", 5, h.about(0, 1));
        CHECK.due("its rows", "5! 5 5 5 8 9", Tapes.rowsOf(h, 0));
        due("dye(0, 5)", STATE, h.dye(0, 5));
        h.wash(0);
        due("dye(0, 5), washed", 0, h.dye(0, 5));
        due("dye(0, 9)", 5, h.dye(0, 9));
        CHECK.due("its rows", "9! 9 9 9 9 9", Tapes.rowsOf(h, 0));
    }

    private static void measureAndSleeves() {
        CHECK.about("promises 8, 10");
        RobeHouse h = new RobeHouse();
        for (int rows = 1; rows <= 20; rows++) {
            Tapes.bolt(h, "1".repeat(rows), 0, 0);
        }
        // by 4, 2, 2 twice 4, 2 and 2 are 12
        due("sleeves of 12 rows", STATE, h.sleeves(11));
        due("sleeves of 13 rows", STATE, h.sleeves(12));
        due("sleeves of 14 rows", 1, h.sleeves(13));
        due("sleeves of 15 rows", STATE, h.sleeves(14));
        due("sleeves of 20 rows", 4, h.sleeves(19));
        due("sleeves(20)", NONE, h.sleeves(20));
        due("sleeves(-1)", NONE, h.sleeves(-1));
        due("measure(0, 1, 1)", BAD, h.measure(0, 1, 1));
        due("measure(31, 1, 1)", BAD, h.measure(31, 1, 1));
        due("measure(1, 0, 1)", BAD, h.measure(1, 0, 1));
        due("measure(1, 31, 1)", BAD, h.measure(1, 31, 1));
        due("measure(1, 1, 0)", BAD, h.measure(1, 1, 0));
        due("measure(1, 1, 31)", BAD, h.measure(1, 1, 31));
        due("sleeves of 20 rows", 4, h.sleeves(19));
        due("measure(5, 3, 1)", 0, h.measure(5, 3, 1));
        due("sleeves of 20 rows", 3, h.sleeves(19));
        due("measure(30, 30, 30)", 0, h.measure(30, 30, 30));
        due("sleeves of 20 rows", STATE, h.sleeves(19));
        Tapes.bolt(h, "1".repeat(120), 0, 0);
        due("sleeves of 120 rows, none is left", STATE, h.sleeves(20));
        due("measure(30, 30, 28)", 0, h.measure(30, 30, 28));
        due("sleeves of 120 rows", 1, h.sleeves(20));
        due("measure(1, 1, 1)", 0, h.measure(1, 1, 1));
        due("sleeves of 20 rows", 8, h.sleeves(19));
        due("sleeves of 2 rows", STATE, h.sleeves(1));
    }

    private static void set() {
        CHECK.about("promise 9");
        RobeHouse h = new RobeHouse();
        due("set(0, 9)", 0, h.set(0, 9));
        due("set(1, 0)", 2, h.set(1, 0));
        due("set(0, 10)", BAD, h.set(0, 10));
        due("set(1, 10)", BAD, h.set(1, 10));
        due("set(0, -1)", BAD, h.set(0, -1));
        due("set(2, 0)", NONE, h.set(2, 0));
        due("set(-1, 10)", NONE, h.set(-1, 10));
        due("set(0, 0)", 9, h.set(0, 0));
        due("set(1, 9)", 0, h.set(1, 9));
        due("set(1, 9)", 9, h.set(1, 9));
    }

    /** Bodies of 5, sleeves of 1, front of 3, collar of 2. */
    private static void uglyOfSeams() {
        CHECK.about("promise 11");
        RobeHouse h = new RobeHouse();
        h.measure(5, 3, 2);
        // bodies 01234 and 01239, sleeves 0 and 7, front 431, collar 42
        due("bolt", 0, Tapes.bolt(h, "01234" + "01239" + "0" + "7" + "431" + "42", 0, 0));
        // A 4-9; B none; C 7-0; D 4-4, 3-3, 1-2; E 4-4, 2-3
        due("ugly(0, PLAIN, 0)", 1 + 0 + 1 + 1 + 1, h.ugly(0, PLAIN, 0));
        h.set(0, 1);
        // only A (4 and 9 by 5) and C (7 and 0 by 3) are unlike by more than 1
        due("ugly(0, PLAIN, 0), THREADS 1", 2, h.ugly(0, PLAIN, 0));
        h.set(0, 3);
        due("ugly(0, PLAIN, 0), THREADS 3", 1, h.ugly(0, PLAIN, 0));
        h.set(0, 4);
        due("ugly(0, PLAIN, 0), THREADS 4", 1, h.ugly(0, PLAIN, 0));
        h.set(0, 5);
        due("ugly(0, PLAIN, 0), THREADS 5", 0, h.ugly(0, PLAIN, 0));
        h.set(0, 0);
        // body 1 turned is 93210: A 0-9, 1-3, 2-2, 3-1, 4-0; C 7-9
        due("ugly(0, PLAIN, 2)", 4 + 0 + 1 + 1 + 1, h.ugly(0, PLAIN, 2));
        // front turned is 134: D 1-4, 3-3, 4-2; E 4-1, 2-3
        due("ugly(0, PLAIN, 16)", 1 + 0 + 1 + 2 + 2, h.ugly(0, PLAIN, 16));
        // body 0 turned is 43210: A 4-0, 3-1, 1-3, 0-9; B 0-4; D 4-0, 3-1, 1-2
        due("ugly(0, PLAIN, 1)", 4 + 1 + 1 + 3 + 1, h.ugly(0, PLAIN, 1));
        // the same robe from another bolt: collar, front, sleeves, bodies, all turned
        due("bolt", 1, Tapes.bolt(h, "24" + "134" + "7" + "0" + "93210" + "43210", 0, 1));
        due("ugly(1, REVERSED, 63)", 4, h.ugly(1, REVERSED, 63));
        h.set(0, 1);
        due("9 and 0 are unlike by 1", 0, Tapes.bolt(h, "99999" + "0000000000" + "99", 0, 0) - 2);
        // A 5 rows by 1, all others are like or by 1
        due("ugly(2, PLAIN, 0), THREADS 1", 0, h.ugly(2, PLAIN, 0));
        h.set(0, 0);
        // A 5; B 1 row; C like; D 3 rows; E 2 rows
        due("ugly(2, PLAIN, 0), THREADS 0", 5 + 1 + 0 + 3 + 2, h.ugly(2, PLAIN, 0));
        lengthsOfSeams();
    }

    private static void lengthsOfSeams() {
        RobeHouse h = new RobeHouse();
        // bodies of 2 are shorter than the front of 4, the collar of 5 is longer; sleeves of 3
        h.measure(2, 4, 5);
        h.set(1, 9);
        due("bolt", 0, Tapes.bolt(h, "00" + "00" + "555555" + "5555" + "00000", 0, 0));
        // A 0; B, C 1 row each (half of 2); D 2 rows; E 4 rows
        due("ugly(0, PLAIN, 0)", 0 + 1 + 1 + 2 + 4, h.ugly(0, PLAIN, 0));
        // bodies of 7: half is 3, but sleeves have 2
        h.measure(7, 1, 1);
        due("bolt", 1, Tapes.bolt(h, "0000000" + "0000000" + "5555" + "0" + "0", 0, 0));
        due("ugly(1, PLAIN, 0)", 2 + 2, h.ugly(1, PLAIN, 0));
        // sleeves of 4, half of 7 is 3
        due("bolt", 2, Tapes.bolt(h, "0000000" + "0000000" + "55555555" + "0" + "0", 0, 0));
        due("ugly(2, PLAIN, 0)", 3 + 3, h.ugly(2, PLAIN, 0));
        // bodies of 1: half is 0
        h.measure(1, 1, 1);
        due("bolt", 3, Tapes.bolt(h, "0" + "0" + "5555" + "0" + "0", 0, 0));
        due("ugly(3, PLAIN, 0)", 0, h.ugly(3, PLAIN, 0));
    }

    private static void uglyOfShown() {
        CHECK.about("promise 11, SHOWN");
        RobeHouse h = new RobeHouse();
        h.measure(5, 4, 1);
        // bodies of 5 with flaws at 0, 1, 2, 3, 4; sleeves of 3 all flawed; front of 4; collar of 1
        due("bolt", 0, Tapes.bolt(h, "0!0!0!0!0!" + "00000" + "0!0!0!" + "000" + "00!00" + "0!", 0, 0));
        due("FOLD 2", 5, h.ugly(0, PLAIN, 0));
        h.set(1, 1);
        // body 1, 2, 3; sleeve 1; front 1; collar none
        due("FOLD 1", 5 * 5, h.ugly(0, PLAIN, 0));
        due("FOLD 1, turned", 5 * 5, h.ugly(0, PLAIN, 63));
        h.set(1, 0);
        due("FOLD 0", 5 * 10, h.ugly(0, PLAIN, 0));
        h.set(1, 3);
        due("FOLD 3", 0, h.ugly(0, PLAIN, 0));
        h.set(1, 0);
        // a collar worn twice is not shown, thrice it is, and one that is flawed too counts once
        due("bolt", 1, Tapes.bolt(h, "0".repeat(20) + "0!", 0, 0));
        due("sew", 0, h.sew(1, PLAIN, 0));
        due("robe(0, 9)", 1, h.robe(0, 9));
        h.wear(0);
        h.wear(0);
        due("robe(0, 9)", 1, h.robe(0, 9));
        h.wear(0);
        // the flawed collar, 3 rows of both sleeves, the middle of both bodies
        due("robe(0, 9)", 1 + 6 + 2, h.robe(0, 9));
        due("unpick", 2, h.unpick(0, PLAIN, 0));
        due("ugly(2, PLAIN, 0)", 5 * 9, h.ugly(2, PLAIN, 0));
        h.set(1, 2);
        due("ugly(2, PLAIN, 0), FOLD 2", 5 * 2, h.ugly(2, PLAIN, 0));
    }

    private static void uglyRefusals() {
        CHECK.about("promise 11, refusals");
        RobeHouse h = new RobeHouse();
        Tapes.bolt(h, "00000000000000", 0, 0);
        Tapes.bolt(h, "00000000000000", 0, 1);
        Tapes.bolt(h, "000", 0, 0);
        due("ugly(3, PLAIN, 0)", NONE, h.ugly(3, PLAIN, 0));
        due("ugly(3, 0, 64)", NONE, h.ugly(3, 0, 64));
        due("ugly(0, -1, 0)", BAD, h.ugly(0, -1, 0));
        due("ugly(0, 0, 0)", BAD, h.ugly(0, 0, 0));
        due("ugly(0, 46656 + PLAIN, 0)", BAD, h.ugly(0, 46656 + PLAIN, 0));
        due("ugly(0, PLAIN - 1, 0)", BAD, h.ugly(0, PLAIN - 1, 0));
        due("ugly(0, REVERSED + 1, 0)", BAD, h.ugly(0, REVERSED + 1, 0));
        due("ugly(0, PLAIN, -1)", BAD, h.ugly(0, PLAIN, -1));
        due("ugly(0, PLAIN, 64)", BAD, h.ugly(0, PLAIN, 64));
        due("ugly(0, PLAIN, 1)", 0, h.ugly(0, PLAIN, 1));
        due("ugly(1, PLAIN, 1)", BAD, h.ugly(1, PLAIN, 1));
        due("ugly(1, PLAIN, 62)", BAD, h.ugly(1, PLAIN, 62));
        due("ugly(1, PLAIN, 63)", 0, h.ugly(1, PLAIN, 63));
        due("ugly(1, REVERSED, 0)", 0, h.ugly(1, REVERSED, 0));
        due("ugly(2, PLAIN, 64)", BAD, h.ugly(2, PLAIN, 64));
        due("ugly(2, PLAIN, 0)", STATE, h.ugly(2, PLAIN, 0));
    }

    private static void best() {
        CHECK.about("promise 12");
        RobeHouse h = new RobeHouse();
        due("best(0)", NONE, h.best(0));
        due("best(-1)", NONE, h.best(-1));
        Tapes.bolt(h, "000", 0, 0);
        due("best(0)", STATE, h.best(0));
        h.measure(2, 1, 1);
        h.set(1, 0);
        // all alike: the least order, none turned
        Tapes.bolt(h, "00000000", 0, 0);
        due("best(1)", 0, h.best(1));
        due("laid(0)", PLAIN, h.laid(0));
        due("laid(1)", 0, h.laid(1));
        // bodies 12 and 21 meet if one is turned, sleeves 1 1 meet both row 0, front 2 the last row
        Tapes.bolt(h, "12" + "21" + "1" + "1" + "2" + "2", 0, 0);
        due("best(2)", 0, h.best(2));
        due("laid(0)", PLAIN, h.laid(0));
        due("laid(1)", 2, h.laid(1));
        // on a one-way bolt only none or all turned can be
        Tapes.bolt(h, "12" + "21" + "1" + "1" + "2" + "2", 0, 1);
        due("best(3)", 0, h.best(3));
        // all turned: body 0 21, sleeve 2 2, front 1, collar 1, body 1 21, sleeve 3 2
        due("laid(0)", ((((0 * 6 + 2) * 6 + 4) * 6 + 5) * 6 + 1) * 6 + 3, h.laid(0));
        due("laid(1)", 63, h.laid(1));
        h.set(1, 1);
        // of FOLD 1 nothing shows on pieces of 2 and 1
        Tapes.bolt(h, "0!0!0!0!0!0!0!0!", 0, 0);
        due("best(4)", 0, h.best(4));
        h.set(1, 0);
        due("best(4), FOLD 0", 40, h.best(4));
        due("laid(0)", PLAIN, h.laid(0));
    }

    private static void laid() {
        CHECK.about("promise 13");
        RobeHouse h = new RobeHouse();
        Tapes.bolt(h, "00000000000000", 0, 0);
        Tapes.bolt(h, "000", 0, 0);
        due("best(1)", STATE, h.best(1));
        due("laid(0)", NONE, h.laid(0));
        due("best(0)", 0, h.best(0));
        due("laid(0)", PLAIN, h.laid(0));
        due("laid(1)", 0, h.laid(1));
        due("laid(2)", NONE, h.laid(2));
        due("laid(-1)", NONE, h.laid(-1));
        due("best(1)", STATE, h.best(1));
        due("best(2)", NONE, h.best(2));
        due("laid(0), the latest that was found", PLAIN, h.laid(0));
        due("sew(0, ..)", 0, h.sew(0, h.laid(0), h.laid(1)));
        due("laid(0), the bolt is used up", PLAIN, h.laid(0));
    }

    private static void sew() {
        CHECK.about("promise 14");
        RobeHouse h = new RobeHouse();
        h.measure(2, 1, 1);
        Tapes.bolt(h, "12345678", 6, 0);
        Tapes.bolt(h, "1", 6, 0);
        due("sew(2, PLAIN, 0)", NONE, h.sew(2, PLAIN, 0));
        due("sew(2, 0, 0)", NONE, h.sew(2, 0, 0));
        due("sew(0, 0, 0)", BAD, h.sew(0, 0, 0));
        due("sew(0, PLAIN, 64)", BAD, h.sew(0, PLAIN, 64));
        due("sew(0, -1, -1)", BAD, h.sew(0, -1, -1));
        due("sew(1, 0, 0)", BAD, h.sew(1, 0, 0));
        due("sew(1, PLAIN, 0)", STATE, h.sew(1, PLAIN, 0));
        // collar 1, front 2, sleeve 3 3, sleeve 2 4, body 1 56, body 0 78 turned
        due("sew(0, REVERSED, 1)", 0, h.sew(0, REVERSED, 1));
        String[] pieces = {"8 7", "5 6", "4", "3", "2", "1"};
        for (int piece = 0; piece < 6; piece++) {
            CHECK.due("piece " + piece, pieces[piece], Tapes.pieceOf(h, 0, piece));
        }
        due("the bolt is used up", NONE, h.about(0, 0));
        due("sew(0, PLAIN, 0)", NONE, h.sew(0, PLAIN, 0));
        // a robe keeps its measures
        h.measure(3, 3, 3);
        due("robe(0, 2)", 2, h.robe(0, 2));
        sewFull();
    }

    private static void sewFull() {
        RobeHouse h = new RobeHouse();
        h.measure(1, 1, 1);
        for (int k = 0; k < 30; k++) {
            Tapes.bolt(h, "123456", 0, 0);
            due("robe " + k, k, h.sew(k, PLAIN, 0));
        }
        due("unpick(7, ..)", 30, h.unpick(7, PLAIN, 0));
        Tapes.bolt(h, "12345", 0, 0);
        due("sew, no number is used again", FULL, h.sew(30, PLAIN, 0));
        due("sew, BAD ahead of FULL", BAD, h.sew(30, PLAIN, 64));
        due("sew, STATE ahead of FULL", STATE, h.sew(31, PLAIN, 0));
        due("the bolt stays", 6, h.about(30, 0));
        due("count(1)", 29, h.count(1));
        due("robe(30, 0)", NONE, h.robe(30, 0));
    }

    private static void robe() {
        CHECK.about("promise 15");
        RobeHouse h = new RobeHouse();
        h.measure(3, 2, 1);
        Tapes.bolt(h, "0".repeat(17), 4, 0);
        Tapes.bolt(h, "0".repeat(20), 9, 0);
        due("robe(0, 0)", NONE, h.robe(0, 0));
        due("sew", 0, h.sew(0, PLAIN, 0));
        int[] want = {4, 4, 3, 2, 1, 0, 0, NONE, NONE, 0};
        for (int what = 0; what < want.length; what++) {
            due("robe(0, " + what + ")", want[what], h.robe(0, what));
        }
        due("robe(0, 10)", NONE, h.robe(0, 10));
        due("robe(0, -1)", NONE, h.robe(0, -1));
        due("robe(-1, 0)", NONE, h.robe(-1, 0));
        due("robe(1, 0)", NONE, h.robe(1, 0));
        due("robe(30, 0)", NONE, h.robe(30, 0));
        h.line(0, 1);
        due("robe(0, 0), lined", 4, h.robe(0, 0));
        due("robe(0, 5)", 1, h.robe(0, 5));
        due("robe(0, 6)", 17, h.robe(0, 6));
        h.chest(0, 3);
        due("robe(0, 7)", 3, h.robe(0, 7));
        h.person(5, 20, 2);
        due("lend(0, 5, 0)", 0, h.lend(0, 5, 0));
        due("robe(0, 8)", 5, h.robe(0, 8));
        h.back(0, 0);
        due("robe(0, 8)", NONE, h.robe(0, 8));
        due("robe(0, 7), where it lay", 3, h.robe(0, 7));
        h.unline(0);
        due("robe(0, 5)", 0, h.robe(0, 5));
        due("robe(0, 6)", 0, h.robe(0, 6));
        h.unpick(0, PLAIN, 0);
        due("robe(0, 0), unpicked", NONE, h.robe(0, 0));
        due("robe(0, 9), unpicked", NONE, h.robe(0, 9));
    }

    private static void piece() {
        CHECK.about("promise 16");
        RobeHouse h = new RobeHouse();
        h.measure(2, 3, 1);
        Tapes.bolt(h, "01" + "23!" + "45" + "67" + "890" + "1!", 0, 0);
        due("piece(0, 0, 0, 0)", NONE, h.piece(0, 0, 0, 0));
        h.sew(0, PLAIN, 0);
        String[] pieces = {"0 1", "2 3!", "4 5", "6 7", "8 9 0", "1!"};
        for (int piece = 0; piece < 6; piece++) {
            CHECK.due("piece " + piece, pieces[piece], Tapes.pieceOf(h, 0, piece));
        }
        due("piece(0, 1, 1, 1)", 1, h.piece(0, 1, 1, 1));
        due("piece(0, 6, 0, 0)", NONE, h.piece(0, 6, 0, 0));
        due("piece(0, -1, 0, 0)", NONE, h.piece(0, -1, 0, 0));
        due("piece(0, 0, 2, 0)", NONE, h.piece(0, 0, 2, 0));
        due("piece(0, 0, -1, 0)", NONE, h.piece(0, 0, -1, 0));
        due("piece(0, 1, -1, 0)", NONE, h.piece(0, 1, -1, 0));
        due("piece(0, 5, 1, 0)", NONE, h.piece(0, 5, 1, 0));
        due("piece(0, 0, 0, 3)", NONE, h.piece(0, 0, 0, 3));
        due("piece(0, 0, 0, -1)", NONE, h.piece(0, 0, 0, -1));
        due("piece(1, 0, 0, 0)", NONE, h.piece(1, 0, 0, 0));
        h.wear(0);
        due("piece(0, 5, 0, 2)", 1, h.piece(0, 5, 0, 2));
        h.unpick(0, PLAIN, 0);
        due("piece(0, 0, 0, 0), unpicked", NONE, h.piece(0, 0, 0, 0));
    }

    private static void miss() {
        CHECK.about("promise 17");
        RobeHouse h = new RobeHouse();
        h.measure(5, 3, 2);
        Tapes.bolt(h, "01234" + "01238" + "1" + "9" + "531" + "44", 0, 0);
        due("miss(0, 0)", NONE, h.miss(0, 0));
        h.sew(0, PLAIN, 0);
        // A 4-8; B 1-0; C 9-0; D 5-4, 3-3, 1-2; E 4-5, 4-3
        int[] want = {1, 1, 1, 2, 2};
        int[] wantOne = {1, 0, 0, 0, 0};
        for (int seam = 0; seam < 5; seam++) {
            due("miss(0, " + seam + ")", want[seam], h.miss(0, seam));
        }
        h.set(0, 1);
        for (int seam = 0; seam < 5; seam++) {
            due("THREADS 1: miss(0, " + seam + ")", wantOne[seam], h.miss(0, seam));
        }
        h.set(0, 4);
        due("THREADS 4: miss(0, 0)", 0, h.miss(0, 0));
        due("miss(0, 5)", NONE, h.miss(0, 5));
        due("miss(0, -1)", NONE, h.miss(0, -1));
        due("miss(1, 0)", NONE, h.miss(1, 0));
        h.unpick(0, PLAIN, 0);
        due("miss(0, 0), unpicked", NONE, h.miss(0, 0));
    }

    private static void wear() {
        CHECK.about("promise 18");
        RobeHouse h = new RobeHouse();
        h.measure(4, 3, 2);
        Tapes.bolt(h, "0".repeat(21), 0, 0);
        due("wear(0)", NONE, h.wear(0));
        h.sew(0, PLAIN, 0);
        due("wear(0)", 2 + 6 + 2, h.wear(0));
        String[] pieces = {"0 0 0(1) 0", "0 0 0(1) 0", "0(1) 0(1) 0(1) 0", "0(1) 0(1) 0(1) 0",
            "0 0 0", "0(1) 0(1)"};
        for (int piece = 0; piece < 6; piece++) {
            CHECK.due("piece " + piece, pieces[piece], Tapes.pieceOf(h, 0, piece));
        }
        for (int k = 2; k <= 9; k++) {
            due("wear(0)", 10, h.wear(0));
        }
        due("wear(0), 9 at most", 0, h.wear(0));
        due("piece(0, 5, 1, 2)", 9, h.piece(0, 5, 1, 2));
        // short pieces: bodies of 1 and sleeves of 2
        h.measure(1, 1, 1);
        Tapes.bolt(h, "0".repeat(8), 0, 0);
        h.sew(1, PLAIN, 0);
        due("wear(1)", 2 + 4 + 1, h.wear(1));
        // joined in another way some rows are worn 9 and others not
        due("unpick(0, REVERSED, 0)", 2, h.unpick(0, REVERSED, 0));
        h.measure(4, 3, 2);
        due("sew(2, PLAIN, 0)", 2, h.sew(2, PLAIN, 0));
        // of rows 99 000 9990 9990 0090 0090: bodies 9900 and 0999, sleeves 0999 and 0009, collar 90
        CHECK.due("piece 1", "0 0(9) 0(9) 0(9)", Tapes.pieceOf(h, 2, 1));
        // the middle of body 0, row 0 of sleeve 2, three rows of sleeve 3, the collar's last
        due("wear(2)", 1 + 1 + 3 + 1, h.wear(2));
        due("wear(3)", NONE, h.wear(3));
        due("wear(0), unpicked", NONE, h.wear(0));
    }

    private static void unpick() {
        CHECK.about("promise 19");
        RobeHouse h = new RobeHouse();
        h.measure(2, 3, 1);
        Tapes.bolt(h, "01" + "23!" + "45" + "67" + "890" + "1", 3, 0);
        Tapes.bolt(h, "01" + "23" + "45" + "67" + "890" + "1", 5, 1);
        Tapes.bolt(h, "0".repeat(12), 0, 0);
        h.sew(0, PLAIN, 0);
        h.sew(1, PLAIN, 0);
        due("unpick(2, PLAIN, 0)", NONE, h.unpick(2, PLAIN, 0));
        due("unpick(0, 0, 0)", BAD, h.unpick(0, 0, 0));
        due("unpick(0, PLAIN, 64)", BAD, h.unpick(0, PLAIN, 64));
        due("unpick(1, PLAIN, 1)", BAD, h.unpick(1, PLAIN, 1));
        h.line(0, 2);
        due("unpick(0, 0, 0), lined", BAD, h.unpick(0, 0, 0));
        due("unpick(0, PLAIN, 0), lined", STATE, h.unpick(0, PLAIN, 0));
        due("unline(0)", 3, h.unline(0));
        h.chest(0, 1);
        h.person(0, 0, 0);
        h.lend(0, 0, 0);
        due("unpick(0, PLAIN, 0), lent", STATE, h.unpick(0, PLAIN, 0));
        h.back(0, 1);
        // collar, front, sleeve 3, sleeve 2, body 1 turned, body 0
        due("unpick(0, REVERSED, 2)", 4, h.unpick(0, REVERSED, 2));
        CHECK.due("its rows", "1(1) 8 9 0 6(1) 7(1) 4(1) 5(1) 3!(1) 2 0 1(1)", Tapes.rowsOf(h, 4));
        due("about(4, 1)", 3, h.about(4, 1));
        due("about(4, 2)", 0, h.about(4, 2));
        due("unpick(1, PLAIN, 63)", 5, h.unpick(1, PLAIN, 63));
        CHECK.due("its rows", "1 0 3 2 5 4 7 6 0 9 8 1", Tapes.rowsOf(h, 5));
        due("about(5, 1)", 5, h.about(5, 1));
        due("about(5, 2)", 1, h.about(5, 2));
        due("unpick(1, PLAIN, 0)", NONE, h.unpick(1, PLAIN, 0));
        unpickFull();
    }

    private static void unpickFull() {
        RobeHouse h = new RobeHouse();
        h.measure(1, 1, 1);
        for (int k = 0; k < 40; k++) {
            Tapes.bolt(h, "123456", 0, 0);
        }
        due("sew(0, ..)", 0, h.sew(0, PLAIN, 0));
        due("unpick, 40 bolts were made", FULL, h.unpick(0, PLAIN, 0));
        due("unpick, BAD ahead of FULL", BAD, h.unpick(0, PLAIN, 64));
        due("line(0, 1)", 0, h.line(0, 1));
        due("unpick, STATE ahead of FULL", STATE, h.unpick(0, PLAIN, 0));
        due("unline, 40 bolts were made", FULL, h.unline(0));
        due("robe(0, 5)", 1, h.robe(0, 5));
        due("count(1)", 1, h.count(1));
    }

    private static void line() {
        CHECK.about("promise 20");
        RobeHouse h = new RobeHouse();
        h.measure(1, 1, 1);
        Tapes.bolt(h, "123456", 1, 0);
        Tapes.bolt(h, "1234567!8", 2, 1);
        Tapes.bolt(h, "12345", 3, 0);
        Tapes.bolt(h, "123456", 3, 0);
        h.sew(0, PLAIN, 0);
        h.sew(3, PLAIN, 0);
        Tapes.bolt(h, "98765!4", 4, 0);
        due("line(2, 1)", NONE, h.line(2, 1));
        due("line(0, 0), used up", NONE, h.line(0, 0));
        due("line(0, 5)", NONE, h.line(0, 5));
        due("line(0, -1)", NONE, h.line(0, -1));
        due("line(0, 2), shorter", STATE, h.line(0, 2));
        due("line(0, 1)", 2, h.line(0, 1));
        CHECK.due("the rest of it", "7! 8", Tapes.rowsOf(h, 1));
        due("about(1, 0)", 2, h.about(1, 0));
        due("about(1, 1)", 2, h.about(1, 1));
        due("about(1, 2)", 1, h.about(1, 2));
        due("line(0, 4), lined", STATE, h.line(0, 4));
        due("line(0, 0), NONE ahead of STATE", NONE, h.line(0, 0));
        due("line(1, 4)", 0, h.line(1, 4));
        due("about(4, 0), used up", NONE, h.about(4, 0));
        due("robe(1, 6)", 6, h.robe(1, 6));
        due("line(1, 2), lined and shorter", STATE, h.line(1, 2));
        due("count(3)", 2 + 5 + 24, h.count(3));
    }

    private static void unline() {
        CHECK.about("promise 21");
        RobeHouse h = new RobeHouse();
        h.measure(1, 1, 1);
        Tapes.bolt(h, "123456", 1, 0);
        Tapes.bolt(h, "9!8765432", 2, 1);
        h.sew(0, PLAIN, 0);
        due("unline(1)", NONE, h.unline(1));
        due("unline(-1)", NONE, h.unline(-1));
        due("unline(0)", STATE, h.unline(0));
        due("line(0, 1)", 2, h.line(0, 1));
        h.wear(0);
        due("dye(1, 9), the rest alone", 2, h.dye(1, 9));
        due("unline(0)", 2, h.unline(0));
        CHECK.due("its rows", "9! 8 7 6 5 4", Tapes.rowsOf(h, 2));
        due("about(2, 1)", 2, h.about(2, 1));
        due("about(2, 2)", 1, h.about(2, 2));
        due("unline(0)", STATE, h.unline(0));
        due("line(0, 2)", 0, h.line(0, 2));
        due("unline(0)", 3, h.unline(0));
        CHECK.due("its rows", "9! 8 7 6 5 4", Tapes.rowsOf(h, 3));
    }

    private static void rules() {
        CHECK.about("promise 22");
        RobeHouse h = new RobeHouse();
        Tapes.feed(h, "age<20");
        due("rules(4)", NONE, h.rules(4));
        due("rules(-1)", NONE, h.rules(-1));
        due("count(4), the tape stays", 6, h.count(4));
        due("rules(0)", 1, h.rules(0));
        due("count(4), the tape is empty", 0, h.count(4));
        due("six clauses", 6, Tapes.rules(h,
                "season<3;age>0;rank=9;colour<10;lined=0;sleeve>99", 3));
        due("one twice", 2, Tapes.rules(h, "age>1;age<9", 3));
        due("a fault", -13, Tapes.rules(h, "age;", 3));
        due("count(4), the tape is empty", 0, h.count(4));
    }

    private static void rulesFaults() {
        CHECK.about("promise 22, faults");
        RobeHouse h = new RobeHouse();
        String[] texts = {"", "a", "agx", "x", "Age<1", "age", "age<", "age<x", "age<=1", "age <1", "age<1 ",
            "age<00", "age<01", "age<0", "age<100", "age<1;", "age<1;;", "age<1,", "sx", "se", "slx", "sea", "seax",
            "sleeves=1", "lines=1", "coloured=1", "season=1;sleeve=04", "age!1", "age?1", "age;1", "age<-1",
            "age<1;age<1;age<1;age<1;age<1;age<1;", "age<1;age<1;age<1;age<1;age<1;age<1;age<1",
            ";age<1", "ranked", "r", "rank>99;", "age<1;rank", "age<1;rank>9x"};
        int[] faults = {0, 1, 2, 0, 0, 3, 4, 4, 4, 3, 5,
            5, 5, NONE, 6, 6, 6, 5, 1, 2, 2, 3, 3,
            6, 4, 6, 17, 3, 3, 3, 4,
            35, 35,
            0, 4, 1, 8, 10, 12};
        for (int k = 0; k < texts.length; k++) {
            int want = faults[k] == NONE ? 1 : -10 - faults[k];
            due("rules \"" + texts[k] + "\"", want, Tapes.rules(h, texts[k], 2));
        }
        due("a byte below 0", -10, h.feed(-1L, 1) == 1 ? h.rules(0) : 0);
    }

    private static void chest() {
        CHECK.about("promise 23");
        RobeHouse h = new RobeHouse();
        h.measure(1, 1, 1);
        Tapes.bolt(h, "123456", 1, 0);
        due("chest(0, 0)", -5, h.chest(0, 0));
        h.sew(0, PLAIN, 0);
        due("chest(0, 4)", -5, h.chest(0, 4));
        due("chest(0, -2)", -5, h.chest(0, -2));
        due("chest(-1, 0)", -5, h.chest(-1, 0));
        due("chest(0, -1)", NONE, h.chest(0, -1));
        due("chest(0, 3)", NONE, h.chest(0, 3));
        due("chest(0, 0)", 3, h.chest(0, 0));
        due("robe(0, 7)", 0, h.robe(0, 7));
        due("chest(0, -1)", 0, h.chest(0, -1));
        due("robe(0, 7)", NONE, h.robe(0, 7));
        h.chest(0, 2);
        h.person(1, 1, 1);
        h.lend(0, 1, 0);
        due("chest(0, 1), lent", STATE, h.chest(0, 1));
        due("chest(0, 4), lent", -5, h.chest(0, 4));
        h.back(0, 0);
        due("chest(0, 1)", 2, h.chest(0, 1));
        h.unpick(0, PLAIN, 0);
        due("chest(0, 1), unpicked", -5, h.chest(0, 1));
    }

    private static void person() {
        CHECK.about("promise 24");
        RobeHouse h = new RobeHouse();
        due("person(10, 0, 0)", NONE, h.person(10, 0, 0));
        due("person(-1, 100, 0)", NONE, h.person(-1, 100, 0));
        due("person(0, 100, 0)", BAD, h.person(0, 100, 0));
        due("person(0, -1, 0)", BAD, h.person(0, -1, 0));
        due("person(0, 0, 10)", BAD, h.person(0, 0, 10));
        due("person(0, 0, -1)", BAD, h.person(0, 0, -1));
        due("person(0, 99, 9)", 1, h.person(0, 99, 9));
        due("person(0, 100, 9)", BAD, h.person(0, 100, 9));
        due("person(0, 0, 0)", 0, h.person(0, 0, 0));
        due("person(9, 0, 0)", 1, h.person(9, 0, 0));
    }

    private static void may() {
        CHECK.about("promise 25");
        RobeHouse h = new RobeHouse();
        h.measure(1, 1, 1);
        Tapes.bolt(h, "12345678", 3, 0);
        Tapes.bolt(h, "12345678", 3, 0);
        due("may(0, 0, 0)", NONE, h.may(0, 0, 0));
        h.sew(0, PLAIN, 0);
        h.person(2, 30, 4);
        due("may(0, 0, 0), not told", NONE, h.may(0, 0, 0));
        due("may(0, 10, 0)", NONE, h.may(0, 10, 0));
        due("may(0, -1, 0)", NONE, h.may(0, -1, 0));
        due("may(1, 2, 4)", NONE, h.may(1, 2, 4));
        due("may(0, 2, 4)", BAD, h.may(0, 2, 4));
        due("may(0, 2, -1)", BAD, h.may(0, 2, -1));
        due("may(0, 2, 0), in no chest", STATE, h.may(0, 2, 0));
        h.chest(0, 1);
        due("may(0, 2, 0), no rules", 1, h.may(0, 2, 0));
        String[] yes = {"season=2", "season<3", "season>1", "age=30", "age<31", "age>29", "rank=4", "rank>3",
            "rank<5", "colour=3", "colour<4", "colour>2", "lined=0", "lined<1", "sleeve=2", "sleeve<3", "sleeve>1",
            "season=2;age=30;rank=4;colour=3;lined=0;sleeve=2", "sleeve<99"};
        String[] no = {"season=1", "season<2", "season>2", "age=3", "age<30", "age>30", "rank=3", "rank>4",
            "rank<4", "colour=2", "colour<3", "colour>3", "lined=1", "lined>0", "sleeve=1", "sleeve<2", "sleeve>2",
            "season=2;age=30;rank=4;colour=3;lined=0;sleeve=3", "season=1;age=30", "age=30;season=1"};
        for (String text : yes) {
            Tapes.rules(h, text, 1);
            due("may(0, 2, 2) by " + text, 1, h.may(0, 2, 2));
        }
        for (String text : no) {
            Tapes.rules(h, text, 1);
            due("may(0, 2, 2) by " + text, 0, h.may(0, 2, 2));
        }
        Tapes.rules(h, "age>", 1);
        due("the last rules stay behind a fault", 0, h.may(0, 2, 2));
        due("the last rules stay behind a fault", 1, h.may(0, 2, 1));
        due("rules of a fault with a clause", -17, Tapes.rules(h, "age<99;x", 1));
        due("the last rules stay behind a fault", 0, h.may(0, 2, 2));
        h.chest(0, 2);
        due("may(0, 2, 2), of another chest", 1, h.may(0, 2, 2));
        Tapes.rules(h, "lined=1", 2);
        due("may(0, 2, 2)", 0, h.may(0, 2, 2));
        h.line(0, 1);
        due("may(0, 2, 2), lined", 1, h.may(0, 2, 2));
        h.lend(0, 2, 2);
        due("may(0, 2, 2), lent", STATE, h.may(0, 2, 2));
        due("may(0, 2, 4), lent", BAD, h.may(0, 2, 4));
    }

    private static void lend() {
        CHECK.about("promise 26");
        RobeHouse h = twoRobes();
        Tapes.rules(h, "season=2", 1);
        due("lend(2, 2, 2)", NONE, h.lend(2, 2, 2));
        due("lend(0, 3, 2), not told", NONE, h.lend(0, 3, 2));
        due("lend(0, 3, 4), not told", NONE, h.lend(0, 3, 4));
        due("lend(0, 2, 4)", BAD, h.lend(0, 2, 4));
        due("lend(0, 2, -1)", BAD, h.lend(0, 2, -1));
        due("lend(0, 2, 2), in no chest", STATE, h.lend(0, 2, 2));
        h.chest(0, 1);
        h.chest(1, 1);
        due("lend(0, 2, 1), may not", STATE, h.lend(0, 2, 1));
        due("lend(0, 2, 2)", 0, h.lend(0, 2, 2));
        due("robe(0, 8)", 2, h.robe(0, 8));
        due("count(2)", 1, h.count(2));
        h.person(4, 1, 1);
        due("lend(0, 4, 2), lent", STATE, h.lend(0, 4, 2));
        due("lend(1, 2, 2), one has a robe", STATE, h.lend(1, 2, 2));
        due("lend(1, 4, 2)", 0, h.lend(1, 4, 2));
        due("count(2)", 2, h.count(2));
        due("back(0, 0)", 2, h.back(0, 0));
        due("lend(0, 2, 2), again", 0, h.lend(0, 2, 2));
    }

    private static RobeHouse twoRobes() {
        RobeHouse h = new RobeHouse();
        h.measure(1, 1, 1);
        for (int k = 0; k < 2; k++) {
            Tapes.bolt(h, "12345678", 3, 0);
            h.sew(k, PLAIN, 0);
        }
        h.person(2, 30, 4);
        return h;
    }

    private static void back() {
        CHECK.about("promise 27");
        RobeHouse h = twoRobes();
        due("back(2, 0)", NONE, h.back(2, 0));
        due("back(2, 10)", NONE, h.back(2, 10));
        due("back(0, 10)", BAD, h.back(0, 10));
        due("back(0, -1)", BAD, h.back(0, -1));
        due("back(0, 0)", STATE, h.back(0, 0));
        h.chest(0, 3);
        h.lend(0, 2, 0);
        due("back(0, 10)", BAD, h.back(0, 10));
        due("back(0, 4)", 2, h.back(0, 4));
        due("piece(0, 5, 0, 2)", 4, h.piece(0, 5, 0, 2));
        due("piece(0, 4, 0, 2)", 0, h.piece(0, 4, 0, 2));
        due("robe(0, 7)", 3, h.robe(0, 7));
        due("robe(0, 8)", NONE, h.robe(0, 8));
        due("back(0, 4)", STATE, h.back(0, 4));
        h.lend(0, 2, 0);
        due("back(0, 9)", 2, h.back(0, 9));
        due("piece(0, 5, 0, 2)", 9, h.piece(0, 5, 0, 2));
        h.lend(0, 2, 0);
        due("back(0, 0)", 2, h.back(0, 0));
        due("count(2)", 0, h.count(2));
    }

    /** Robes of colours 0 .. n - 1, each in the chest told. */
    private static RobeHouse robesIn(int... chests) {
        RobeHouse h = new RobeHouse();
        h.measure(1, 1, 1);
        for (int k = 0; k < chests.length; k++) {
            Tapes.bolt(h, "123456", k % 10, 0);
            h.sew(k, PLAIN, 0);
            h.chest(k, chests[k]);
        }
        return h;
    }

    private static void getsAll(RobeHouse h, int... robes) {
        for (int person = 0; person < robes.length; person++) {
            due("gets(" + person + ")", robes[person], h.gets(person));
        }
    }

    private static void clothe() {
        CHECK.about("promise 28");
        RobeHouse h = robesIn(0, 1, 2, -1);
        due("clothe(4)", BAD, h.clothe(4));
        due("clothe(-1)", BAD, h.clothe(-1));
        due("clothe(0), nobody is told", 0, h.clothe(0));
        for (int person = 0; person < 4; person++) {
            h.person(person, 10 * person, person);
        }
        due("clothe(0), three robes", 3, h.clothe(0));
        getsAll(h, 0, 1, 2, NONE);
        // robe 0 is for persons from 2 on, robes 1 and 2 for person 0 alone and persons 0, 1
        Tapes.rules(h, "rank>1", 0);
        Tapes.rules(h, "rank<1", 1);
        Tapes.rules(h, "rank<2", 2);
        due("clothe(0)", 3, h.clothe(0));
        getsAll(h, 1, 2, 0, NONE);
        due("nothing is lent", 0, h.count(2));
        // person 0 has to leave robe 0 to person 1, who can have no other
        Tapes.rules(h, "rank<2", 0);
        Tapes.rules(h, "rank=0", 1);
        Tapes.rules(h, "rank=9", 2);
        due("clothe(0)", 2, h.clothe(0));
        getsAll(h, 1, 0, NONE, NONE);
        // one robe for two: the least of people has it
        Tapes.rules(h, "rank=9", 1);
        due("clothe(0)", 1, h.clothe(0));
        getsAll(h, 0, NONE, NONE, NONE);
        // one who has a robe, and a robe that is lent, are left out
        h.lend(0, 1, 0);
        due("clothe(0)", 0, h.clothe(0));
        Tapes.rules(h, "rank<2", 1);
        due("clothe(0)", 1, h.clothe(0));
        getsAll(h, 1, NONE, NONE, NONE);
        // rules look at the season
        Tapes.rules(h, "season=3", 1);
        due("clothe(2)", 0, h.clothe(2));
        due("clothe(3)", 1, h.clothe(3));
    }

    private static void gets() {
        CHECK.about("promise 29");
        RobeHouse h = robesIn(0, 0);
        h.person(7, 1, 1);
        due("gets(7)", NONE, h.gets(7));
        h.clothe(0);
        due("gets(7)", 0, h.gets(7));
        due("gets(6)", NONE, h.gets(6));
        due("gets(10)", NONE, h.gets(10));
        due("gets(-1)", NONE, h.gets(-1));
        due("clothe(4)", BAD, h.clothe(4));
        due("gets(7), by the latest not refused", 0, h.gets(7));
        h.chest(0, -1);
        due("gets(7), by the latest", 0, h.gets(7));
        h.clothe(0);
        due("gets(7)", 1, h.gets(7));
        h.unpick(1, PLAIN, 0);
        due("gets(7), by the latest", 1, h.gets(7));
        h.clothe(0);
        due("gets(7)", NONE, h.gets(7));
    }

    private static void count() {
        CHECK.about("promise 30");
        RobeHouse h = robesIn(0, 0, 0);
        Tapes.bolt(h, "1234567", 0, 0);
        Tapes.feed(h, "12345");
        h.person(0, 0, 0);
        h.lend(1, 0, 0);
        counts(h, 1, 3, 1, 25, 5, 4);
        h.line(0, 3);
        counts(h, 1, 3, 1, 25, 5, 4);
        h.unpick(2, PLAIN, 0);
        counts(h, 2, 2, 1, 25, 5, 5);
        h.unline(0);
        counts(h, 3, 2, 1, 25, 5, 6);
        h.line(0, 5);
        counts(h, 2, 2, 1, 25, 5, 6);
        h.bolt(0, 0);
        counts(h, 3, 2, 1, 30, 0, 7);
        h.back(1, 1);
        counts(h, 3, 2, 0, 30, 0, 7);
        due("count(6)", NONE, h.count(6));
        due("count(-1)", NONE, h.count(-1));
    }

    /** All robes that can be, and all bolts. */
    private static void fullHouse() {
        CHECK.about("promises 28, 30, a full house");
        int[] chests = new int[30];
        chests[29] = 1;
        RobeHouse h = robesIn(chests);
        for (int k = 0; k < 10; k++) {
            Tapes.bolt(h, "12", 0, 0);
        }
        counts(h, 10, 30, 0, 200, 0, 40);
        Tapes.rules(h, "rank>0", 0);
        for (int person = 0; person < 10; person++) {
            h.person(person, 0, person);
        }
        due("clothe(0)", 10, h.clothe(0));
        getsAll(h, 29, 0, 1, 2, 3, 4, 5, 6, 7, 8);
        due("lend(29, 0, 0)", 0, h.lend(29, 0, 0));
        counts(h, 10, 30, 1, 200, 0, 40);
        due("clothe(0)", 9, h.clothe(0));
        getsAll(h, NONE, 0, 1, 2, 3, 4, 5, 6, 7, 8);
        due("back(29, 1)", 0, h.back(29, 1));
        due("piece(29, 5, 0, 2)", 1, h.piece(29, 5, 0, 2));
    }

    private static void counts(RobeHouse h, int... want) {
        for (int what = 0; what < want.length; what++) {
            due("count(" + what + ")", want[what], h.count(what));
        }
    }
}

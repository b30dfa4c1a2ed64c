/** Houses in states in which calls are refused; each is made anew, always alike. */
enum Houses {
    /** Nothing is there. */
    NEW,
    /**
     * Measures 2, 1, 1; THREADS 1, FOLD 1. Bolts made: 0 .. 10, there: 5 (2 rows, the rest of a lining),
     * 6 (10 rows, one-way, colour 4), 7 (9 rows: no robe can be sewn of it, colour 9), 8 (10 rows, colour 0),
     * 10 (8 rows, worn, colour 7). Robes made: 0 .. 4: 0 lies in chest 0, 1 in chest 1 and is lined and one-way,
     * 2 is lent from chest 0 to person 4, 3 is unpicked, 4 lies in no chest and is lined. Rules: chest 0
     * "age>19;rank<5", chest 1 "season=2;lined=1", chest 2 "colour=3;age>20", chest 3 none. People: 0 (20, 4),
     * 4 (30, 2), 9 (99, 9). The tape: "7!8". best(8) and clothe(2) were asked.
     */
    RICH,
    /** RICH with 130 bytes on the tape: 119 rows. */
    FULL_TAPE,
    /** RICH with 40 bolts made; the tape: "3!". */
    ALL_BOLTS,
    /** RICH with 30 robes made of 37 bolts; the tape: "3!". */
    ALL_ROBES,
    /** RICH with 30 robes and 40 bolts made; the tape: "3!". */
    ALL_MADE;

    /** Pieces 0 .. 5 in their order. */
    static final int PLAIN = 1865;
    /** Pieces 5, 4, 3, 2, 1, 0. */
    static final int REVERSED = 44790;

    RobeHouse make() {
        RobeHouse house = new RobeHouse();
        build(house);
        return house;
    }

    /** The same of the plain model. */
    PlainHouse makePlain() {
        PlainHouse house = new PlainHouse();
        build(house);
        return house;
    }

    private static int ask(Object house, String name, long... args) {
        return Calls.answer(house, name, args);
    }

    /** A robe of a new bolt, its pieces laid in their order: its number. */
    static int sewn(Object house, String text, int colour, int oneWay) {
        return ask(house, "sew", Tapes.bolt(house, text, colour, oneWay), PLAIN, 0);
    }

    /** Bolts of one row, until so many are made. */
    static void fillBolts(Object house, int made) {
        for (int k = ask(house, "count", 5); k < made; k++) {
            Tapes.bolt(house, "5", 6, 0);
        }
    }

    private void build(Object house) {
        if (this != NEW) {
            buildRich(house);
        }
        if (this == FULL_TAPE) {
            Tapes.feed(house, "5!".repeat(10) + "5".repeat(107));
        }
        if (this == ALL_ROBES || this == ALL_MADE) {
            ask(house, "bolt", 1, 0);
            for (int k = 0; k < 25; k++) {
                sewn(house, "76543210", 2, 0);
            }
        }
        if (this == ALL_BOLTS || this == ALL_MADE) {
            ask(house, "bolt", 1, 0);
            fillBolts(house, 40);
        }
        if (this == ALL_BOLTS || this == ALL_ROBES || this == ALL_MADE) {
            Tapes.feed(house, "3!");
        }
    }

    private static void buildRich(Object house) {
        ask(house, "measure", 2, 1, 1);
        ask(house, "set", 0, 1);
        ask(house, "set", 1, 1);
        buildCloth(house);
        Tapes.rules(house, "age>19;rank<5", 0);
        Tapes.rules(house, "season=2;lined=1", 1);
        Tapes.rules(house, "colour=3;age>20", 2);
        ask(house, "person", 0, 20, 4);
        ask(house, "person", 4, 30, 2);
        ask(house, "person", 9, 99, 9);
        ask(house, "chest", 0, 0);
        ask(house, "chest", 1, 1);
        ask(house, "chest", 2, 0);
        ask(house, "lend", 2, 4, 0);
        ask(house, "best", 8);
        ask(house, "clothe", 2);
        Tapes.feed(house, "7!8");
    }

    private static void buildCloth(Object house) {
        sewn(house, "12!34567!8", 3, 0);
        sewn(house, "0123456789", 5, 1);
        sewn(house, "00000000", 0, 0);
        sewn(house, "98765432", 7, 0);
        sewn(house, "11223344", 8, 0);
        Tapes.bolt(house, "0!1!2345678901", 2, 1);
        Tapes.bolt(house, "1357924680", 4, 1);
        Tapes.bolt(house, "123456789", 9, 0);
        Tapes.bolt(house, "9081!726354", 0, 0);
        Tapes.bolt(house, "33333333", 1, 0);
        ask(house, "line", 1, 5);
        ask(house, "line", 4, 9);
        for (int k = 0; k < 3; k++) {
            ask(house, "wear", 3);
        }
        ask(house, "unpick", 3, REVERSED, 9);
    }
}

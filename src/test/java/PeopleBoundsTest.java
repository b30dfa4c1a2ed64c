/** The boundary cases of promises 22 to 30, each by a test named by its promise. */
public final class PeopleBoundsTest {
    private static final int NONE = -1, BAD = -2, STATE = -3, NO_SUCH = -5;
    private static final int PLAIN = Houses.PLAIN;
    private static final String[] WORDS = {"season", "age", "rank", "colour", "lined", "sleeve"};
    private static final String SIX = "season<3;age>0;rank=9;colour<10;lined=0;sleeve>99";
    private static final Check CHECK = new Check();

    public static void main(String[] args) {
        Suite.run(PeopleBoundsTest.class, CHECK, 22, 30);
    }

    private static void due(int want, RobeHouse h, String name, long... args) {
        CHECK.call(want, h, name, args);
    }

    private static void refused(Houses kind, int want, String name, long... args) {
        Twins.refused(CHECK, kind, want, name, args);
    }

    private static void outside(Houses kind, int want, int k, int least, int most, String name, long... args) {
        Edges.refused(CHECK, kind, want, k, least, most, new Calls.Call(name, args));
    }

    private static void dueRules(int want, String text) {
        RobeHouse h = new RobeHouse();
        Tapes.feed(h, text);
        CHECK.due("rules \"" + text + "\"", want, h.rules(0));
        due(0, h, "count", 4);
    }

    private static int fault(int place) {
        return -10 - place;
    }

    /** No such robe: numbers outside, one that is unpicked. */
    private static void robeIsNone(int want, String name, long... args) {
        outside(Houses.RICH, want, 0, 0, 4, name, args);
        outside(Houses.ALL_ROBES, want, 0, 0, 29, name, args);
        args[0] = 3;
        refused(Houses.RICH, want, name, args);
    }

    /** No such one of people: numbers outside, and those that were not told. */
    private static void personIsNone(String name, long... args) {
        outside(Houses.RICH, NONE, 1, 0, 9, name, args);
        for (int person = 0; person < 10; person++) {
            if (person != 0 && person != 4 && person != 9) {
                args[1] = person;
                refused(Houses.RICH, NONE, name, args);
            }
        }
    }

    /** Robes of colour 0, each in the chest told. */
    private static RobeHouse robesIn(int... chests) {
        RobeHouse h = new RobeHouse();
        h.measure(1, 1, 1);
        for (int robe = 0; robe < chests.length; robe++) {
            due(robe, h, "sew", Tapes.bolt(h, "123456", 0, 0), PLAIN, 0);
            h.chest(robe, chests[robe]);
        }
        return h;
    }

    /** People from 0 on, of age 10 times and rank their number. */
    private static void tell(RobeHouse h, int end) {
        for (int person = 0; person < end; person++) {
            due(1, h, "person", person, 10 * person, person);
        }
    }

    private static void getsAll(RobeHouse h, int... robes) {
        for (int person = 0; person < 10; person++) {
            due(person < robes.length ? robes[person] : NONE, h, "gets", person);
        }
    }

    // ---- promise 22: rules

    static void promise22ChestIsNone() {
        outside(Houses.RICH, NONE, 0, 0, 3, "rules", 0);
        outside(Houses.FULL_TAPE, NONE, 0, 0, 3, "rules", 0);
        outside(Houses.NEW, NONE, 0, 0, 3, "rules", 0);
    }

    static void promise22EachChestAlone() {
        for (int ruled = 0; ruled < 4; ruled++) {
            RobeHouse h = robesIn(0, 1, 2, 3);
            tell(h, 1);
            CHECK.due("rules", 1, Tapes.rules(h, "season=3", ruled));
            for (int chest = 0; chest < 4; chest++) {
                due(chest == ruled ? 0 : 1, h, "may", chest, 0, 2);
                due(1, h, "may", chest, 0, 3);
            }
        }
    }

    static void promise22EmptyTapeEndsTooEarly() {
        dueRules(fault(0), "");
        RobeHouse h = Houses.RICH.make();
        h.rules(3);
        due(fault(0), h, "rules", 0);
        due(1, h, "may", 0, 0, 0);
        due(0, h, "may", 0, 9, 0);
    }

    static void promise22FromOneClauseToSix() {
        for (int clauses = 1; clauses <= 6; clauses++) {
            dueRules(clauses, "age<1" + ";age<1".repeat(clauses - 1));
            dueRules(clauses, "season<99" + ";season<99".repeat(clauses - 1));
        }
    }

    static void promise22SeventhClause() {
        // no rules can go on with a ; behind the sixth clause
        dueRules(fault(35), "age<1;age<1;age<1;age<1;age<1;age<1;age<1");
        dueRules(fault(35), "age<1;age<1;age<1;age<1;age<1;age<1;");
        dueRules(fault(59), "season<99;season<99;season<99;season<99;season<99;season<99;x");
        dueRules(fault(SIX.length()), SIX + ";");
    }

    static void promise22FullTape() {
        dueRules(fault(SIX.length()), (SIX + ";" + SIX + ";" + SIX).substring(0, 130));
        dueRules(fault(0), "x".repeat(130));
    }

    static void promise22EndsTooEarlyAtEachPlace() {
        for (int size = 0; size <= SIX.length(); size++) {
            String text = SIX.substring(0, size);
            boolean whole = text.matches(".*[<=>](0|[1-9][0-9]?)");
            dueRules(whole ? text.split(";").length : fault(size), text);
        }
    }

    static void promise22FaultAtEachPlace() {
        for (int place = 0; place <= SIX.length(); place++) {
            dueRules(fault(place), SIX.substring(0, place) + "~");
            dueRules(fault(place), SIX.substring(0, place) + (char) 255);
            dueRules(fault(place), SIX.substring(0, place) + " " + SIX.substring(place));
        }
    }

    static void promise22EachByteAtTheFirstPlace() {
        for (char b = 0; b < 256; b++) {
            boolean goesOn = "sarcl".indexOf(b) >= 0;
            dueRules(fault(goesOn ? 1 : 0), "" + b);
            dueRules(fault(goesOn ? 7 : 6), "age<1;" + b);
        }
    }

    static void promise22EachByteBehindALetter() {
        for (char b = 0; b < 256; b++) {
            dueRules(fault(b == 'e' || b == 'l' ? 2 : 1), "s" + b);
            dueRules(fault(b == 'a' ? 3 : 2), "se" + b);
            dueRules(fault(b == 'e' ? 3 : 2), "sl" + b);
            dueRules(fault(b == 'g' ? 2 : 1), "a" + b);
            dueRules(fault(b == 'a' ? 2 : 1), "r" + b);
            dueRules(fault(b == 'o' ? 2 : 1), "c" + b);
            dueRules(fault(b == 'i' ? 2 : 1), "l" + b);
        }
    }

    static void promise22EachByteBehindAWord() {
        for (String word : WORDS) {
            dueRules(fault(word.length()), word);
            for (char b = 0; b < 256; b++) {
                boolean goesOn = b == '<' || b == '=' || b == '>';
                dueRules(fault(word.length() + (goesOn ? 1 : 0)), word + b);
                dueRules(goesOn ? 1 : fault(word.length()), word + b + "0");
            }
        }
    }

    static void promise22EachByteOfTheNumber() {
        for (char b = 0; b < 256; b++) {
            boolean digit = b >= '0' && b <= '9';
            dueRules(digit ? 1 : fault(4), "age<" + b);
            // behind 0 only ; can be, which then ends too early
            dueRules(b == ';' ? fault(6) : fault(5), "age<0" + b);
            dueRules(digit ? 1 : b == ';' ? fault(6) : fault(5), "age<9" + b);
            dueRules(b == ';' ? fault(7) : fault(6), "age<99" + b);
        }
    }

    static void promise22EachNumber() {
        for (int n = 0; n <= 999; n++) {
            dueRules(n <= 99 ? 1 : fault(7), "rank=" + n);
            dueRules(fault(6), "rank=0" + n);
        }
    }

    static void promise22NoBlanksAndNoSigns() {
        dueRules(fault(0), " age<1");
        dueRules(fault(5), "age<1 ");
        dueRules(fault(4), "age<-1");
        dueRules(fault(4), "age<+1");
        dueRules(fault(4), "age<=1");
        dueRules(fault(6), "age<1; rank<1");
        dueRules(fault(0), "AGE<1");
        dueRules(fault(0), ";");
        dueRules(fault(6), "age<1;;age<1");
    }

    static void promise22FaultLeavesTheRules() {
        for (String text : new String[] {"", "x", "age>", "season=3;", "season=3;x", "season=3;age=100"}) {
            RobeHouse h = robesIn(0);
            tell(h, 1);
            CHECK.due("rules", 1, Tapes.rules(h, "season=2", 0));
            Tapes.feed(h, text);
            CHECK.yes("a fault", h.rules(0) <= -10);
            due(0, h, "count", 4);
            for (int season = 0; season < 4; season++) {
                due(season == 2 ? 1 : 0, h, "may", 0, 0, season);
            }
        }
    }

    static void promise22NewRulesTakeThePlaceOfOldOnes() {
        RobeHouse h = robesIn(0);
        tell(h, 1);
        CHECK.due("rules", 6, Tapes.rules(h, "season=2;age=0;rank=0;colour=0;lined=0;sleeve=1", 0));
        due(1, h, "may", 0, 0, 2);
        due(0, h, "may", 0, 0, 1);
        CHECK.due("rules", 1, Tapes.rules(h, "season<2", 0));
        due(0, h, "may", 0, 0, 2);
        due(1, h, "may", 0, 0, 1);
    }

    // ---- promise 23: chest

    static void promise23RobeIsNone() {
        robeIsNone(NO_SUCH, "chest", 0, 0);
        robeIsNone(NO_SUCH, "chest", 0, -1);
    }

    static void promise23ChestIsNone() {
        outside(Houses.RICH, NO_SUCH, 1, -1, 3, "chest", 0, 0);
        outside(Houses.RICH, NO_SUCH, 1, -1, 3, "chest", 4, 0);
    }

    static void promise23NoSuchComesAheadOfState() {
        outside(Houses.RICH, NO_SUCH, 1, -1, 3, "chest", 2, 0);
    }

    static void promise23Lent() {
        for (int chest = -1; chest <= 3; chest++) {
            refused(Houses.RICH, STATE, "chest", 2, chest);
        }
    }

    static void promise23FromEachToEach() {
        for (int from = -1; from <= 3; from++) {
            for (int to = -1; to <= 3; to++) {
                RobeHouse h = robesIn(-1);
                due(NONE, h, "chest", 0, from);
                due(from, h, "chest", 0, to);
                due(to, h, "robe", 0, 7);
            }
        }
    }

    static void promise23AllRobesInOneChest() {
        RobeHouse h = robesIn(new int[30]);
        for (int robe = 0; robe < 30; robe++) {
            due(0, h, "robe", robe, 7);
            due(0, h, "chest", robe, 3);
        }
        due(3, h, "robe", 29, 7);
    }

    // ---- promise 24: person

    static void promise24PersonIsNone() {
        outside(Houses.RICH, NONE, 0, 0, 9, "person", 0, 50, 5);
        outside(Houses.NEW, NONE, 0, 0, 9, "person", 0, 50, 5);
    }

    static void promise24NoneComesAheadOfBad() {
        outside(Houses.RICH, NONE, 0, 0, 9, "person", 0, 100, 5);
        outside(Houses.RICH, NONE, 0, 0, 9, "person", 0, 50, 10);
    }

    static void promise24AgeIsBad() {
        outside(Houses.RICH, BAD, 1, 0, 99, "person", 0, 0, 9);
        outside(Houses.RICH, BAD, 1, 0, 99, "person", 1, 0, 9);
    }

    static void promise24RankIsBad() {
        outside(Houses.RICH, BAD, 2, 0, 9, "person", 0, 99, 0);
        outside(Houses.RICH, BAD, 2, 0, 9, "person", 1, 99, 0);
    }

    static void promise24EachOneIsToldOnce() {
        RobeHouse h = new RobeHouse();
        for (int person = 0; person < 10; person++) {
            due(BAD, h, "person", person, 100, 0);
            due(1, h, "person", person, 99, 9);
            due(0, h, "person", person, 0, 0);
            due(BAD, h, "person", person, 0, 10);
            due(0, h, "person", person, 0, 0);
        }
    }

    static void promise24EachAgeAndRank() {
        RobeHouse h = robesIn(0, 1);
        due(1, h, "person", 9, 0, 0);
        CHECK.due("rules", 1, Tapes.rules(h, "age>49", 0));
        CHECK.due("rules", 1, Tapes.rules(h, "rank>4", 1));
        for (int n = 0; n < 100; n++) {
            due(0, h, "person", 9, n, n % 10);
            due(n > 49 ? 1 : 0, h, "may", 0, 9, 0);
            due(n % 10 > 4 ? 1 : 0, h, "may", 1, 9, 0);
        }
    }

    static void promise24OneWhoHasARobeCanBeToldAnew() {
        RobeHouse h = Houses.RICH.make();
        due(0, h, "person", 4, 0, 9);
        due(4, h, "robe", 2, 8);
        due(4, h, "back", 2, 0);
    }

    // ---- promise 25: may

    static void promise25RobeIsNone() {
        robeIsNone(NONE, "may", 0, 0, 0);
    }

    static void promise25PersonIsNone() {
        personIsNone("may", 0, 0, 0);
    }

    static void promise25NoneComesAheadOfBadAndState() {
        refused(Houses.RICH, NONE, "may", 3, 0, 4);
        refused(Houses.RICH, NONE, "may", 0, 1, -1);
        refused(Houses.RICH, NONE, "may", 2, 1, 0);
        refused(Houses.RICH, NONE, "may", 4, 10, 0);
    }

    static void promise25SeasonIsBad() {
        outside(Houses.RICH, BAD, 2, 0, 3, "may", 0, 0, 0);
    }

    static void promise25BadComesAheadOfState() {
        outside(Houses.RICH, BAD, 2, 0, 3, "may", 2, 0, 0);
        outside(Houses.RICH, BAD, 2, 0, 3, "may", 4, 0, 0);
    }

    static void promise25InNoChestOrLent() {
        for (int season = 0; season < 4; season++) {
            refused(Houses.RICH, STATE, "may", 4, 0, season);
            refused(Houses.RICH, STATE, "may", 2, 0, season);
            // nor by the one who has it
            refused(Houses.RICH, STATE, "may", 2, 4, season);
        }
    }

    static void promise25WithoutRulesAllMay() {
        RobeHouse h = robesIn(0, 1, 2, 3);
        h.person(0, 0, 0);
        h.person(9, 99, 9);
        for (int k = 0; k < 16; k++) {
            due(1, h, "may", k % 4, 0, k / 4);
            due(1, h, "may", k % 4, 9, k / 4);
        }
    }

    /** A robe of these in chest 0 and one of people: may by each clause about a word with a number near the value. */
    private static void clausesNear(int word, int value, RobeHouse h, int season) {
        for (int number = Math.max(0, value - 1); number <= Math.min(99, value + 1); number++) {
            for (char op : new char[] {'<', '=', '>'}) {
                String text = WORDS[word] + op + number;
                Tapes.rules(h, text, 0);
                boolean holds = op == '<' ? value < number : op == '=' ? value == number : value > number;
                CHECK.due("may by " + text + " for " + value, holds ? 1 : 0, h.may(0, 9, season));
            }
        }
    }

    private static RobeHouse oneRobe(int sleeve, int colour, int age, int rank) {
        RobeHouse h = new RobeHouse();
        h.measure(1, 1, 1);
        due(0, h, "sew", Tapes.bolt(h, "0".repeat(4 + 2 * sleeve), colour, 0), PLAIN, 0);
        h.chest(0, 0);
        h.person(9, age, rank);
        return h;
    }

    static void promise25ClausesOfSeason() {
        for (int season = 0; season < 4; season++) {
            clausesNear(0, season, oneRobe(1, 0, 0, 0), season);
        }
    }

    static void promise25ClausesOfAge() {
        for (int age : new int[] {0, 1, 9, 10, 11, 50, 98, 99}) {
            clausesNear(1, age, oneRobe(1, 0, age, 0), 0);
        }
    }

    static void promise25ClausesOfRank() {
        for (int rank = 0; rank <= 9; rank++) {
            clausesNear(2, rank, oneRobe(1, 0, 0, rank), 0);
        }
    }

    static void promise25ClausesOfColour() {
        for (int colour = 0; colour <= 9; colour++) {
            clausesNear(3, colour, oneRobe(1, colour, 0, 0), 0);
        }
    }

    static void promise25ClausesOfLined() {
        RobeHouse h = oneRobe(1, 0, 0, 0);
        clausesNear(4, 0, h, 0);
        due(0, h, "line", 0, Tapes.bolt(h, "000000", 9, 0));
        clausesNear(4, 1, h, 0);
        clausesNear(3, 0, h, 0);
        h.unline(0);
        clausesNear(4, 0, h, 0);
    }

    static void promise25ClausesOfSleeve() {
        for (int sleeve : new int[] {1, 2, 9, 10, 57, 58}) {
            clausesNear(5, sleeve, oneRobe(sleeve, 0, 0, 0), 0);
        }
    }

    static void promise25NumbersBeyondAllValues() {
        RobeHouse h = oneRobe(58, 9, 99, 9);
        for (String word : WORDS) {
            Tapes.rules(h, word + ">99", 0);
            due(0, h, "may", 0, 9, 3);
            Tapes.rules(h, word + "<0", 0);
            due(0, h, "may", 0, 9, 3);
            Tapes.rules(h, word + "=99", 0);
            due(word.equals("age") ? 1 : 0, h, "may", 0, 9, 3);
            Tapes.rules(h, word + "<99", 0);
            due(word.equals("age") ? 0 : 1, h, "may", 0, 9, 3);
        }
    }

    static void promise25EachOfSixClausesMustHold() {
        String[] holding = {"season=1", "age=30", "rank=4", "colour=3", "lined=0", "sleeve=2"};
        for (int broken = -1; broken < 6; broken++) {
            RobeHouse h = oneRobe(2, 3, 30, 4);
            String[] clauses = holding.clone();
            if (broken >= 0) {
                clauses[broken] = clauses[broken].replace('=', '>');
            }
            Tapes.feed(h, String.join(";", clauses));
            due(6, h, "rules", 0);
            due(broken < 0 ? 1 : 0, h, "may", 0, 9, 1);
        }
    }

    static void promise25OneWhoHasARobeMayWearAnother() {
        RobeHouse h = Houses.RICH.make();
        // person 4 has robe 2; STATE is told of the robe alone
        due(1, h, "may", 0, 4, 0);
    }

    // ---- promise 26: lend

    static void promise26RobeIsNone() {
        robeIsNone(NONE, "lend", 0, 0, 0);
    }

    static void promise26PersonIsNone() {
        personIsNone("lend", 0, 0, 0);
    }

    static void promise26NoneComesAheadOfBadAndState() {
        refused(Houses.RICH, NONE, "lend", 3, 0, 4);
        refused(Houses.RICH, NONE, "lend", 0, 1, -1);
        refused(Houses.RICH, NONE, "lend", 2, 1, 0);
        refused(Houses.RICH, NONE, "lend", 4, 10, 0);
        refused(Houses.RICH, NONE, "lend", 3, 4, 0);
    }

    static void promise26SeasonIsBad() {
        outside(Houses.RICH, BAD, 2, 0, 3, "lend", 0, 0, 0);
    }

    static void promise26BadComesAheadOfState() {
        outside(Houses.RICH, BAD, 2, 0, 3, "lend", 2, 0, 0);
        outside(Houses.RICH, BAD, 2, 0, 3, "lend", 4, 0, 0);
        refused(Houses.RICH, BAD, "lend", 0, 4, 4);
        refused(Houses.RICH, BAD, "lend", 0, 9, 4);
    }

    static void promise26InNoChest() {
        for (int season = 0; season < 4; season++) {
            refused(Houses.RICH, STATE, "lend", 4, 0, season);
        }
    }

    static void promise26Lent() {
        refused(Houses.RICH, STATE, "lend", 2, 0, 0);
        refused(Houses.RICH, STATE, "lend", 2, 4, 0);
    }

    static void promise26OneHasARobe() {
        refused(Houses.RICH, STATE, "lend", 0, 4, 0);
        refused(Houses.RICH, STATE, "lend", 1, 4, 2);
    }

    static void promise26MayNotWearIt() {
        refused(Houses.RICH, STATE, "lend", 0, 9, 0);
        refused(Houses.RICH, STATE, "lend", 1, 0, 1);
        refused(Houses.RICH, STATE, "lend", 1, 9, 3);
        due(0, Houses.RICH.make(), "lend", 1, 0, 2);
        due(0, Houses.RICH.make(), "lend", 1, 9, 2);
    }

    static void promise26EachSeason() {
        for (int season = 0; season < 4; season++) {
            RobeHouse h = robesIn(0);
            tell(h, 1);
            due(0, h, "lend", 0, 0, season);
            due(1, h, "count", 2);
        }
    }

    static void promise26AllPeopleHaveOne() {
        RobeHouse h = robesIn(0, 1, 2, 3, 0, 1, 2, 3, 0, 1, 2);
        tell(h, 10);
        for (int person = 0; person < 10; person++) {
            due(0, h, "lend", 9 - person, person, 0);
            due(person + 1, h, "count", 2);
        }
        for (int person = 0; person < 10; person++) {
            due(STATE, h, "lend", 10, person, 0);
            due(person, h, "robe", 9 - person, 8);
        }
        due(10, h, "count", 2);
    }

    static void promise26BroughtBackItCanBeLentAgain() {
        RobeHouse h = robesIn(0, 0);
        tell(h, 2);
        due(0, h, "lend", 0, 0, 0);
        due(STATE, h, "lend", 1, 0, 0);
        due(0, h, "back", 0, 0);
        due(0, h, "lend", 1, 0, 0);
        due(0, h, "lend", 0, 1, 0);
        due(2, h, "count", 2);
    }

    // ---- promise 27: back

    static void promise27RobeIsNone() {
        robeIsNone(NONE, "back", 0, 0);
    }

    static void promise27NoneComesAheadOfBad() {
        outside(Houses.RICH, NONE, 1, 0, 9, "back", 3, 0);
        refused(Houses.RICH, NONE, "back", 5, 10);
    }

    static void promise27NIsBad() {
        outside(Houses.RICH, BAD, 1, 0, 9, "back", 2, 0);
    }

    static void promise27BadComesAheadOfState() {
        outside(Houses.RICH, BAD, 1, 0, 9, "back", 0, 0);
    }

    static void promise27NotLent() {
        for (int n = 0; n <= 9; n++) {
            refused(Houses.RICH, STATE, "back", 0, n);
        }
        refused(Houses.RICH, STATE, "back", 1, 0);
        refused(Houses.RICH, STATE, "back", 4, 0);
    }

    static void promise27WornFrom0To9Times() {
        for (int n = 0; n <= 9; n++) {
            RobeHouse h = robesIn(2);
            tell(h, 10);
            due(0, h, "lend", 0, 9, 0);
            due(9, h, "back", 0, n);
            due(n, h, "piece", 0, 5, 0, 2);
            due(0, h, "piece", 0, 4, 0, 2);
            due(2, h, "robe", 0, 7);
            due(NONE, h, "robe", 0, 8);
            due(0, h, "count", 2);
            due(STATE, h, "back", 0, 0);
        }
    }

    static void promise27Worn9AtMost() {
        RobeHouse h = robesIn(0);
        tell(h, 1);
        h.wear(0);
        due(0, h, "lend", 0, 0, 0);
        due(0, h, "back", 0, 9);
        due(9, h, "piece", 0, 5, 0, 2);
        due(0, h, "lend", 0, 0, 0);
        due(0, h, "back", 0, 9);
        due(9, h, "piece", 0, 5, 0, 2);
        due(0, h, "wear", 0);
    }

    static void promise27RulesDoNotMatter() {
        RobeHouse h = Houses.RICH.make();
        h.person(4, 0, 9);
        due(4, h, "back", 2, 0);
        due(0, h, "may", 2, 4, 0);
    }

    // ---- promise 28: clothe

    static void promise28SeasonIsBad() {
        outside(Houses.RICH, BAD, 0, 0, 3, "clothe", 0);
        outside(Houses.NEW, BAD, 0, 0, 3, "clothe", 0);
    }

    static void promise28NobodyOrNothing() {
        for (int season = 0; season < 4; season++) {
            RobeHouse h = robesIn(0, 1);
            due(0, h, "clothe", season);
            getsAll(h);
            h = new RobeHouse();
            tell(h, 10);
            due(0, h, "clothe", season);
            getsAll(h);
            h = robesIn(-1, -1);
            tell(h, 10);
            due(0, h, "clothe", season);
            getsAll(h);
        }
    }

    static void promise28OneOfEach() {
        RobeHouse h = robesIn(3);
        h.person(9, 0, 0);
        due(1, h, "clothe", 0);
        getsAll(h, NONE, NONE, NONE, NONE, NONE, NONE, NONE, NONE, NONE, 0);
    }

    static void promise28AsManyRobesAsPeople() {
        for (int robes = 8; robes <= 12; robes++) {
            RobeHouse h = robesIn(new int[robes]);
            tell(h, 10);
            due(Math.min(robes, 10), h, "clothe", 0);
            for (int person = 0; person < 10; person++) {
                due(person < robes ? person : NONE, h, "gets", person);
            }
        }
    }

    static void promise28AllPeopleAndAllRobes() {
        RobeHouse h = robesIn(new int[30]);
        tell(h, 10);
        due(10, h, "clothe", 3);
        getsAll(h, 0, 1, 2, 3, 4, 5, 6, 7, 8, 9);
        for (int robe = 0; robe < 20; robe++) {
            h.chest(robe, -1);
        }
        due(10, h, "clothe", 3);
        getsAll(h, 20, 21, 22, 23, 24, 25, 26, 27, 28, 29);
    }

    static void promise28AsManyAsCanBe() {
        // robe 0 is for both, robe 1 for person 0 alone
        RobeHouse h = robesIn(0, 1);
        tell(h, 2);
        Tapes.rules(h, "rank<2", 0);
        Tapes.rules(h, "rank=0", 1);
        due(2, h, "clothe", 0);
        getsAll(h, 1, 0);
    }

    static void promise28MovesAlongAllChests() {
        // chest k is for ranks k and k + 1: the last one can have chest 3 alone if the first leaves it
        RobeHouse h = robesIn(3, 2, 1, 0);
        h.person(0, 0, 4);
        h.person(1, 0, 3);
        h.person(2, 0, 2);
        h.person(3, 0, 1);
        Tapes.rules(h, "rank<2", 0);
        Tapes.rules(h, "rank>0;rank<3", 1);
        Tapes.rules(h, "rank>1;rank<4", 2);
        Tapes.rules(h, "rank>2", 3);
        due(4, h, "clothe", 0);
        getsAll(h, 0, 1, 2, 3);
        // one of rank 0 needs chest 0, so all others move on; one of rank 4 more finds none
        h.person(4, 0, 0);
        due(4, h, "clothe", 0);
        getsAll(h, 0, 1, 2, 3, NONE);
    }

    static void promise28TheLongestMove() {
        // all may wear robes 0 .. 8, only one of them robe 9: for the tenth to have one all others may have to move
        for (int mover = 0; mover < 10; mover++) {
            RobeHouse h = robesIn(0, 0, 0, 0, 0, 0, 0, 0, 0, 1);
            tell(h, 10);
            CHECK.due("rules", 1, Tapes.rules(h, "rank=" + mover, 1));
            due(10, h, "clothe", 0);
            for (int person = 0; person < 10; person++) {
                due(person == mover ? 9 : person < mover ? person : person - 1, h, "gets", person);
            }
        }
    }

    static void promise28TheLeastOfPeopleWithTheLeastRobe() {
        RobeHouse h = robesIn(1, 0, 1, 0);
        tell(h, 4);
        Tapes.rules(h, "rank>1", 1);
        due(4, h, "clothe", 0);
        getsAll(h, 1, 3, 0, 2);
        // without persons 2 and 3 the least robes go first
        Tapes.rules(h, "rank<9", 1);
        due(4, h, "clothe", 0);
        getsAll(h, 0, 1, 2, 3);
    }

    static void promise28LeftOutOnlyIfNoneCanBeHad() {
        RobeHouse h = robesIn(0);
        tell(h, 10);
        due(1, h, "clothe", 0);
        getsAll(h, 0);
        // person 0 may not, so the next one has it
        Tapes.rules(h, "rank>0", 0);
        due(1, h, "clothe", 0);
        getsAll(h, NONE, 0);
        Tapes.rules(h, "rank>8", 0);
        due(1, h, "clothe", 0);
        getsAll(h, NONE, NONE, NONE, NONE, NONE, NONE, NONE, NONE, NONE, 0);
    }

    static void promise28ThoseWhoHaveOneAreLeftOut() {
        RobeHouse h = robesIn(0, 0, 0, 0, 0, 0, 0, 0, 0, 0, 0);
        tell(h, 10);
        for (int person = 0; person < 10; person++) {
            due(10 - person, h, "clothe", 0);
            // those ahead have theirs, and the least robe goes to the least that has none
            due(NONE, h, "gets", person - 1);
            due(person, h, "gets", person);
            due(0, h, "lend", person, person, 0);
        }
        due(0, h, "clothe", 0);
        getsAll(h);
    }

    static void promise28NothingIsLent() {
        RobeHouse h = robesIn(0, 0);
        tell(h, 2);
        due(2, h, "clothe", 0);
        due(0, h, "count", 2);
        due(NONE, h, "robe", 0, 8);
        due(1, h, "may", 0, 1, 0);
        due(2, h, "clothe", 0);
    }

    static void promise28EachSeasonByRules() {
        RobeHouse h = robesIn(0, 1, 2, 3);
        tell(h, 10);
        for (int chest = 0; chest < 4; chest++) {
            Tapes.rules(h, "season=" + chest, chest);
        }
        for (int season = 0; season < 4; season++) {
            due(1, h, "clothe", season);
            getsAll(h, season);
        }
    }

    // ---- promise 29: gets

    static void promise29PersonIsNone() {
        outside(Houses.RICH, NONE, 0, 0, 9, "gets", 0);
        outside(Houses.ALL_MADE, NONE, 0, 0, 9, "gets", 0);
    }

    static void promise29BeforeAnyClothe() {
        RobeHouse h = robesIn(0);
        tell(h, 10);
        getsAll(h);
        due(BAD, h, "clothe", 4);
        getsAll(h);
    }

    static void promise29TheLatestNotRefused() {
        RobeHouse h = robesIn(0, 1);
        tell(h, 2);
        Tapes.rules(h, "season=0", 0);
        due(2, h, "clothe", 0);
        getsAll(h, 0, 1);
        for (int season : Edges.outside(0, 3)) {
            due(BAD, h, "clothe", season);
        }
        getsAll(h, 0, 1);
        due(1, h, "clothe", 1);
        getsAll(h, 1, NONE);
    }

    static void promise29StaysWhenAllElseChanges() {
        RobeHouse h = robesIn(0, 0);
        tell(h, 2);
        due(2, h, "clothe", 0);
        due(0, h, "lend", 0, 1, 0);
        due(2, h, "unpick", 1, PLAIN, 0);
        due(0, h, "person", 0, 99, 9);
        getsAll(h, 0, 1);
    }

    static void promise29FirstAndLast() {
        RobeHouse h = robesIn(new int[30]);
        h.person(0, 0, 0);
        h.person(9, 0, 0);
        for (int robe = 0; robe < 29; robe++) {
            h.chest(robe, robe == 0 ? 0 : -1);
        }
        due(2, h, "clothe", 0);
        getsAll(h, 0, NONE, NONE, NONE, NONE, NONE, NONE, NONE, NONE, 29);
    }

    // ---- promise 30: count

    static void promise30WhatIsNone() {
        outside(Houses.RICH, NONE, 0, 0, 5, "count", 0);
        outside(Houses.NEW, NONE, 0, 0, 5, "count", 0);
        outside(Houses.ALL_MADE, NONE, 0, 0, 5, "count", 0);
    }

    private static void counts(RobeHouse h, int... want) {
        for (int what = 0; what < want.length; what++) {
            due(want[what], h, "count", what);
        }
    }

    static void promise30EachWhat() {
        counts(new RobeHouse(), 0, 0, 0, 0, 0, 0);
        // bolts of 2, 10, 9, 10, 8 rows; robes of 8, 10, 8, 8 rows, linings of 10 and 8
        counts(Houses.RICH.make(), 5, 4, 1, 39 + 34 + 18, 3, 11);
        counts(Houses.FULL_TAPE.make(), 5, 4, 1, 91, 130, 11);
        // the tape of RICH became a bolt of 2 rows, 28 more have one
        counts(Houses.ALL_BOLTS.make(), 34, 4, 1, 91 + 2 + 28, 2, 40);
        // 25 robes of 8 rows more
        counts(Houses.ALL_ROBES.make(), 6, 29, 1, 91 + 2 + 200, 2, 37);
        // and behind that a tape that is read empty, and 3 bolts of one row
        counts(Houses.ALL_MADE.make(), 9, 29, 1, 91 + 2 + 200 + 3, 2, 40);
    }

    /** As many as 512 calls can make. */
    static void promise30RowsOfManyGreatBolts() {
        RobeHouse h = new RobeHouse();
        h.measure(30, 29, 29);
        for (int bolt = 0; bolt < 28; bolt++) {
            Tapes.feed(h, "7".repeat(120));
            due(bolt, h, "bolt", 0, 0);
        }
        counts(h, 28, 0, 0, 28 * 120, 0, 28);
        for (int robe = 0; robe < 14; robe++) {
            due(robe, h, "sew", robe, PLAIN, 0);
            due(0, h, "line", robe, 14 + robe);
        }
        counts(h, 0, 14, 0, 28 * 120, 0, 28);
    }

    static void promise30NoClothIsCutAway() {
        RobeHouse h = Houses.RICH.make();
        h.chest(0, -1);
        h.back(2, 9);
        h.unline(1);
        h.unline(4);
        for (int robe = 0; robe < 5; robe++) {
            h.unpick(robe, PLAIN, 0);
        }
        counts(h, 11, 0, 0, 91, 3, 17);
    }

    static void promise30TapeFrom0To130() {
        RobeHouse h = new RobeHouse();
        for (int n = 0; n < 130; n++) {
            due(n, h, "count", 4);
            due(n + 1, h, "feed", '1', 1);
        }
        due(130, h, "count", 4);
        due(-130, h, "bolt", 0, 0);
        due(0, h, "count", 4);
    }
}

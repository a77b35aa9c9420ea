/**
 * The document from its first line to its last: the sentences that the boundary tests don't name. Each due answer is worked out
 * from the document's words; how, stands beside it.
 */
public final class SentenceTests {
    private static final long NO_SUCH = Check.NO_SUCH;
    private static final long ILLEGAL = Check.ILLEGAL;

    /**
     * KIND 0 buys the SET (6250 of 5250, 3250, 3000, 6250), KIND 1 a YOUNG one (25000 of 22000, 21000, 13000, 24000, 25000), KIND 2
     * pays at the DOOR (2000 of 2000, -1000, 1000, 2000). They come by 500, 250, 0; 750, 750, 750 (of habit); 1000, 0, 0 thousandths.
     */
    private static final String STORY = "chairs 2;costs 20;evening 0 6;evening 1 2 rain 500;evening 2 3;"
            + "people 2 comes 500 thinks 1000 wet 1000 falls 100 worth 10 5 0 0;"
            + "people 1 comes 750 thinks 1000 habit 1000 worth 20 10 0 0 young;people 2 comes 1000 worth 8 0 0 0;"
            + "seats 1 adds 8;seats 5 adds 3;year 9;ten 1 7;set 6 of 0 1;cheap 5;";

    /** Its first DRAWS: 472 155 119 471 102 534, 197 146 165 265 957 561, 711 478 25 427 (395 of habit) 555 232. */
    private static final int SEED = 9;

    private static final Check CHECK = new Check();

    private SentenceTests() {
    }

    public static void main(String[] args) {
        whatItIs();
        whatItFinds();
        theRun();
        aHall();
        tickets();
        chanceAndGain();
        stayAndGo();
        use();
        fullAndStanding();
        prices();
        overAndAgain();
        years();
        order();
        owed();
        runs();
        promises();
        promisesOfWhatIsKept();
        CHECK.end();
    }

    private static SeatHall hall(String text) {
        return Check.hall(text);
    }

    private static void says(String place, String words) {
        CHECK.says(place, words);
    }

    // ---- what it is ----

    private static void whatItIs() {
        SeatHall x = hall(STORY);
        says("What it is", "For the year or by the evening: a hall with so many chairs,");
        CHECK.is("chairs", 2, () -> x.count(0));
        CHECK.row("for the year or by the evening", new long[] {3, 4, 0}, i -> (long) x.buys(i));
        says("What it is", "evenings of sorts, dear ones and dull ones;");
        CHECK.row("of sorts", new long[] {0, 1, 2, NO_SUCH}, i -> (long) x.evening(i, 0));
        CHECK.row("dear and dull", new long[] {6, 2, 3}, i -> (long) x.evening(i, 1));
        says("What it is", "people by sorts, what an evening is worth to them and less with each they have had,");
        CHECK.row("by sorts", new long[] {2, 1, 2, NO_SUCH}, i -> (long) x.kind(i, 0));
        CHECK.row("worth", new long[] {10, 5, 0, 0}, i -> (long) x.kind(0, 6 + i));
        // Ten coins, and five less 500 by a half: a year of 9 is good for 3250.
        CHECK.is("less with each", 10000 + 2250 - 9000, () -> x.good(0, 1));
        says("What it is", "how likely they can come, and in the rain, how likely they think;");
        CHECK.row("can come", new long[] {500000, 250000, 500000}, i -> (long) x.chance(0, i, false));
        CHECK.row("think", new long[] {1000000, 500000, 1000000}, i -> (long) x.chance(0, i, true));
        says("What it is", "tickets for the year, for some evenings, for one at the door, for a set, for the young;");
        CHECK.is("all of them", 31, () -> x.count(6));
        CHECK.row("their prices", new long[] {-1, 9, 7, 6, 5, NO_SUCH}, i -> (long) x.price(i));
        says("What it is", "what each sort buys, by what it thinks, from the last evening back;");
        CHECK.row("good to the first", new long[] {5250, 3250, 3000, 6250, 7250}, i -> (long) x.good(0, i));
        CHECK.row("good to the young", new long[] {22000, 21000, 13000, 24000, 25000}, i -> (long) x.good(1, i));
        CHECK.row("good to the third", new long[] {2000, -1000, 1000, 2000, 3000}, i -> (long) x.good(2, i));
        // The dear evening at the door gains four, the next 3000 by a half, or 2500 by a half of who was there.
        CHECK.row("goes, from the last evening back", new long[] {1, 1, 0}, i -> Check.bit(x.goes(0, i, 0, 0)));
        says("What it is", "how full it is, how likely people stand, what it earns;");
        CHECK.row("full", new long[] {3750000, 1250000, 750000}, i -> (long) x.full(i, 0));
        // Two are sure: more than two come but for a quarter of a quarter; a quarter, a quarter and three quarters; one at most.
        CHECK.row("stand", new long[] {937500000, 46875000, 0}, i -> (long) x.full(i, 1));
        CHECK.is("earns", 2 * 6000 + 5000 + 2 * 6000, x::earns);
    }

    private static void whatItFinds() {
        SeatHall x = hall(STORY);
        says("What it is", "prices of most coin, of fullest, of the least that lives;");
        found(x, 3, 6, 29000, 6, 5750000, 4);
        says("What it is", "year seats over the chairs;");
        // Of three at a half all come by an eighth, of four more than two by five sixteenths.
        CHECK.is("three seats for two chairs", 3, () -> x.over(0, 125000000));
        CHECK.is("by one billionth less", 2, () -> x.over(0, 124999999));
        says("What it is", "seats handed back and sold again;");
        CHECK.row("a quarter of a seat, each for four coins", new long[] {250000, 1000, 1000000, 250000}, i -> (long) x.again(0, 2, i));
        says("What it is", "two evenings in one book;");
        // For nothing each buys it; of the first and the last the young one doesn't; of the last two nobody does.
        CHECK.is("for nothing", 7000 + 5000 + 12000, () -> x.pair(0));
        CHECK.row("the last two", new long[] {1, 2}, i -> (long) x.paired(i));
        CHECK.is("for six", 29000, () -> x.pair(6));
        CHECK.row("the first two", new long[] {0, 1}, i -> (long) x.paired(i));
        says("What it is", "who thinks he'll come oftener, who comes since he paid;");
        CHECK.row("thinks", new long[] {1500000000, 2000000000, 1000000000}, i -> x.often(i, 2));
        CHECK.row("comes", new long[] {750000000, 2250000000L, 1000000000}, i -> x.often(i, 0));
        CHECK.row("since he paid", new long[] {0, 750000000, 0}, i -> x.often(i, 1));
        CHECK.row("what he pays for each", new long[] {8000, 2222, -1}, i -> x.often(i, 3));
        // By the chance the young one's year is worth 7500 and 15000, the door 6000 and 10500.
        CHECK.is("what would be kinder", 6, () -> x.often(1, 4));
        says("What it is", "the young in years;");
        CHECK.row("by two years and all the young", new long[] {30000, 59000, 2, 0, 3, NO_SUCH}, i -> x.years(2, 1000, i));
        says("What it is", "which seats for which tickets;");
        // Each takes a seat of 3, the first one of 8: 5 more by 2250.
        CHECK.is("the young one first", 17250 + 11250, x::order);
        CHECK.row("then the door, then the set", new long[] {4, 0, 3, NO_SUCH}, i -> (long) x.ordered(i));
        says("What it is", "a year broken off;");
        CHECK.row("half a set, two thirds of a year, nothing of the door", new long[] {3000, 3333, 0}, i -> (long) x.owed(i, 0));
        CHECK.row("a third of a year", new long[] {0, 1666, 0}, i -> (long) x.owed(i, 1));
    }

    private static void theRun() {
        says("What it is", "years run by a seed, evening by evening.");
        SeatHall x = hall(STORY);
        x.begin(SEED);
        CHECK.row("evening by evening", new long[] {1, 2, 3, -1}, i -> (long) x.on(1));
        CHECK.row("the first: 472 dry; 155, 119; 471; 102, 534", new long[] {5, 3, 12, 0, 2, 1, 2}, i -> (long) x.seen(0, i));
        CHECK.row("the second: 197 wet; 146, 165; 265; 957, 561 don't go", new long[] {1, 0, 0, 1, 0, 1, 0}, i -> (long) x.seen(1, i));
        CHECK.row("the third: 711 dry; 478, 25 don't go; 427, 395 of habit; 555, 232 don't go", new long[] {1, 0, 0, 0, 0, 1, 0},
                i -> (long) x.seen(2, i));
        says("An object", "An object is used for at most 512 calls after it has been made");
        SeatHall y = hall(STORY);
        long sum = 0;
        for (int i = 0; i < 480; i++) {
            sum += y.earns();
        }
        long all = sum;
        CHECK.is("it answers alike to the last", 480 * 29000, () -> all);
    }

    // ---- section 1 ----

    private static void aHall() {
        says("Terms 1", "A HALL has CHAIRS (1 to 400; 1 at first), COSTS (0 to 9999; 0), EVENINGS 0, 1 .. (at most 16): a SORT (0 to 3), "
                + "a PRICE at the door (0 to 999), RAIN (0 to 1000); PEOPLE by KINDS 0, 1 .. (at most 6): MANY (0 to 60), COMES, THINKS, WET, "
                + "HABIT (0 to 1000 each), FALLS (0 to 500), WORTH of each SORT of EVENINGS (0 to 999), YOUNG or not; SEATS in ROWS 0, 1 .. "
                + "(at most 4): how many (1 to 400), ADDS (0 to 99).");
        SeatHall x = hall(STORY);
        CHECK.row("of it", new long[] {2, 20, 3, 3, 5, 2, 31, 0, 0, 0, NO_SUCH}, i -> (long) x.count(i));
        long[][] evenings = {{0, 6, 0, 1, NO_SUCH}, {1, 2, 500, 1, NO_SUCH}, {2, 3, 0, 0, NO_SUCH}};
        long[][] kinds = {{2, 500, 1000, 1000, 0, 100, 10, 5, 0, 0, 0, NO_SUCH}, {1, 750, 1000, 0, 1000, 0, 20, 10, 0, 0, 1, NO_SUCH},
            {2, 1000, 1000, 0, 0, 0, 8, 0, 0, 0, 0, NO_SUCH}};
        for (int i = 0; i < 3; i++) {
            int at = i;
            CHECK.row("of EVENING " + i, evenings[i], what -> (long) x.evening(at, what));
            CHECK.row("of KIND " + i, kinds[i], what -> (long) x.kind(at, what));
        }
    }

    private static void tickets() {
        says("Terms 1", "TICKETS: 0 DOOR (there always is), 1 YEAR, 2 TEN, 3 SET, 4 YOUNG: those that are told have a PRICE (0 to 9999); a TEN is for "
                + "T EVENINGS (1 to 12), a SET for told EVENINGS (one at least).");
        String[] lines = {"", "year 21;", "ten 3 22;", "set 23 of 0;", "cheap 24;"};
        for (int i = 0; i < 5; i++) {
            int told = i;
            SeatHall x = hall("evening 0 0;" + lines[i]);
            CHECK.is("bits of [" + lines[i] + "]", 1 | 1 << i, () -> x.count(6));
            CHECK.row("prices of [" + lines[i] + "]", new long[] {-1, i == 1 ? 21 : -1, i == 2 ? 22 : -1, i == 3 ? 23 : -1, i == 4 ? 24 : -1},
                    ticket -> (long) x.price(ticket));
            CHECK.is("of the SET is the one of which it is told", told == 3 ? 1 : 0, () -> x.evening(0, 3));
        }
    }

    // ---- section 2 ----

    private static void chanceAndGain() {
        says("Terms 2", "CHANCE of a KIND on an EVENING, in millionths: COMES by (1,000,000 less RAIN by WET), by 1000, cut down; THOUGHT: THINKS in "
                + "place of COMES.");
        SeatHall x = hall("evening 0 0;evening 0 0 rain 250;people 1 comes 800 thinks 400 wet 500 worth 1 1 1 1;people 1 comes 600 worth 1 1 1 1;");
        CHECK.row("of the first", new long[] {800000, 700000}, i -> (long) x.chance(0, i, false));
        CHECK.row("its THOUGHT", new long[] {400000, 350000}, i -> (long) x.chance(0, i, true));
        CHECK.row("of the second", new long[] {600000, 600000}, i -> (long) x.chance(1, i, false));
        CHECK.row("its THOUGHT, too", new long[] {600000, 600000}, i -> (long) x.chance(1, i, true));
        says("Terms 2", "GAIN of a KIND that has had n EVENINGS: its WORTH of the SORT by (1000 less FALLS by n, 0 at least): thousandths of a coin.");
        SeatHall y = hall("evening 0 0;evening 1 0;evening 0 0;people 1 comes 1000 falls 100 worth 10 7 0 0;year 0;");
        CHECK.is("ten, nine tenths of seven, eight tenths of ten", 10000 + 6300 + 8000, () -> y.good(0, 1));
    }

    private static void stayAndGo() {
        says("Terms 2", "PLAN with a TICKET: VALUE of an EVENING, with k left and n had: 0 behind the last EVENING. STAY: the VALUE of the next EVENING, "
                + "with k and n; GO: the GAIN (at the DOOR less 1000 by PRICE) and the VALUE of the next one with n and 1, of a TEN k less 1.");
        SeatHall x = hall("evening 0 3;evening 1 1;evening 2 2;people 1 comes 500 thinks 400 falls 100 worth 10 6 8 0;year 1;ten 2 2;set 1 of 0 2;cheap 3;");
        // Of the last one 3200, 2880, 2560 with 0, 1, 2 had; of the one ahead 3200 and 4 of 10 of (6000 and 2880 less 3200): 5472,
        // with 1 had 2880 and 4 of 10 of (5400 and 2560 less 2880): 4912; of the first 5472 and 4 of 10 of (10000 and 4912 less 5472).
        CHECK.is("a YEAR", 9248 - 1000, () -> x.good(0, 1));
        CHECK.is("a YOUNG one is worth as much", 9248 - 3000, () -> x.good(0, 4));
        // 2400, 2080, 1760; 2400 and 4 of 10 of (5000 and 2080 less 2400): 4272, 2080 and 4 of 10 of (4400 and 1760 less 2080): 3712;
        // 4272 and 4 of 10 of (7000 and 3712 less 4272).
        CHECK.is("the DOOR", 6848, () -> x.good(0, 0));
        // With 2 left 5472 as a YEAR; with 1 left and 1 had 2880 and 4 of 10 of (5400 less 2880): 3888;
        // 5472 and 4 of 10 of (10000 and 3888 less 5472), 3366.4 cut down.
        CHECK.is("a TEN of two", 5472 + 3366 - 2000, () -> x.good(0, 2));
        // 3200 and 4 of 10 of (10000 and 2880 less 3200).
        CHECK.is("a SET of the first and the last", 3200 + 3872 - 1000, () -> x.good(0, 3));
        says("Terms 2", "GOOD of a TICKET: the VALUE of EVENING 0 (k of a TEN T, of others 0; n 0), less 1000 by its PRICE.");
        SeatHall y = hall("evening 0 99;evening 0 99;evening 0 99;people 1 comes 1000 worth 10 0 0 0;ten 2 1;");
        CHECK.is("two of three", 20000 - 1000, () -> y.good(0, 2));
    }

    private static void use() {
        says("Terms 2", "USE of a KIND by the TICKET that it BUYS, in billionths: 1,000,000,000 at first with k and n as told. On each EVENING of each "
                + "case (k, n) that GOES CHANCE by 1,000,000 comes, cut down (n is 1 more then, of a TEN k 1 less);");
        String evenings = "evening 0 99;evening 1 99;evening 2 99;people 1 comes 500 worth 30 20 10 0;";
        SeatHall one = hall(evenings + "ten 1 0;");
        CHECK.row("a TEN of one: a half of those with one left", new long[] {500000000, 250000000, 125000000}, i -> (long) one.coming(0, i));
        SeatHall two = hall(evenings + "ten 2 0;");
        // Of 250, 500 and 250 with 2, 1 and 0 left three quarters can come a third time.
        CHECK.row("a TEN of two", new long[] {500000000, 500000000, 375000000}, i -> (long) two.coming(0, i));
        SeatHall falls = hall("evening 0 6;evening 0 6;evening 0 6;people 1 comes 500 falls 500 worth 10 0 0 0;");
        CHECK.row("who has had one gains five for six", new long[] {500000000, 250000000, 125000000}, i -> (long) falls.coming(0, i));
        says("Terms 2", "what is left stays as it is. COMING of a KIND: what comes on an EVENING; GONE: of all EVENINGS together.");
        CHECK.is("GONE of a TEN of one", 875000000, () -> one.often(0, 0));
        CHECK.is("GONE of a TEN of two", 1375000000, () -> two.often(0, 0));
        CHECK.is("GONE at the DOOR", 875000000, () -> falls.often(0, 0));
        // Of the first evening's thousand millions 400 millions are left with none had, who go on the next, and 600 with one, who don't.
        SeatHall rest = hall("evening 0 6;evening 0 6 rain 500;people 1 comes 600 wet 400 falls 500 worth 10 0 0 0;");
        CHECK.row("those that are left come by the next CHANCE", new long[] {600000000, 192000000}, i -> (long) rest.coming(0, i));
        SeatHall habit = hall("evening 0 99;evening 1 99;evening 0 99;people 1 comes 500 habit 200 falls 500 worth 10 0 0 0;year 0;");
        // A half; a tenth of all by habit (n is 1 more); then of 450, 500 and 50 with 0, 1 and 2 had those with 2 come by habit alone.
        CHECK.row("n is 1 more by habit", new long[] {500000000, 100000000, 475000000 + 5000000}, i -> (long) habit.coming(0, i));
        CHECK.is("SUNK", 105000000, () -> habit.often(0, 1));
    }

    // ---- section 3 ----

    private static void fullAndStanding() {
        says("Terms 3", "FULL of an EVENING: of all KINDS MANY by COMING by 1000, cut down, together (millionths of people).");
        SeatHall x = hall("evening 0 0;evening 1 0;people 3 comes 250 worth 1 1 0 0;people 5 comes 400 worth 1 0 0 0;");
        CHECK.row("of both", new long[] {750000 + 2000000, 750000}, i -> (long) x.full(i, 0));
        says("Terms 3", "STANDING: the chance, in billionths, that more than CHAIRS come: numbers by how many, a billion of none at first; for each of the "
                + "PEOPLE, KIND by KIND, with q being COMING by 1000, cut down: each number becomes it by (1,000,000 less q) and the one below it by q, "
                + "together, by 1,000,000, cut down; those above CHAIRS together.");
        // Millionths 31632, then 18022 twice: of none 968368000, 950916071, 933778661; of one 31632000, 48513856, 64776948; of two
        // 570071, 1434113; of three 10273. 18022 twice, then 31632: of two 324792, 1434114, by what is cut down.
        String first = "people 1 comes 32 wet 23 worth 9 0 0 0;";
        String others = "people 2 comes 27 wet 665 worth 9 0 0 0;";
        CHECK.is("KIND by KIND", 1434113 + 10273, () -> hall("evening 0 0 rain 500;" + first + others).full(0, 1));
        CHECK.is("the other one first", 1434114 + 10273, () -> hall("evening 0 0 rain 500;" + others + first).full(0, 1));
        CHECK.is("three of three alone", 10273, () -> hall("chairs 2;evening 0 0 rain 500;" + first + others).full(0, 1));
        for (int chairs = 1; chairs <= 5; chairs++) {
            int c = chairs;
            CHECK.is("above " + c, standing(c, 250000, 250000, 250000, 400000, 400000), () -> hall("chairs " + c
                    + ";evening 0 0;people 3 comes 250 worth 1 1 0 0;people 2 comes 400 worth 1 0 0 0;").full(0, 1));
        }
    }

    /** The document's words on STANDING: numbers by how many, one behind the other. */
    private static long standing(int chairs, long... chances) {
        long[] numbers = new long[chances.length + 1];
        numbers[0] = 1000000000L;
        for (long q : chances) {
            long[] before = numbers.clone();
            for (int i = 0; i < numbers.length; i++) {
                numbers[i] = (before[i] * (1000000 - q) + (i > 0 ? before[i - 1] * q : 0)) / 1000000;
            }
        }
        long sum = 0;
        for (int i = chairs + 1; i < numbers.length; i++) {
            sum += numbers[i];
        }
        return sum;
    }

    private static void found(SeatHall x, int ticket, long... want) {
        CHECK.is("looked at of TICKET " + ticket, 10, () -> x.prices(ticket, 0, 9, 1));
        CHECK.row("found of TICKET " + ticket, want, i -> x.found(i));
    }

    private static void prices() {
        says("Terms 3", "EARNS, in thousandths of a coin: of each KIND MANY by 1000 by the PRICE of its TICKET, and, at the DOOR, of each EVENING MANY by "
                + "COMING by PRICE, by 1,000,000, cut down. It LIVES, if that is 1000 by COSTS or more.");
        SeatHall x = hall(STORY);
        CHECK.is("two for six, one for five, two by the door's six", 12000 + 5000 + 12000, x::earns);
        says("Terms 3", "PRICES: that of a TICKET (1 to 4, one that is told) is from on, each step further, to at most to (at most 60 of them): that of most "
                + "EARNS, that of most FULL of all EVENINGS together, the least by which it LIVES; of like ones the least (all else as told).");
        // To 5 all buy the YEAR: five by it; for 6 the first two, as good as the SET and less by number, then none does.
        found(x, 1, 6, 29000, 0, 5750000, 4);
        // To 3 the first two buy the TEN, and come more seldom; to 5 the last two do.
        found(x, 2, 6, 29000, 4, 5750000, 4);
        // To 5 all buy the SET, and the young one doesn't come of habit; for 6 the first two do, then none does, who pay 7 at the door.
        found(x, 3, 6, 29000, 6, 5750000, 4);
        // To 5 the young one buys it; for 6 it buys the SET, as good and less by number, and doesn't come of habit.
        found(x, 4, 6, 30000, 0, 5750000, 0);
        CHECK.is("all stays as told", 29000, x::earns);
        CHECK.row("the prices, too", new long[] {-1, 9, 7, 6, 5}, i -> (long) x.price(i));
        CHECK.is("each step further, to at most to", 3, () -> x.prices(3, 1, 8, 3));
        CHECK.row("1, 4, 7", new long[] {7, 24000, 7, 5750000, 4}, i -> x.found(i));
    }

    private static void overAndAgain() {
        says("Terms 3", "OVER: were all of a KIND, so many (1 to 400), to have a YEAR and to USE it as its PLAN with a YEAR is: the greatest of these numbers "
                + "by which STANDING, of these alone, is on no EVENING more than a doubt (billionths).");
        SeatHall x = hall(STORY);
        // Of the young ones, at three quarters each, habit or not: three of three by 27 of 64, more than two of four by 189 of 256.
        CHECK.row("by 27 of 64", new long[] {2, 3, 3}, i -> (long) x.over(1, 421874999 + i));
        CHECK.row("by 189 of 256", new long[] {3, 4}, i -> (long) x.over(1, 738281249 + i));
        CHECK.is("those at the DOOR would have a YEAR", 2, () -> x.over(2, 999999999));
        CHECK.is("all of them", 400, () -> x.over(2, 1000000000));
        says("Terms 3", "AGAIN: with b coins (0 to 999) for a seat handed back: of an EVENING FREE are CHAIRS less the PEOPLE with a YEAR or a YOUNG one (0 at "
                + "least), by 1,000,000; TURNED away: FULL of KINDS at the DOOR less FREE, 0 at least; EMPTY: a million by those PEOPLE less FULL of "
                + "them; sold AGAIN is the lesser of both; what that brings: it by (PRICE less b), by 1000, cut down (towards less): thousandths of a coin.");
        CHECK.row("for 0", new long[] {250000, 1500, 1000000, 250000, NO_SUCH}, i -> (long) x.again(0, 0, i));
        CHECK.row("for 7", new long[] {250000, -250, 1000000, 250000}, i -> (long) x.again(0, 7, i));
        CHECK.row("nobody at the DOOR on the second", new long[] {0, 0, 0, 250000}, i -> (long) x.again(1, 999, i));
        says("Terms 3", "A PAIR for a PRICE: the two EVENINGS by which, were they the SET, of that PRICE (whatever SET is told), the hall EARNS most, of like "
                + "ones the first as a row.");
        // For 7 the first two evenings are as good as the DOOR to KIND 0, for 99 none buys any: 7000 at the DOOR, 5000, 12000.
        CHECK.is("for 7", 24000, () -> x.pair(7));
        CHECK.row("all are alike", new long[] {0, 1}, i -> (long) x.paired(i));
        // For 4 the first two: each buys it, five by 4; the first and the last: the first two of KIND 0 (6000 of 5250), the young one
        // stays young, the last two (4000 of 2000): 8000, 5000, 8000; the last two: nobody.
        CHECK.is("for 4", 24000, () -> x.pair(4));
        CHECK.row("the last two", new long[] {1, 2}, i -> (long) x.paired(i));
        says("Terms 3", "OFTEN: EVENINGS that a KIND thinks to come with its TICKET: as GONE by THOUGHT in place of CHANCE, without HABIT.");
        CHECK.row("by THOUGHT", new long[] {1500000000, 2000000000, 1000000000}, i -> x.often(i, 2));
    }

    private static void years() {
        says("Terms 3", "YEARS: so many (1 to 60), one behind the other: a year EARNS as the HALL is then; then of each YOUNG KIND MANY by a share (0 to 1000), "
                + "by 1000, cut down, goes over to the next KIND that isn't YOUNG (the first one behind it by number; none goes if there is none), all "
                + "by MANY as the year was (KINDS may be of more than 60 then).");
        String kind = " comes 1000 worth 9 0 0 0";
        SeatHall x = hall("evening 0 1;people 10" + kind + ";people 20" + kind + " young;people 30" + kind + " young;people 60" + kind + ";people 5"
                + kind + " young;year 1;cheap 0;");
        // 20, 30 and 5 young ones for nothing, at the door the others pay one: 70; 10 and 15 of the young go over, then 5 and 7.
        CHECK.row("by one year", new long[] {70000, 70000, 10, 10, 15, 85, 5, NO_SUCH}, i -> x.years(1, 500, i));
        CHECK.row("by two", new long[] {95000, 165000, 10, 5, 8, 97, 5, NO_SUCH}, i -> x.years(2, 500, i));
        CHECK.row("by three", new long[] {107000, 272000, 10, 3, 4, 103, 5, NO_SUCH}, i -> x.years(3, 500, i));
        CHECK.row("as it was", new long[] {10, 20, 30, 60, 5}, i -> (long) x.kind(i, 0));
    }

    private static void order() {
        says("Terms 3", "ORDER of the TICKETS that somebody BUYS (KINDS of 0 are nobody): who sits first: PEOPLE by that take SEATS from those that ADD most (of "
                + "like ones the least ROW) on, KIND by KIND; GAINED: of each seat that is taken ADDS by GONE of who has it, by 1,000,000, cut down, "
                + "together (who finds none gains nothing). THE BEST: of most GAINED, of like ones the first as a row.");
        String rows = "seats 2 adds 1;seats 1 adds 9;seats 1 adds 5;";
        String often = "evening 0 1;evening 1 1;people 1 comes 1000 worth 9 9 0 0;";
        String seldom = "evening 0 1;evening 1 1;people 2 comes 1000 worth 9 0 0 0;";
        // All at the DOOR: KIND by KIND, the first one takes the 9.
        SeatHall x = hall(often + "people 2 comes 1000 worth 9 0 0 0;" + rows);
        CHECK.is("9 by two evenings, 5 and 1 by one", 18000 + 5000 + 1000, x::order);
        CHECK.row("of the DOOR alone", new long[] {0, NO_SUCH}, i -> (long) x.ordered(i));
        SeatHall y = hall(seldom + "people 1 comes 1000 worth 9 9 0 0;" + rows);
        CHECK.is("9 and 5 by one evening, 1 by two", 9000 + 5000 + 2000, y::order);
        // With a YEAR for one who comes twice, ahead of the DOOR by the row that is best.
        SeatHall z = hall(seldom + "people 1 comes 1000 worth 9 9 0 0;people 0 comes 1000 worth 9 0 0 0;people 9 comes 1000 worth 0 0 0 0;year 1;" + rows);
        CHECK.row("who buys what", new long[] {0, 1, 0, 0}, i -> (long) z.buys(i));
        CHECK.is("9 by two, 5 and 1 by one; a seat of those who never come gains nothing", 18000 + 5000 + 1000, z::order);
        CHECK.row("the YEAR first", new long[] {1, 0, NO_SUCH}, i -> (long) z.ordered(i));
    }

    private static void owed() {
        says("Terms 3", "OWED, were the year broken off behind an EVENING, to each of a KIND, in thousandths: of a YEAR, a YOUNG one 1000 by PRICE by EVENINGS that "
                + "are left, by all, cut down; of a SET by those of it that are left, by all of it, cut down; of a TEN PRICE by LEFT, by 1000 times T, "
                + "cut down, LEFT being k by its billionths, of all cases behind that EVENING together, by 1000, cut down; of the DOOR 0.");
        SeatHall x = hall("evening 0 99;evening 0 99;evening 0 99;people 1 comes 500 worth 60 0 0 0;people 1 comes 500 thinks 1000 worth 70 0 0 0;"
                + "people 1 comes 500 worth 70 0 0 0 young;people 1 comes 500 worth 999 0 0 0;set 80 of 0 2;ten 1 20;year 100;cheap 10;");
        CHECK.row("who buys what", new long[] {2, 1, 4, 1}, i -> (long) x.buys(i));
        CHECK.row("of a YEAR", new long[] {66666, 33333, 0}, i -> (long) x.owed(1, i));
        CHECK.row("of a YOUNG one", new long[] {6666, 3333, 0}, i -> (long) x.owed(2, i));
        SeatHall y = hall("evening 0 99;evening 0 99;evening 0 99;evening 0 99;people 1 comes 1000 worth 60 0 0 0;people 1 comes 1000 worth 100 0 0 0;set 50 of 0 1 3;");
        CHECK.row("of a SET of three, each the 50", new long[] {33333, 16666, 16666, 0}, i -> (long) y.owed(0, i));
        SeatHall ten = hall("evening 0 99;evening 1 99;evening 2 99;people 1 comes 500 worth 30 20 10 0;ten 2 7;");
        // With 2, 1 and 0 left 500, 500; 250, 500, 250; 125, 375, 500 (those without any don't come): 1500, 1000 and 625 thousandths of two.
        CHECK.row("of a TEN of two", new long[] {5250, 3500, 2187}, i -> (long) ten.owed(0, i));
        // It comes by 1000, then by 999 millionths: of 999,000,000 the 998,001 are gone, and 998,001,999 are left: 998,001 by 900.
        SeatHall rare = hall("evening 0 999;evening 1 999 rain 1;people 1 comes 1 thinks 1000 wet 1 worth 999 950 0 0;ten 1 900;");
        CHECK.is("it buys the TEN", 2, () -> rare.buys(0));
        CHECK.row("LEFT, cut down", new long[] {899100, 898200}, i -> (long) rare.owed(0, i));
        SeatHall door = hall("evening 0 1;evening 0 1;people 1 comes 500 worth 9 0 0 0;");
        CHECK.row("of the DOOR", new long[] {0, 0, NO_SUCH}, i -> (long) door.owed(0, i));
    }

    // ---- section 4 ----

    private static void runs() {
        says("Terms 4", "A RUN by a seed: PEOPLE, KIND by KIND, with TICKETS that they BUY. An EVENING: a DRAW of 1000: below RAIN it is wet; of each of the PEOPLE "
                + "then a DRAW of 1000: below COMES (when it is wet below COMES by (1000 less WET), by 1000, cut down) it can: it comes, if it GOES by its "
                + "PLAN (its own k, n); else, with a YEAR or a YOUNG one, if a DRAW of 1000 is below HABIT.");
        // The DRAWS of seed 1: 838 758 113 515 51 627, 10 419 212 86 749 767, 84 60 225 543 (89 of habit) 183 137.
        SeatHall x = hall(STORY);
        x.begin(1);
        CHECK.is("three evenings at once", 3, () -> x.on(3));
        CHECK.row("838 dry; 758 can't, 113; 515; 51, 627", new long[] {4, 2, 12, 0, 1, 1, 2, NO_SUCH}, i -> (long) x.seen(0, i));
        CHECK.row("10 wet; 419, 212 can't in the rain; 86; 749, 767 don't go", new long[] {1, 0, 0, 1, 0, 1, 0}, i -> (long) x.seen(1, i));
        CHECK.row("84 dry; 60, 225 don't go; 543, 89 of habit; 183, 137 don't go", new long[] {1, 0, 0, 0, 0, 1, 0}, i -> (long) x.seen(2, i));
        // Seed 5: 655 457 616 877 193 964, 104 667 572 560 237 164, 781 269 241 985 742 985.
        x.begin(5);
        x.on(3);
        CHECK.row("457 can, 616 can't; 877 can't; both", new long[] {3, 1, 12, 0, 1, 0, 2}, i -> (long) x.seen(0, i));
        CHECK.row("985 can't, and draws for no habit", new long[] {0, 0, 0, 0, 0, 0, 0}, i -> (long) x.seen(2, i));
    }

    // ---- the promises ----

    private static void promises() {
        says("The constants", "`NONE = -1`: There is none.");
        CHECK.is("NONE", -1, () -> SeatHall.NONE);
        says("Promise 2", "how many it has; NONE, and none come, if it would have more than 700.");
        SeatHall fed = new SeatHall();
        CHECK.row("how many it has", new long[] {20, 40, 60}, i -> (long) fed.feed(0x20202020, 0x20202020, 0x20202020, 0x20202020, 0x20202020));
        SeatHall x = hall(STORY);
        says("Promise 6", "Of an EVENING: 0 SORT, 1 PRICE, 2 RAIN, 3 whether the SET has it (1).");
        CHECK.row("of the second", new long[] {1, 2, 500, 1}, i -> (long) x.evening(1, i));
        says("Promise 7", "Of a KIND: 0 MANY, 1 COMES, 2 THINKS, 3 WET, 4 HABIT, 5 FALLS, 6 to 9 WORTH, 10 YOUNG (1).");
        CHECK.row("of the second", new long[] {1, 750, 1000, 0, 1000, 0, 20, 10, 0, 0, 1}, i -> (long) x.kind(1, i));
        says("Promise 11", "What a KIND BUYS.");
        CHECK.row("buys", new long[] {3, 4, 0, NO_SUCH}, i -> (long) x.buys(i));
        says("Promise 12", "Whether a KIND GOES by its PLAN with the TICKET that it BUYS.");
        // By the SET not on the third; with two had five gains 4000, with ten nothing. With no SET, at the DOOR, it doesn't go for 1000.
        CHECK.row("by the SET", new long[] {1, 1, 0}, i -> Check.bit(x.goes(0, i, 12, 9)));
        CHECK.row("with ten had", new long[] {0, 0, 0}, i -> Check.bit(x.goes(0, i, 0, 10)));
        CHECK.row("at the DOOR", new long[] {1, 0, 0}, i -> Check.bit(x.goes(2, i, 0, 0)));
        says("Promise 13", "COMING of a KIND on an EVENING.");
        CHECK.row("of the first", new long[] {500000000, 250000000, 0, NO_SUCH}, i -> (long) x.coming(0, i));
        CHECK.row("of the second", new long[] {750000000, 750000000, 750000000}, i -> (long) x.coming(1, i));
        CHECK.row("of the third", new long[] {1000000000, 0, 0}, i -> (long) x.coming(2, i));
        says("Promise 14", "Of a KIND: GONE (what 0), SUNK of all EVENINGS (1), OFTEN (2), billionths; PAYS (3), KINDER (4).");
        CHECK.row("of the second", new long[] {2250000000L, 750000000, 2000000000, 2222, 6, NO_SUCH}, i -> x.often(1, i));
    }

    private static void promisesOfWhatIsKept() {
        SeatHall x = hall(STORY);
        says("Promise 17", "PRICES: how many were looked at; what was found is kept.");
        CHECK.is("nothing yet", NO_SUCH, () -> x.found(0));
        CHECK.is("how many", 2, () -> x.prices(1, 6, 8, 2));
        says("Promise 18", "Of the latest prices(): the PRICE of most EARNS (what 0), that (1), of most FULL (2), that (3), the least that LIVES (4; NONE).");
        CHECK.row("kept", new long[] {6, 29000, 6, 5750000, 6, NO_SUCH}, i -> x.found(i));
        CHECK.is("one", 1, () -> x.prices(1, 1, 1, 1));
        CHECK.row("the latest, by none", new long[] {1, 5000, 1, 5750000, -1}, i -> x.found(i));
        CHECK.is("refused", ILLEGAL, () -> x.prices(1, 2, 1, 1));
        CHECK.row("it is still kept", new long[] {1, 5000, 1, 5750000, -1}, i -> x.found(i));
        says("Promise 20", "AGAIN on an EVENING: sold (what 0), what it brings (1), TURNED away (2), EMPTY (3).");
        CHECK.row("on the first", new long[] {250000, 1250, 1000000, 250000, NO_SUCH}, i -> (long) x.again(0, 1, i));
        says("Promise 23", "YEARS: what the last one EARNS (what 0), all together (1), PEOPLE of a KIND behind the last (2 and the KIND).");
        CHECK.row("by three", new long[] {30000, 29000 + 30000 + 30000, 2, 0, 3, NO_SUCH}, i -> x.years(3, 1000, i));
        says("Promise 24", "ORDER: GAINED by the best; it is kept.");
        CHECK.is("none yet", NO_SUCH, () -> x.ordered(0));
        CHECK.is("the best", 28500, x::order);
        CHECK.row("kept", new long[] {4, 0, 3, NO_SUCH}, i -> (long) x.ordered(i));
    }
}

/** Section 2 of 'Terms', what promise 14 takes of section 3, and promises 9 to 14: the sentences that name a boundary. */
public final class PlanBoundaryTests {
    private static final long NO_SUCH = Check.NO_SUCH;
    private static final long ILLEGAL = Check.ILLEGAL;
    private static final int MOST = Integer.MAX_VALUE;
    private static final int LEAST = Integer.MIN_VALUE;
    /** By this rain and WET 999 a CHANCE is COMES by 1000, by 1000: a millionth for each of COMES. */
    private static final String RAINY = " rain 1000;";

    private static final Check CHECK = new Check();

    private PlanBoundaryTests() {
    }

    public static void main(String[] args) {
        chances();
        kindsAndEvenings();
        gains();
        behindTheLast();
        above();
        neverGoes();
        cutDownValues();
        goods();
        isNotTold();
        likeOnes();
        youngOnesAlone();
        goesBounds();
        firstUse();
        cutDownUse();
        sunk();
        habitOfWhom();
        often();
        pays();
        kinder();
        oftenBounds();
        CHECK.end();
    }

    private static SeatHall hall(String text) {
        return Check.hall(text);
    }

    // ---- chance and gain ----

    private static void chance(int comes, int rain, int wet, long want) {
        SeatHall x = hall("evening 0 0 rain " + rain + ";people 1 comes " + comes + " thinks 1 wet " + wet + " worth 1 1 1 1;"
                + "people 1 comes 1 thinks " + comes + " wet " + wet + " worth 1 1 1 1;");
        String name = "of " + comes + ", rain " + rain + ", wet " + wet;
        CHECK.is("CHANCE " + name, want, () -> x.chance(0, 0, false));
        CHECK.is("THOUGHT " + name, want, () -> x.chance(1, 0, true));
    }

    private static void chances() {
        CHECK.says("Terms 2", "COMES by (1,000,000 less RAIN by WET), by 1000, cut down; THOUGHT: THINKS in place of COMES");
        chance(0, 0, 0, 0);
        chance(1000, 0, 0, 1000000);
        chance(1000, 1000, 1000, 0);
        chance(1000, 1000, 0, 1000000);
        chance(1000, 0, 1000, 1000000);
        chance(1000, 1000, 999, 1000);
        chance(1000, 999, 1000, 1000);
        chance(1, 0, 0, 1000);
        // 999.999, 1 and 1.999 and 998999.001 are cut down.
        chance(1, 1, 1, 999);
        chance(1, 1000, 999, 1);
        chance(1, 999, 999, 1);
        chance(1, 1000, 1000, 0);
        chance(999, 1, 1, 998999);
    }

    private static void kindsAndEvenings() {
        SeatHall x = hall("evening 0 0;evening 0 0;people 1 comes 700 thinks 300 worth 1 0 0 0;people 0 comes 600 worth 1 0 0 0;");
        SeatHall noKind = hall("evening 0 0;");
        SeatHall noEvening = hall("people 1 comes 1 worth 1 1 1 1;year 3;");
        CHECK.says("Promise 9", "CHANCE of a KIND (thinks false), THOUGHT (true).");
        CHECK.is("false", 700000, () -> x.chance(0, 1, false));
        CHECK.is("true", 300000, () -> x.chance(0, 1, true));
        CHECK.is("a KIND of nobody", 600000, () -> x.chance(1, 1, false));
        for (int wrong : new int[] {-1, 2, LEAST, MOST}) {
            CHECK.says("Promise 9", "int chance(int kind, int evening, boolean thinks) throws NoSuchElementException");
            CHECK.is("kind " + wrong, NO_SUCH, () -> x.chance(wrong, 0, false));
            CHECK.is("evening " + wrong, NO_SUCH, () -> x.chance(0, wrong, true));
            CHECK.says("Promise 10", "int good(int kind, int ticket) throws NoSuchElementException, IllegalArgumentException");
            CHECK.is("kind " + wrong, NO_SUCH, () -> x.good(wrong, 0));
            CHECK.says("Promise 11", "int buys(int kind) throws NoSuchElementException");
            CHECK.is("kind " + wrong, NO_SUCH, () -> x.buys(wrong));
            CHECK.says("Promise 12", "boolean goes(int kind, int evening, int k, int n) throws NoSuchElementException");
            CHECK.is("kind " + wrong, NO_SUCH, () -> Check.bit(x.goes(wrong, 0, 0, 0)));
            CHECK.is("evening " + wrong, NO_SUCH, () -> Check.bit(x.goes(0, wrong, 0, 0)));
            CHECK.says("Promise 13", "int coming(int kind, int evening) throws NoSuchElementException");
            CHECK.is("kind " + wrong, NO_SUCH, () -> x.coming(wrong, 0));
            CHECK.is("evening " + wrong, NO_SUCH, () -> x.coming(0, wrong));
            CHECK.says("Promise 14", "long often(int kind, int what) throws NoSuchElementException");
            CHECK.is("kind " + wrong, NO_SUCH, () -> x.often(wrong, 0));
        }
        CHECK.says("Promise 7", "no such KIND (as everywhere)");
        CHECK.is("chance without kinds", NO_SUCH, () -> noKind.chance(0, 0, true));
        CHECK.is("good without kinds", NO_SUCH, () -> noKind.good(0, 0));
        CHECK.is("buys without kinds", NO_SUCH, () -> noKind.buys(0));
        CHECK.is("goes without kinds", NO_SUCH, () -> Check.bit(noKind.goes(0, 0, 0, 0)));
        CHECK.is("coming without kinds", NO_SUCH, () -> noKind.coming(0, 0));
        CHECK.is("often without kinds", NO_SUCH, () -> noKind.often(0, 4));
        CHECK.says("Promise 6", "no such EVENING (as everywhere)");
        CHECK.is("chance without evenings", NO_SUCH, () -> noEvening.chance(0, 0, true));
        CHECK.is("goes without evenings", NO_SUCH, () -> Check.bit(noEvening.goes(0, 0, 0, 0)));
        CHECK.is("coming without evenings", NO_SUCH, () -> noEvening.coming(0, 0));
        SeatHall all = hall("evening 0 0;".repeat(15) + "evening 1 0;" + "people 1 comes 1 worth 1 1 1 1;".repeat(5)
                + "people 1 comes 1000 worth 1 1 1 1;");
        CHECK.is("the last of sixteen, the last of six", 1000000000, () -> all.coming(5, 15));
        CHECK.is("behind sixteen", NO_SUCH, () -> all.coming(5, 16));
        CHECK.is("behind six", NO_SUCH, () -> all.coming(6, 15));
    }

    /** What a year for nothing is worth to who comes for sure to so many evenings, each worth ten coins. */
    private static void year(int falls, int evenings, long want) {
        SeatHall x = hall("evening 0 9;".repeat(evenings) + "people 1 comes 1000 falls " + falls + " worth 10 0 0 0;year 0;");
        CHECK.is("falls " + falls + " on " + evenings, want, () -> x.good(0, 1));
    }

    private static void last(int falls, int n, long want) {
        SeatHall x = hall("evening 0 9;evening 0 0;people 1 comes 1000 falls " + falls + " worth 1 0 0 0;year 0;");
        CHECK.is("falls " + falls + " with " + n + " had", want, () -> Check.bit(x.goes(0, 1, 0, n)));
    }

    private static void gains() {
        CHECK.says("Terms 2", "its WORTH of the SORT by (1000 less FALLS by n, 0 at least): thousandths of a coin");
        year(0, 1, 10000);
        year(0, 16, 160000);
        // 16 by ten thousand less ten by (0 and 1 and .. and 15).
        year(1, 16, 160000 - 10 * 120);
        year(500, 1, 10000);
        year(500, 2, 15000);
        // Who has had two gains nothing, and does not lose by more.
        year(500, 3, 15000);
        year(500, 16, 15000);
        year(334, 3, 10000 + 6660 + 3320);
        year(334, 4, 10000 + 6660 + 3320);
        year(333, 4, 10000 + 6670 + 3340 + 10);
        // 62 by 16 is 992, 63 by 16 is 1008; 66 by 15 is 990, 67 by 15 is 1005.
        last(62, 16, 1);
        last(63, 16, 0);
        last(66, 15, 1);
        last(67, 15, 0);
        last(500, 1, 1);
        last(500, 2, 0);
        last(500, 16, 0);
        last(0, 16, 1);
        SeatHall sorts = hall("evening 0 0;evening 1 0;evening 2 0;evening 3 0;people 1 comes 1000 worth 0 999 0 1;");
        CHECK.row("each SORT's own WORTH", new long[] {0, 1, 0, 1}, i -> Check.bit(sorts.goes(0, i, 0, 0)));
    }

    // ---- the plan ----

    private static void behindTheLast() {
        CHECK.says("Terms 2", "0 behind the last EVENING");
        SeatHall none = hall("people 1 comes 1000 worth 999 999 999 999 young;year 3;ten 12 4;cheap 9999;");
        CHECK.row("no evening at all", new long[] {0, -3000, -4000, ILLEGAL, -9999000, NO_SUCH}, i -> (long) none.good(0, i));
        CHECK.is("which is the door's best", 0, () -> none.buys(0));
        SeatHall one = hall("evening 0 0;people 1 comes 1000 worth 999 0 0 0;year 0;ten 12 0;");
        CHECK.row("a single one", new long[] {999000, 999000, 999000}, i -> (long) one.good(0, i));
        SeatHall more = hall("evening 0 0;evening 0 0;people 1 comes 1000 worth 999 0 0 0;year 0;ten 1 0;");
        CHECK.row("one more", new long[] {1998000, 1998000, 999000}, i -> (long) more.good(0, i));
    }

    private static void above() {
        CHECK.says("Terms 2", "It GOES, if GO is above STAY");
        String people = "people 1 comes 1000 worth 10 0 0 0;";
        SeatHall door = hall("evening 0 9;evening 0 10;evening 0 11;" + people);
        CHECK.row("a coin more, as much, a coin less than the door's PRICE", new long[] {1, 0, 0}, i -> Check.bit(door.goes(0, i, 0, 0)));
        SeatHall free = hall("evening 0 0;evening 1 0;" + people);
        CHECK.row("for nothing at the door", new long[] {1, 0}, i -> Check.bit(free.goes(0, i, 0, 0)));
        SeatHall year = hall("evening 0 99;evening 1 99;" + people + "year 0;");
        CHECK.row("with a year the door's PRICE counts for nothing", new long[] {1, 0}, i -> Check.bit(year.goes(0, i, 0, 0)));
        // One coin now, and f thousandths of ten coins less then: by 99 ten thousandths more, by 100 as much.
        String two = "evening 1 99;evening 0 99;people 1 comes 1000 falls ";
        CHECK.is("ten thousandths above", 1, () -> Check.bit(hall(two + "99 worth 10 1 0 0;year 0;").goes(0, 0, 0, 0)));
        CHECK.is("as much as STAY", 0, () -> Check.bit(hall(two + "100 worth 10 1 0 0;year 0;").goes(0, 0, 0, 0)));
        CHECK.is("below", 0, () -> Check.bit(hall(two + "101 worth 10 1 0 0;year 0;").goes(0, 0, 0, 0)));
        // Where a THOUGHT is nothing it goes all the same, if it gains.
        SeatHall never = hall("evening 0 3;people 1 comes 500 thinks 0 worth 10 0 0 0;");
        CHECK.is("who thinks he can't come", 1, () -> Check.bit(never.goes(0, 0, 0, 0)));
        CHECK.is("comes as he comes", 500000000, () -> never.coming(0, 0));
        CHECK.is("though it is worth nothing to him", 0, () -> never.good(0, 0));
    }

    private static void neverGoes() {
        CHECK.says("Terms 2", "(of a TEN with k 0, of a SET on others than its EVENINGS it never does)");
        SeatHall ten = hall("evening 0 99;evening 0 99;people 1 comes 1000 worth 50 0 0 0;ten 1 1;");
        CHECK.is("it buys a ten", 2, () -> ten.buys(0));
        CHECK.row("k on the last evening", new long[] {0, 1, 1, 1, 1, 1, 1, 1, 1, 1, 1, 1, 1, NO_SUCH},
                i -> Check.bit(ten.goes(0, 1, i, 0)));
        // With one left now is as good as then; with two left both are good.
        CHECK.row("k ahead of it", new long[] {0, 0, 1, 1, 1, 1, 1, 1, 1, 1, 1, 1, 1, NO_SUCH}, i -> Check.bit(ten.goes(0, 0, i, 16)));
        SeatHall set = hall("evening 0 99;".repeat(16) + "people 1 comes 1000 worth 50 0 0 0;set 1 of 0 7 15;");
        CHECK.is("it buys the set", 3, () -> set.buys(0));
        for (int e = 0; e < 16; e++) {
            int evening = e;
            long of = e == 0 || e == 7 || e == 15 ? 1 : 0;
            CHECK.is("of the set, evening " + e, of, () -> Check.bit(set.goes(0, evening, 0, 0)));
            CHECK.is("with any k and n, evening " + e, of, () -> Check.bit(set.goes(0, evening, 12, 16)));
            CHECK.is("comes, evening " + e, of * 1000000000, () -> set.coming(0, evening));
        }
        SeatHall year = hall("evening 0 99;people 1 comes 1000 worth 50 0 0 0;year 1;");
        CHECK.row("of a year k counts for nothing", new long[] {1, 1, 1, 1, 1, 1, 1, 1, 1, 1, 1, 1, 1}, i -> Check.bit(year.goes(0, 0, i, 0)));
    }

    /** What one rainy evening is worth to who thinks, by so many millionths, to come. */
    private static void value(int millionths, int worth, long want) {
        SeatHall x = hall("evening 0 0" + RAINY + "people 1 comes 0 thinks " + millionths + " wet 999 worth " + worth + " 0 0 0;");
        CHECK.is(worth + " by " + millionths + " millionths", want, () -> x.good(0, 0));
    }

    private static void cutDownValues() {
        CHECK.says("Terms 2", "VALUE: STAY, and, if it GOES, GO less STAY by THOUGHT by 1,000,000, cut down");
        value(0, 999, 0);
        value(999, 1, 0);
        value(1000, 1, 1);
        value(999, 2, 1);
        value(1000, 2, 2);
        value(1, 999, 0);
        value(2, 999, 1);
        value(1000, 999, 999);
        value(999, 999, 998);
        // Behind it 3330 stay; ahead of it (10000 and 2997) less 3330 by 333 thousandths are 3219.111.
        SeatHall x = hall("evening 0 0;evening 0 0;people 1 comes 333 falls 100 worth 10 0 0 0;");
        CHECK.is("cut down on each evening", 3330 + 3219, () -> x.good(0, 0));
        // At the door 7000 less 0 by 333 are 2331, then (7000 and 1998) less 2331 by 333 are 2220.111.
        SeatHall y = hall("evening 0 3;evening 0 3;people 1 comes 333 falls 100 worth 10 0 0 0;");
        CHECK.is("at the door", 2331 + 2220, () -> y.good(0, 0));
    }

    // ---- good, buys, goes ----

    private static void goods() {
        CHECK.says("Terms 2", "GOOD of a TICKET: the VALUE of EVENING 0 (k of a TEN T, of others 0; n 0), less 1000 by its PRICE.");
        String all = "evening 0 0;".repeat(16) + "people 1 comes 1000 worth 999 0 0 0;";
        CHECK.is("the most", 15984000, () -> hall(all + "year 0;").good(0, 1));
        CHECK.is("a TEN of twelve", 11988000, () -> hall(all + "ten 12 0;").good(0, 2));
        CHECK.is("a TEN of one", 999000, () -> hall(all + "ten 1 0;").good(0, 2));
        CHECK.is("a SET of all", 15984000, () -> hall(all + "set 0 of 0 1 2 3 4 5 6 7 8 9 10 11 12 13 14 15;").good(0, 3));
        CHECK.is("a SET of one", 999000, () -> hall(all + "set 0 of 15;").good(0, 3));
        CHECK.is("the most coin", 15984000 - 9999000, () -> hall(all + "year 9999;").good(0, 1));
        CHECK.is("the most coin for nothing", -9999000, () -> hall("evening 0 0;people 1 comes 0 worth 1 1 1 1;year 9999;").good(0, 1));
        CHECK.is("a TEN of more than there are", 9000, () -> hall("evening 0 0;people 1 comes 1000 worth 9 0 0 0;ten 12 0;").good(0, 2));
        CHECK.says("Promise 10", "GOOD of a TICKET to a KIND (also of a YOUNG one to others).");
        SeatHall x = hall("evening 0 9;people 1 comes 1000 worth 9 0 0 0;people 1 comes 1000 worth 9 0 0 0 young;cheap 2;");
        CHECK.is("to others", 7000, () -> x.good(0, 4));
        CHECK.is("to the young", 7000, () -> x.good(1, 4));
    }

    private static void isNotTold() {
        CHECK.says("Promise 10", "IllegalArgumentException (behind that): it isn't told.");
        SeatHall x = hall("evening 0 9;people 1 comes 1000 worth 9 0 0 0;");
        CHECK.row("the door alone is", new long[] {0, ILLEGAL, ILLEGAL, ILLEGAL, ILLEGAL, NO_SUCH}, i -> (long) x.good(0, i));
        for (int ticket : new int[] {-1, 5, LEAST, MOST}) {
            CHECK.is("ticket " + ticket, NO_SUCH, () -> x.good(0, ticket));
        }
        for (int ticket = 0; ticket < 5; ticket++) {
            int t = ticket;
            CHECK.is("behind the KIND, ticket " + t, NO_SUCH, () -> x.good(1, t));
            CHECK.is("behind the KIND below, ticket " + t, NO_SUCH, () -> x.good(-1, t));
        }
        String[] told = {"year 0;", "ten 1 0;", "set 0 of 0;", "cheap 0;"};
        for (int ticket = 1; ticket <= 4; ticket++) {
            SeatHall y = hall("evening 0 9;people 1 comes 1000 worth 9 0 0 0;" + told[ticket - 1]);
            int t = ticket;
            CHECK.row("told is " + t, new long[] {0, t == 1 ? 9000 : ILLEGAL, t == 2 ? 9000 : ILLEGAL, t == 3 ? 9000 : ILLEGAL,
                t == 4 ? 9000 : ILLEGAL}, i -> (long) y.good(0, i));
        }
    }

    /** Who comes for sure to an evening of nine coins, at the door for five: a ticket for p is 9000 less 1000 by p good, the door 4000. */
    private static void buys(String young, String tickets, int want) {
        SeatHall x = hall("evening 0 5;people 1 comes 1000 worth 9 0 0 0" + young + ";" + tickets);
        CHECK.is("by [" + tickets + "]" + young, want, () -> x.buys(0));
    }

    private static void likeOnes() {
        CHECK.says("Terms 2", "A KIND BUYS the TICKET of the greatest GOOD, of like ones the least");
        buys("", "", 0);
        buys("", "year 6;", 0);
        buys("", "year 5;", 0);
        buys("", "year 4;", 1);
        buys("", "ten 1 5;", 0);
        buys("", "ten 1 4;", 2);
        buys("", "set 5 of 0;", 0);
        buys("", "set 4 of 0;", 3);
        buys(" young", "cheap 5;", 0);
        buys(" young", "cheap 4;", 4);
        buys("", "year 4;ten 1 4;set 4 of 0;", 1);
        buys("", "year 4;ten 1 3;set 3 of 0;", 2);
        buys("", "year 4;ten 1 4;set 3 of 0;", 3);
        buys("", "set 3 of 0;ten 1 3;year 3;", 1);
        buys(" young", "year 3;cheap 3;", 1);
        buys(" young", "ten 1 3;cheap 3;", 2);
        buys(" young", "set 3 of 0;cheap 3;", 3);
        buys(" young", "set 3 of 0;cheap 2;", 4);
        buys("", "year 9999;ten 12 9999;set 9999 of 0;", 0);
        // At a thousandth's THOUGHT two coins with a year are two thousandths, one coin at the door is one.
        SeatHall x = hall("evening 1 0;evening 0 1" + RAINY + "people 1 comes 0 thinks 1000 wet 999 worth 2 0 0 0;year 0;");
        CHECK.row("one and two thousandths", new long[] {1, 2}, i -> (long) x.good(0, i));
        CHECK.is("a thousandth more", 1, () -> x.buys(0));
        CHECK.is("a KIND of nobody buys, too", 1, () -> hall("evening 0 5;people 0 comes 1000 worth 9 0 0 0;year 0;").buys(0));
    }

    private static void youngOnesAlone() {
        CHECK.says("Terms 2", "(YOUNG ones alone a YOUNG one)");
        buys("", "cheap 0;", 0);
        buys(" young", "cheap 0;", 4);
        buys("", "year 4;cheap 0;", 1);
        buys(" young", "year 0;cheap 1;", 1);
    }

    private static void goesBounds() {
        CHECK.says("Promise 12", "NoSuchElementException: also k is not 0 to 12, n not 0 to 16.");
        String all = "evening 0 9;".repeat(16) + "people 1 comes 1000 worth 10 0 0 0;";
        String[] tickets = {"", "year 0;", "ten 12 0;"};
        for (int ticket = 0; ticket < 3; ticket++) {
            SeatHall x = hall(all + tickets[ticket]);
            String name = " with " + ticket;
            CHECK.is("buys" + name, ticket, () -> x.buys(0));
            for (int k : new int[] {-1, 13, LEAST, MOST}) {
                CHECK.is("k " + k + name, NO_SUCH, () -> Check.bit(x.goes(0, 0, k, 0)));
            }
            for (int n : new int[] {-1, 17, LEAST, MOST}) {
                CHECK.is("n " + n + name, NO_SUCH, () -> Check.bit(x.goes(0, 0, 1, n)));
            }
            // Of sixteen evenings a TEN of twelve can wait for the last ones.
            CHECK.is("k 12 and n 16 on the first" + name, ticket == 2 ? 0 : 1, () -> Check.bit(x.goes(0, 0, 12, 16)));
            CHECK.is("k 12 and n 16 on the last" + name, 1, () -> Check.bit(x.goes(0, 15, 12, 16)));
            CHECK.is("k 12 and n 0 on the fifth" + name, 1, () -> Check.bit(x.goes(0, 4, 12, 0)));
            CHECK.is("k 0 and n 0 on the last" + name, ticket == 2 ? 0 : 1, () -> Check.bit(x.goes(0, 15, 0, 0)));
        }
        // Who has had 16 goes to all 16 that follow, if even the last one, with 31 had, gains: by 32 by 31 it does, by 33 not.
        String free = "evening 0 0;".repeat(16) + "people 1 comes 1000 falls ";
        CHECK.is("n 16 ahead of all", 1, () -> Check.bit(hall(free + "32 worth 9 0 0 0;").goes(0, 0, 0, 16)));
        CHECK.is("n 16 ahead of one too many", 0, () -> Check.bit(hall(free + "33 worth 9 0 0 0;").goes(0, 0, 0, 16)));
        CHECK.is("n 15 ahead of as many", 1, () -> Check.bit(hall(free + "33 worth 9 0 0 0;").goes(0, 0, 0, 15)));
    }

    // ---- use ----

    private static void firstUse() {
        CHECK.says("Terms 2", "1,000,000,000 at first with k and n as told");
        SeatHall sure = hall("evening 0 0;".repeat(16) + "people 1 comes 1000 worth 9 0 0 0;");
        CHECK.is("all on the first", 1000000000, () -> sure.coming(0, 0));
        CHECK.is("all on the last", 1000000000, () -> sure.coming(0, 15));
        CHECK.is("sixteen of all", 16000000000L, () -> sure.often(0, 0));
        SeatHall ten = hall("evening 0 9;".repeat(16) + "people 1 comes 1000 worth 9 0 0 0;ten 12 0;");
        // With one left of k to each evening that is left it goes: on the last twelve.
        CHECK.row("k twelve", new long[] {0, 0, 0, 0, 1, 1, 1, 1, 1, 1, 1, 1, 1, 1, 1, 1, NO_SUCH}, i -> {
            long coming = ten.coming(0, i);
            return coming / 1000000000;
        });
        CHECK.is("twelve of a TEN", 12000000000L, () -> ten.often(0, 0));
        SeatHall never = hall("evening 0 0;people 1 comes 0 worth 9 0 0 0;");
        CHECK.is("none ever", 0, () -> never.coming(0, 0));
    }

    private static void cutDownUse() {
        CHECK.says("Terms 2", "On each EVENING of each case (k, n) that GOES CHANCE by 1,000,000 comes, cut down");
        // A millionth: 1000 of a billion, then 999.999 of those that have not come, and nothing of the 1000 that have.
        String people = "people 1 comes 1 thinks 1000 wet 999 worth 999 0 0 0;";
        SeatHall year = hall("evening 0 999 rain 1000;evening 0 999" + RAINY + people + "year 0;");
        CHECK.is("a year", 1, () -> year.buys(0));
        CHECK.row("of each case", new long[] {1000, 999}, i -> (long) year.coming(0, i));
        CHECK.is("of all evenings together", 1999, () -> year.often(0, 0));
        SeatHall ten = hall("evening 0 999;".repeat(4) + "people 1 comes 333 worth 9 0 0 0;ten 1 0;");
        // 222111000, then 444889000 by 333 thousandths, then 296740963 by them.
        CHECK.row("of a TEN of one what is left", new long[] {333000000, 222111000, 148148037, 98814740}, i -> (long) ten.coming(0, i));
        SeatHall once = hall("evening 0 999;evening 0 999;people 1 comes 1000 worth 9 0 0 0;ten 1 0;");
        CHECK.row("of a TEN of one sure ones wait", new long[] {0, 1000000000}, i -> (long) once.coming(0, i));
    }

    /** A worthless evening of so many millionths ahead of a dear one, with a year for nothing. */
    private static SeatHall habit(int comes, int habit, int evenings, String young) {
        return hall("evening 1 9 rain 1000;".repeat(evenings) + "evening 0 9;people 1 comes " + comes + " wet 999 habit " + habit
                + " worth 10 0 0 0" + young + ";" + (young.isEmpty() ? "year 0;" : "cheap 0;"));
    }

    private static void sunk() {
        CHECK.says("Terms 2", "with a YEAR or a YOUNG one of a case that doesn't GO CHANCE by 1,000,000, cut down, of that HABIT by 1000,"
                + " cut down, comes all the same (SUNK; n is 1 more)");
        for (String young : new String[] {"", " young"}) {
            CHECK.is("who buys" + young, young.isEmpty() ? 1 : 4, () -> habit(1, 0, 1, young).buys(0));
            CHECK.is("no habit" + young, 0, () -> habit(1000, 0, 1, young).coming(0, 0));
            CHECK.is("always" + young, 1000000, () -> habit(1000, 1000, 1, young).coming(0, 0));
            CHECK.is("of a millionth all" + young, 1000, () -> habit(1, 1000, 1, young).coming(0, 0));
            CHECK.is("of a millionth 999" + young, 999, () -> habit(1, 999, 1, young).coming(0, 0));
            CHECK.is("of a millionth one" + young, 1, () -> habit(1, 1, 1, young).coming(0, 0));
            // Then 999999999 by a millionth are 999, of that a thousandth less than 1, two thousandths 1.998.
            CHECK.is("a thousandth of 999" + young, 0, () -> habit(1, 1, 2, young).coming(0, 1));
            CHECK.is("two of 999" + young, 1, () -> habit(1, 2, 2, young).coming(0, 1));
            CHECK.is("sunk of both" + young, 2 + 1, () -> habit(1, 2, 2, young).often(0, 1));
        }
        // Who came by habit has one more and gains a half; who has come twice gains nothing and comes by habit again.
        SeatHall x = hall("evening 1 9;evening 1 9;evening 0 9;people 1 comes 1000 habit 1000 falls 500 worth 10 0 0 0;year 0;");
        CHECK.row("n is 1 more", new long[] {1000000000, 1000000000, 1000000000}, i -> (long) x.coming(0, i));
        CHECK.is("sunk on all three", 3000000000L, () -> x.often(0, 1));
        SeatHall y = hall("evening 1 9;evening 0 9;people 1 comes 1000 habit 1000 falls 500 worth 10 0 0 0;year 0;");
        CHECK.is("sunk on the first alone", 1000000000, () -> y.often(0, 1));
    }

    private static void habitOfWhom() {
        CHECK.says("Terms 2", "with a YEAR or a YOUNG one of a case that doesn't GO");
        String people = "evening 1 9;evening 0 9;people 1 comes 1000 habit 1000 worth 10 0 0 0 young;";
        String[] tickets = {"", "year 0;", "ten 2 0;", "set 0 of 0 1;", "cheap 0;"};
        for (int ticket = 0; ticket < 5; ticket++) {
            SeatHall x = hall(people + tickets[ticket]);
            long sunk = ticket == 1 || ticket == 4 ? 1000000000 : 0;
            int t = ticket;
            CHECK.is("buys " + t, t, () -> x.buys(0));
            CHECK.row("with " + t, new long[] {sunk, 1000000000}, i -> (long) x.coming(0, i));
            CHECK.row("gone and sunk with " + t, new long[] {sunk + 1000000000, sunk}, i -> x.often(0, i));
        }
    }

    // ---- often ----

    private static void often() {
        CHECK.says("Terms 3", "as GONE by THOUGHT in place of CHANCE, without HABIT");
        SeatHall x = hall("evening 1 9;evening 0 9;people 1 comes 500 thinks 1000 habit 1000 worth 10 0 0 0;year 0;");
        CHECK.row("gone, sunk, thought", new long[] {1000000000, 500000000, 1000000000}, i -> x.often(0, i));
        SeatHall y = hall("evening 0 3;people 1 comes 1000 thinks 0 worth 10 0 0 0;");
        CHECK.row("who thinks he can't", new long[] {1000000000, 0, 0}, i -> y.often(0, i));
        SeatHall z = hall("evening 0 3;people 1 comes 0 thinks 1000 worth 10 0 0 0;");
        CHECK.row("who thinks he can", new long[] {0, 0, 1000000000}, i -> z.often(0, i));
        SeatHall none = hall("people 1 comes 1000 worth 10 0 0 0;");
        CHECK.row("no evening", new long[] {0, 0, 0, -1, 0}, i -> none.often(0, i));
    }

    private static void pays(String text, long want) {
        CHECK.is("[" + text + "]", want, () -> hall(text).often(0, 3));
    }

    private static void pays() {
        CHECK.says("Terms 3", "PAYS: 1000 by its PRICE by 1,000,000,000, by GONE, cut down (NONE, if GONE is 0 or it BUYS none but the DOOR)");
        pays("evening 0 9;people 1 comes 0 thinks 1000 worth 9 0 0 0;year 1;", -1);
        pays("evening 0 9;people 1 comes 0 thinks 1000 worth 9 0 0 0;year 0;", -1);
        pays("evening 0 9;people 1 comes 1 thinks 1000 worth 9 0 0 0;year 0;", 0);
        pays("evening 0 1;people 1 comes 1000 worth 9 0 0 0;", -1);
        pays("evening 0 1;people 1 comes 1000 worth 9 0 0 0;year 1;", -1);
        pays("evening 0 2;people 1 comes 1000 worth 9 0 0 0;year 1;", 1000);
        pays("evening 0 9;people 1 comes 300 worth 9 0 0 0;year 1;", 3333);
        pays("evening 0 9;people 1 comes 700 worth 9 0 0 0;ten 1 1;", 1428);
        pays("evening 0 9;people 1 comes 500 worth 9 0 0 0;set 1 of 0;", 2000);
        pays("evening 0 9;people 1 comes 999 worth 9 0 0 0 young;cheap 1;", 1001);
        // Of all but a few thousandths less: GONE is a million, the PRICE 998 (or, of eleven evenings, 9999).
        pays("evening 0 999;people 1 comes 1 thinks 1000 worth 999 0 0 0;year 998;", 998000000);
        pays("evening 0 999 rain 1000;people 1 comes 1 thinks 1000 wet 999 worth 999 0 0 0;year 0;", 0);
        SeatHall x = hall("evening 0 999;".repeat(16) + "people 1 comes 0 thinks 1000 worth 999 0 0 0;year 9999;");
        CHECK.is("never gone with the dearest year", -1, () -> x.often(0, 3));
        SeatHall y = hall("evening 0 999;".repeat(16) + "people 1 comes 1000 worth 999 0 0 0;year 9999;");
        CHECK.is("9999000 by 16 is 624937.5", 624937, () -> y.often(0, 3));
    }

    private static void kinder(String text, long want) {
        CHECK.is("[" + text + "]", want, () -> hall(text).often(0, 4));
    }

    private static void kinder() {
        CHECK.says("Terms 3", "KINDER: the greatest PRICE of a YEAR (0 at least) by which GOOD of it is no less than that of the DOOR,"
                + " were THOUGHT the CHANCE (NONE: by none; 9999 at most)");
        kinder("evening 0 0;people 1 comes 1000 worth 9 0 0 0;", 0);
        kinder("people 1 comes 1000 worth 9 0 0 0;", 0);
        kinder("evening 0 9;people 1 comes 0 thinks 1000 worth 9 0 0 0;", 0);
        kinder("evening 0 9;people 1 comes 1000 thinks 0 worth 9 0 0 0;", 9);
        // The year is worth 999 and 1000, 998 and 1000 thousandths, the door nothing.
        kinder("evening 0 1;people 1 comes 999 worth 1 0 0 0;", 0);
        kinder("evening 0 1;people 1 comes 1000 worth 1 0 0 0;", 1);
        kinder("evening 0 2;people 1 comes 499 worth 2 0 0 0;", 0);
        kinder("evening 0 2;people 1 comes 500 worth 2 0 0 0;", 1);
        kinder("evening 0 2;people 1 comes 999 worth 2 0 0 0;", 1);
        String ten = "evening 0 999;".repeat(10) + "evening 1 999;people 1 comes 1000 worth 999 ";
        kinder(ten + "7 0 0;", 9997);
        kinder(ten + "8 0 0;", 9998);
        kinder(ten + "9 0 0;", 9999);
        kinder(ten + "10 0 0;", 9999);
        kinder(ten + "999 0 0;year 9999;", 9999);
        kinder("evening 0 5;people 1 comes 1000 worth 9 0 0 0;year 9999;", 5);
        kinder("evening 0 5;people 1 comes 1000 worth 9 0 0 0;year 0;", 5);
        // By CHANCE the year is worth 1000, by THOUGHT 10000: that it was asked leaves GOOD and the PLANS by THOUGHT.
        SeatHall x = hall("evening 0 99;people 1 comes 100 thinks 1000 worth 10 0 0 0;year 5;");
        CHECK.is("by CHANCE", 1, () -> x.often(0, 4));
        CHECK.is("GOOD by THOUGHT", 5000, () -> x.good(0, 1));
        x.prices(1, 9, 10, 1);
        CHECK.is("PRICES by THOUGHT", 9, () -> x.found(0));
        CHECK.is("which it buys", 9000, () -> x.found(1));
        SeatHall y = hall("evening 1 99;evening 0 99;people 1 comes 1000 thinks 500 falls 200 worth 10 1 0 0;year 0;");
        // Now 1000 and 8000 by a half against 10000 by a half; by CHANCE 9000 against 10000.
        CHECK.is("no less by a half", 0, () -> Check.bit(y.goes(0, 0, 0, 0)));
        SeatHall z = hall("evening 1 99;evening 0 99;people 1 comes 1000 thinks 400 falls 200 worth 10 1 0 0;year 0;");
        CHECK.is("goes by THOUGHT of 400", 1, () -> Check.bit(z.goes(0, 0, 0, 0)));
        CHECK.is("KINDER by CHANCE of 1000", 10, () -> z.often(0, 4));
        CHECK.is("goes by THOUGHT again", 1, () -> Check.bit(z.goes(0, 0, 0, 0)));
    }

    private static void oftenBounds() {
        CHECK.says("Promise 14", "GONE (what 0), SUNK of all EVENINGS (1), OFTEN (2), billionths; PAYS (3), KINDER (4). NoSuchElementException:"
                + " also another what.");
        SeatHall x = hall("evening 0 2;people 1 comes 1000 worth 9 0 0 0;people 0 comes 500 worth 9 0 0 0;year 1;");
        CHECK.row("what", new long[] {1000000000, 0, 1000000000, 1000, 2, NO_SUCH}, i -> x.often(0, i));
        // The year is worth 4500, the door 3500: at a half one coin is as good.
        CHECK.row("of nobody", new long[] {500000000, 0, 500000000, -1, 1, NO_SUCH}, i -> x.often(1, i));
        for (int what : new int[] {-1, 5, LEAST, MOST}) {
            CHECK.is("what " + what, NO_SUCH, () -> x.often(0, what));
            CHECK.is("what of no KIND " + what, NO_SUCH, () -> x.often(2, what));
        }
    }
}

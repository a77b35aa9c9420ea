/** Section 3 of 'Terms' and promises 15 to 26: the sentences that name a boundary, on both of its sides. */
public final class HallBoundaryTests {
    private static final long NO_SUCH = Check.NO_SUCH;
    private static final long ILLEGAL = Check.ILLEGAL;
    private static final int MOST = Integer.MAX_VALUE;
    private static final int LEAST = Integer.MIN_VALUE;
    private static final int[] NO_EVENING = {-1, 2, LEAST, MOST};
    private static final String SURE = " comes 1000 worth 9 0 0 0;";

    private static final Check CHECK = new Check();

    private HallBoundaryTests() {
    }

    public static void main(String[] args) {
        full();
        standing();
        fullBounds();
        earns();
        priceBounds();
        howManyPrices();
        found();
        lives();
        kept();
        over();
        overBounds();
        free();
        turnedAndEmpty();
        brings();
        againBounds();
        pairs();
        likePairs();
        pairBounds();
        years();
        goesOver();
        yearsBounds();
        order();
        nobody();
        lastRow();
        ordered();
        owedLeft();
        owedOfATen();
        owedBounds();
        CHECK.end();
    }

    private static SeatHall hall(String text) {
        return Check.hall(text);
    }

    // ---- full ----

    private static void full() {
        CHECK.says("Terms 3", "of all KINDS MANY by COMING by 1000, cut down, together (millionths of people)");
        CHECK.is("no kind", 0, () -> hall("evening 0 0;").full(0, 0));
        CHECK.is("nobody", 0, () -> hall("evening 0 0;people 0" + SURE).full(0, 0));
        CHECK.is("one", 1000000, () -> hall("evening 0 0;people 1" + SURE).full(0, 0));
        CHECK.is("as many as can be", 360000000, () -> hall("evening 0 0;" + ("people 60" + SURE).repeat(6)).full(0, 0));
        // With a TEN of one a millionth of them comes: 1000 billionths, then 999.
        String two = "evening 0 9 rain 1000;evening 0 9 rain 1000;";
        String rare = " comes 1 thinks 1000 wet 999 worth 999 0 0 0;";
        SeatHall x = hall(two + "people 1" + rare + "people 1" + rare + "ten 1 0;");
        CHECK.row("they buy a TEN", new long[] {2, 2}, i -> (long) x.buys(i));
        CHECK.row("coming", new long[] {1000, 999}, i -> (long) x.coming(0, i));
        CHECK.row("of each KIND cut down", new long[] {2, 0}, i -> (long) x.full(i, 0));
        SeatHall y = hall(two + "people 2" + rare + "ten 1 0;");
        CHECK.row("of both of a KIND together", new long[] {2, 1}, i -> (long) y.full(i, 0));
        SeatHall z = hall(two + "people 60" + rare + "ten 1 0;");
        CHECK.row("of sixty", new long[] {60, 59}, i -> (long) z.full(i, 0));
    }

    private static void standing(String text, long want) {
        CHECK.is("[" + text + "]", want, () -> hall(text).full(0, 1));
    }

    private static void standing() {
        CHECK.says("Terms 3", "STANDING: the chance, in billionths, that more than CHAIRS come");
        standing("evening 0 0;", 0);
        standing("evening 0 0;people 0" + SURE, 0);
        standing("evening 0 0;people 1" + SURE, 0);
        standing("evening 0 0;people 2" + SURE, 1000000000);
        standing("chairs 60;evening 0 0;people 60" + SURE, 0);
        standing("chairs 59;evening 0 0;people 60" + SURE, 1000000000);
        String all = "evening 0 0;" + ("people 60" + SURE).repeat(6);
        standing("chairs 400;" + all, 0);
        standing("chairs 360;" + all, 0);
        standing("chairs 359;" + all, 1000000000);
        standing("chairs 1;" + all, 1000000000);
        standing("evening 0 0;people 2 comes 500 worth 9 0 0 0;", 250000000);
        standing("chairs 2;evening 0 0;people 2 comes 500 worth 9 0 0 0;", 0);
        standing("evening 0 0;people 2 comes 0 worth 9 0 0 0;", 0);
        // One evening behind the other, of one object.
        SeatHall x = hall("chairs 2;evening 0 0;evening 1 0;evening 2 0;people 3 comes 1000 worth 9 0 0 0;people 2 comes 500 worth 9 9 0 0;"
                + "people 1 comes 1000 worth 0 9 0 0;");
        for (int turn = 0; turn < 2; turn++) {
            CHECK.row("of three evenings " + turn, new long[] {1000000000, 250000000, 0}, i -> (long) x.full(i, 1));
            CHECK.row("back again " + turn, new long[] {0, 250000000, 1000000000}, i -> (long) x.full(2 - i, 1));
        }
        CHECK.says("Terms 3", "with q being COMING by 1000, cut down");
        // With a TEN of one 148148037 come on the third evening: of 148148 millionths two by two are 21947829.904 billionths.
        SeatHall third = hall("evening 0 9;".repeat(3) + "people 2 comes 333 worth 9 0 0 0;ten 1 0;");
        CHECK.is("coming on the third", 148148037, () -> third.coming(0, 2));
        CHECK.is("q is 148148", 21947829, () -> third.full(2, 1));
        CHECK.says("Terms 3", "by 1,000,000, cut down; those above CHAIRS together");
        // Of four at a half 4 and 1 of 16 are above 2.
        standing("chairs 2;evening 0 0;people 4 comes 500 worth 9 0 0 0;", 312500000);
        // By a thousandth each: of the first a million is one; of the second 1998000 are one, 1000 two; of the third
        // (999 and 1998) are two, and 1 is three.
        standing("evening 0 0;people 3 comes 1 worth 9 0 0 0;", 2998);
        // A chance of 999 millionths by 999 millionths is 998.001 billionths: cut down.
        standing("evening 0 0 rain 1;people 2 comes 1 wet 1 worth 9 0 0 0;", 998);
        // Of a thousand billionths that come (one millionth) none is left of two.
        standing("evening 0 0 rain 1000;people 60 comes 1 wet 999 worth 9 0 0 0;", 0);
    }

    private static void fullBounds() {
        CHECK.says("Promise 15", "FULL of an EVENING (what 0), STANDING (1). NoSuchElementException: also another what.");
        SeatHall x = hall("evening 0 0;evening 0 0;people 1" + SURE);
        CHECK.row("of the last", new long[] {1000000, 0, NO_SUCH}, i -> (long) x.full(1, i));
        for (int what : new int[] {-1, 2, LEAST, MOST}) {
            CHECK.is("what " + what, NO_SUCH, () -> x.full(0, what));
        }
        for (int evening : NO_EVENING) {
            CHECK.is("full, evening " + evening, NO_SUCH, () -> x.full(evening, 0));
            CHECK.is("standing, evening " + evening, NO_SUCH, () -> x.full(evening, 1));
        }
        CHECK.is("no evening", NO_SUCH, () -> hall("people 1" + SURE).full(0, 0));
    }

    // ---- earns and prices ----

    private static void earns(String text, long want) {
        CHECK.is("[" + text + "]", want, () -> hall(text).earns());
    }

    private static void earns() {
        CHECK.says("Promise 16", "EARNS.");
        CHECK.is("a new object", 0, () -> new SeatHall().earns());
        CHECK.says("Terms 3", "of each KIND MANY by 1000 by the PRICE of its TICKET, and, at the DOOR, of each EVENING MANY by COMING by PRICE,"
                + " by 1,000,000, cut down");
        earns("", 0);
        earns("evening 0 9;", 0);
        earns("people 60" + SURE, 0);
        earns("evening 0 8;people 0" + SURE, 0);
        earns("evening 0 0;people 60" + SURE, 0);
        earns("evening 0 9;people 60" + SURE, 0);
        earns("evening 0 8;people 60" + SURE, 480000);
        earns("evening 0 8;people 60" + SURE + "year 0;", 0);
        String most = "evening 0 998;".repeat(16) + "people 60 comes 1000 worth 999 0 0 0;".repeat(6);
        // Both are beyond an int: 360 by 16 by 998 coins, 360 by 9999 coins.
        earns(most, 5748480000L);
        earns(most + "year 9999;", 3599640000L);
        // 999000 by a coin is less than a thousandth, by two coins or two people it is one; then 998999 come.
        String rare = "comes 1 wet 1 worth 999 0 0 0;";
        earns("evening 0 1 rain 1;people 1 " + rare, 0);
        earns("evening 0 1 rain 1;people 2 " + rare, 1);
        earns("evening 0 2 rain 1;people 1 " + rare, 1);
        earns("evening 0 1 rain 1;evening 0 1 rain 1;people 2 " + rare, 2);
        earns("evening 0 1 rain 1;evening 0 1 rain 1;people 1 " + rare, 0);
        earns("evening 0 1 rain 1;people 1 " + rare + "people 1 " + rare, 0);
    }

    private static void priceBounds() {
        CHECK.says("Promise 17", "NoSuchElementException: the TICKET is the DOOR, or isn't told. IllegalArgumentException (behind that): from,"
                + " to not 0 to 9999, from above to, step below 1, more than 60.");
        SeatHall x = hall("evening 0 5;people 2" + SURE + "year 5;cheap 4;");
        for (int ticket : new int[] {0, 2, 3, 5, -1, LEAST, MOST}) {
            CHECK.is("ticket " + ticket, NO_SUCH, () -> x.prices(ticket, 0, 0, 1));
            CHECK.is("ahead of from and to, ticket " + ticket, NO_SUCH, () -> x.prices(ticket, -1, 10000, 1));
            CHECK.is("ahead of the step, ticket " + ticket, NO_SUCH, () -> x.prices(ticket, 0, 0, 0));
            CHECK.is("ahead of too many, ticket " + ticket, NO_SUCH, () -> x.prices(ticket, 0, 9999, 1));
        }
        for (int ticket : new int[] {1, 4}) {
            CHECK.is("from 0 to 0", 1, () -> x.prices(ticket, 0, 0, 1));
            CHECK.is("from 9999 to 9999", 1, () -> x.prices(ticket, 9999, 9999, 1));
            CHECK.is("from -1", ILLEGAL, () -> x.prices(ticket, -1, 0, 1));
            CHECK.is("to -1", ILLEGAL, () -> x.prices(ticket, 0, -1, 1));
            CHECK.is("both -1", ILLEGAL, () -> x.prices(ticket, -1, -1, 1));
            CHECK.is("to 10000", ILLEGAL, () -> x.prices(ticket, 9999, 10000, 1));
            CHECK.is("both 10000", ILLEGAL, () -> x.prices(ticket, 10000, 10000, 1));
            CHECK.is("from above to", ILLEGAL, () -> x.prices(ticket, 1, 0, 1));
            CHECK.is("the least and the greatest", ILLEGAL, () -> x.prices(ticket, LEAST, MOST, 1));
            CHECK.is("the greatest and the least", ILLEGAL, () -> x.prices(ticket, MOST, LEAST, 1));
            CHECK.is("step 0", ILLEGAL, () -> x.prices(ticket, 0, 0, 0));
            CHECK.is("step -1", ILLEGAL, () -> x.prices(ticket, 0, 1, -1));
            CHECK.is("the least step", ILLEGAL, () -> x.prices(ticket, 0, 1, LEAST));
            CHECK.is("61 by 1", ILLEGAL, () -> x.prices(ticket, 0, 60, 1));
            CHECK.is("60 by 1", 60, () -> x.prices(ticket, 0, 59, 1));
            CHECK.is("61 by 166", ILLEGAL, () -> x.prices(ticket, 0, 9960, 166));
            CHECK.is("60 by 166", 60, () -> x.prices(ticket, 0, 9959, 166));
            CHECK.is("61 up to 9999", ILLEGAL, () -> x.prices(ticket, 9939, 9999, 1));
            CHECK.is("60 up to 9999", 60, () -> x.prices(ticket, 9940, 9999, 1));
            CHECK.is("10000", ILLEGAL, () -> x.prices(ticket, 0, 9999, 1));
        }
    }

    private static void howManyPrices() {
        CHECK.says("Terms 3", "is from on, each step further, to at most to (at most 60 of them)");
        SeatHall x = hall("evening 0 5;people 2" + SURE + "year 5;");
        CHECK.is("a step to just to", 2, () -> x.prices(1, 3, 4, 1));
        CHECK.is("a year of 4 was looked at", 4, () -> x.found(0));
        CHECK.is("a step beyond to", 1, () -> x.prices(1, 3, 4, 2));
        CHECK.is("a year of 3 alone was looked at", 3, () -> x.found(0));
        CHECK.is("the greatest step", 1, () -> x.prices(1, 0, 9999, MOST));
        CHECK.row("0 alone was looked at", new long[] {0, 0, 0, 2000000, 0}, i -> x.found(i));
        CHECK.is("a step of 9999", 2, () -> x.prices(1, 0, 9999, 9999));
        CHECK.is("a step of 10000", 1, () -> x.prices(1, 0, 9999, 10000));
        CHECK.is("three", 3, () -> x.prices(1, 0, 8, 4));
        CHECK.is("two and a bit", 2, () -> x.prices(1, 0, 7, 4));
    }

    private static void found() {
        CHECK.says("Terms 3", "that of most EARNS, that of most FULL of all EVENINGS together, the least by which it LIVES; of like ones the least");
        // A year of up to 3 is bought by both, by all evenings; of 4 it is as good as the door.
        SeatHall x = hall("costs 5;evening 0 5;evening 1 0;people 2 comes 1000 habit 1000 worth 9 0 0 0;year 3;");
        CHECK.is("all prices to 9", 10, () -> x.prices(1, 0, 9, 1));
        // By the year each comes to the dull evening too, by habit; at 4 each is at the door again.
        CHECK.row("0 to 9", new long[] {5, 10000, 0, 4000000, 3, NO_SUCH}, i -> x.found(i));
        x.prices(1, 0, 4, 1);
        CHECK.row("0 to 4", new long[] {4, 8000, 0, 4000000, 3}, i -> x.found(i));
        x.prices(1, 5, 8, 1);
        CHECK.row("5 to 8", new long[] {5, 10000, 5, 2000000, 5}, i -> x.found(i));
        x.prices(1, 9999, 9999, 1);
        CHECK.row("9999", new long[] {9999, 10000, 9999, 2000000, 9999}, i -> x.found(i));
        x.prices(1, 0, 2, 1);
        CHECK.row("0 to 2: by none it lives", new long[] {2, 4000, 0, 4000000, -1}, i -> x.found(i));
        CHECK.is("all else as told", 3, () -> x.price(1));
        CHECK.is("it earns as told", 6000, x::earns);
        CHECK.says("Terms 3", "of like ones the least (all else as told)");
        SeatHall two = hall("evening 0 9;people 1 comes 1000 worth 9 0 0 0;people 1 comes 1000 worth 5 0 0 0 young;year 9;ten 1 7;cheap 3;");
        two.prices(1, 6, 8, 1);
        // A year of 6 is better than the TEN of 7, of 7 as good; the young one pays 3.
        CHECK.row("the TEN and the cheap one", new long[] {7, 10000, 6, 2000000, 6}, i -> two.found(i));
        two.prices(2, 0, 9, 9);
        CHECK.row("the TEN for nothing or as dear as the year", new long[] {9, 3000, 0, 2000000, 0}, i -> two.found(i));
        two.prices(4, 0, 9, 9);
        CHECK.row("the cheap one for nothing or too dear", new long[] {0, 7000, 0, 2000000, 0}, i -> two.found(i));
        SeatHall none = hall("year 3;");
        CHECK.is("no evening, no kind", 3, () -> none.prices(1, 7, 9, 1));
        CHECK.row("the first of like ones", new long[] {7, 0, 7, 0, 7}, i -> none.found(i));
        SeatHall poor = hall("costs 1;year 3;");
        poor.prices(1, 7, 9, 1);
        CHECK.row("nobody pays the costs", new long[] {7, 0, 7, 0, -1}, i -> poor.found(i));
    }

    private static void lives() {
        CHECK.says("Terms 3", "It LIVES, if that is 1000 by COSTS or more.");
        String text = "evening 0 9;people 1" + SURE + "year 5;";
        SeatHall just = hall("costs 7;" + text);
        just.prices(1, 0, 8, 1);
        CHECK.is("just 7000", 7, () -> just.found(4));
        SeatHall more = hall("costs 8;" + text);
        more.prices(1, 0, 7, 1);
        CHECK.is("7000 for 8000", -1, () -> more.found(4));
        SeatHall less = hall("costs 0;" + text);
        less.prices(1, 0, 7, 1);
        CHECK.is("nothing for nothing", 0, () -> less.found(4));
        // At the door for two coins 999 thousandths come; who thinks he can't buys no year.
        SeatHall door = hall("costs 2;evening 0 2;people 1 comes 999 thinks 0 worth 9 0 0 0;year 5;");
        door.prices(1, 0, 0, 1);
        CHECK.row("1998 for 2000", new long[] {0, 1998, 0, 999000, -1}, i -> door.found(i));
        SeatHall sure = hall("costs 2;evening 0 2;people 1 comes 1000 thinks 0 worth 9 0 0 0;year 5;");
        sure.prices(1, 0, 0, 1);
        CHECK.row("2000 for 2000", new long[] {0, 2000, 0, 1000000, 0}, i -> sure.found(i));
    }

    private static void kept() {
        CHECK.says("Promise 18", "NoSuchElementException: none is kept, another what.");
        SeatHall x = hall("evening 0 5;people 2" + SURE + "year 5;");
        for (int what = -1; what <= 5; what++) {
            int w = what;
            CHECK.is("none is kept, what " + w, NO_SUCH, () -> x.found(w));
        }
        CHECK.is("refused", ILLEGAL, () -> x.prices(1, 0, 60, 1));
        CHECK.is("none is kept behind a refused one", NO_SUCH, () -> x.found(0));
        x.prices(1, 2, 3, 1);
        CHECK.row("kept", new long[] {3, 6000, 2, 2000000, 2, NO_SUCH}, i -> x.found(i));
        CHECK.is("refused then", ILLEGAL, () -> x.prices(1, 1, 0, 1));
        CHECK.is("no such ticket then", NO_SUCH, () -> x.prices(2, 0, 0, 1));
        CHECK.row("the latest that was not", new long[] {3, 6000, 2, 2000000, 2}, i -> x.found(i));
        for (int what : new int[] {-1, 5, LEAST, MOST}) {
            CHECK.is("what " + what, NO_SUCH, () -> x.found(what));
        }
        Check.feed(x, "year 5;             ");
        x.hall(7);
        CHECK.is("none is kept behind another hall", NO_SUCH, () -> x.found(0));
    }

    // ---- over ----

    private static void over() {
        CHECK.says("Terms 3", "were all of a KIND, so many (1 to 400), to have a YEAR and to USE it as its PLAN with a YEAR is: the greatest of these"
                + " numbers by which STANDING, of these alone, is on no EVENING more than a doubt (billionths)");
        SeatHall one = hall("evening 0 0;people 60" + SURE);
        CHECK.is("one on one chair", 1, () -> one.over(0, 0));
        CHECK.is("one on one chair by nearly any doubt", 1, () -> one.over(0, 999999999));
        CHECK.is("so many", 400, () -> one.over(0, 1000000000));
        CHECK.is("399 chairs", 399, () -> hall("chairs 399;evening 0 0;people 1" + SURE).over(0, 999999999));
        CHECK.is("400 chairs", 400, () -> hall("chairs 400;evening 0 0;people 1" + SURE).over(0, 0));
        CHECK.is("no evening", 400, () -> hall("people 1" + SURE).over(0, 0));
        CHECK.is("nobody of the KIND", 1, () -> hall("evening 0 0;people 0" + SURE).over(0, 0));
        CHECK.is("who never comes", 400, () -> hall("evening 0 0;people 1 comes 0 worth 9 0 0 0;").over(0, 0));
        CHECK.is("to what is worth nothing", 400, () -> hall("evening 1 0;people 1" + SURE).over(0, 0));
        // Two of two at a half: 250000000, of three 500000000 (one and three of eight) above one.
        SeatHall half = hall("evening 0 0;people 1 comes 500 worth 9 0 0 0;");
        CHECK.is("a billionth less than two", 1, () -> half.over(0, 249999999));
        CHECK.is("just two", 2, () -> half.over(0, 250000000));
        CHECK.is("a billionth less than three", 2, () -> half.over(0, 499999999));
        CHECK.is("just three", 3, () -> half.over(0, 500000000));
        SeatHall dear = hall("evening 0 999;evening 1 999;people 1 comes 500 habit 1000 worth 1 0 0 0;year 9999;");
        CHECK.is("none buys it", 0, () -> dear.buys(0));
        CHECK.is("whatever is bought", 2, () -> dear.over(0, 250000000));
        SeatHall two = hall("evening 1 0;evening 0 0;people 1 comes 500 worth 9 0 0 0;people 9" + SURE);
        CHECK.is("the others don't count", 2, () -> two.over(0, 250000000));
        SeatHall six = hall("chairs 395;evening 0 0;" + "people 1 comes 0 worth 9 0 0 0;".repeat(5) + "people 1" + SURE);
        CHECK.row("of the first and of the last of six KINDS", new long[] {400, 395}, i -> (long) six.over(5 * i, 0));
        SeatHall worst = hall("evening 0 0;evening 0 0 rain 1000;people 1 comes 1000 wet 500 worth 9 0 0 0;");
        CHECK.is("on no evening", 1, () -> worst.over(0, 250000000));
    }

    private static void overBounds() {
        CHECK.says("Promise 19", "OVER by a doubt (0 to 1,000,000,000). IllegalArgumentException (behind NoSuchElementException): the doubt.");
        SeatHall x = hall("evening 0 0;people 1" + SURE + "people 1" + SURE);
        CHECK.is("doubt 0", 1, () -> x.over(1, 0));
        CHECK.is("doubt of a billion", 400, () -> x.over(1, 1000000000));
        for (int doubt : new int[] {-1, 1000000001, LEAST, MOST}) {
            CHECK.is("doubt " + doubt, ILLEGAL, () -> x.over(0, doubt));
            CHECK.is("kind 2 ahead of doubt " + doubt, NO_SUCH, () -> x.over(2, doubt));
            CHECK.is("kind -1 ahead of doubt " + doubt, NO_SUCH, () -> x.over(-1, doubt));
        }
        for (int kind : new int[] {-1, 2, LEAST, MOST}) {
            CHECK.is("kind " + kind, NO_SUCH, () -> x.over(kind, 0));
        }
        CHECK.is("no kind", NO_SUCH, () -> hall("evening 0 0;").over(0, 0));
    }

    // ---- again ----

    /** Three year seats at a half, four at the door at a half who don't think that they come: on evening 0 FULL of these is 2000000. */
    private static SeatHall seats(int chairs) {
        SeatHall x = hall("chairs " + chairs + ";evening 1 20;people 3 comes 500 worth 0 40 0 0;"
                + "people 4 comes 500 thinks 0 worth 0 22 0 0;year 1;");
        CHECK.row("who buys, by chairs " + chairs, new long[] {1, 0}, i -> (long) x.buys(i));
        return x;
    }

    private static void free() {
        CHECK.says("Terms 3", "FREE are CHAIRS less the PEOPLE with a YEAR or a YOUNG one (0 at least), by 1,000,000");
        CHECK.is("one chair for three: none is free", 2000000, () -> seats(1).again(0, 0, 2));
        CHECK.is("two chairs for three", 2000000, () -> seats(2).again(0, 0, 2));
        CHECK.is("three chairs", 2000000, () -> seats(3).again(0, 0, 2));
        CHECK.is("one is free", 1000000, () -> seats(4).again(0, 0, 2));
        SeatHall young = hall("chairs 4;evening 1 20;people 2 comes 500 worth 0 40 0 0;people 1 comes 500 worth 0 40 0 0 young;"
                + "people 4 comes 500 thinks 0 worth 0 22 0 0;year 1;cheap 0;");
        CHECK.row("a YOUNG one", new long[] {1, 4, 0}, i -> (long) young.buys(i));
        CHECK.row("takes a chair, too", new long[] {1000000, 20000, 1000000, 1500000}, i -> (long) young.again(0, 0, i));
        for (String ticket : new String[] {"ten 1 0;", "set 0 of 0;"}) {
            SeatHall other = hall("evening 0 8;people 3" + SURE + "people 2 comes 1000 thinks 0 worth 9 0 0 0;" + ticket);
            CHECK.row("who has another takes none [" + ticket + "]", new long[] {0, 0, 1000000, 0}, i -> (long) other.again(0, 0, i));
        }
    }

    private static void turnedAndEmpty() {
        CHECK.says("Terms 3", "TURNED away: FULL of KINDS at the DOOR less FREE, 0 at least");
        CHECK.is("just as many are free", 0, () -> seats(5).again(0, 0, 2));
        CHECK.is("more are free", 0, () -> seats(6).again(0, 0, 2));
        CHECK.is("all are free", 0, () -> seats(400).again(0, 0, 2));
        CHECK.is("nobody there", 0, () -> hall("evening 0 9;").again(0, 0, 2));
        CHECK.is("all at the door, none free but one", 59000000, () -> hall("evening 0 8;people 60" + SURE).again(0, 0, 2));
        CHECK.says("Terms 3", "EMPTY: a million by those PEOPLE less FULL of them; sold AGAIN is the lesser of both");
        CHECK.is("a half of three", 1500000, () -> seats(1).again(0, 0, 3));
        CHECK.row("EMPTY is the lesser", new long[] {1500000, 30000, 2000000, 1500000}, i -> (long) seats(3).again(0, 0, i));
        CHECK.row("TURNED is the lesser", new long[] {1000000, 20000, 1000000, 1500000}, i -> (long) seats(4).again(0, 0, i));
        SeatHall sure = hall("chairs 3;evening 0 7;people 3" + SURE + "people 4 comes 500 thinks 0 worth 9 0 0 0;year 1;");
        CHECK.row("no seat is empty", new long[] {0, 0, 2000000, 0}, i -> (long) sure.again(0, 0, i));
        SeatHall away = hall("chairs 3;evening 0 7;evening 1 7;people 3 comes 1000 worth 9 0 0 0;people 4 comes 500 thinks 0 worth 0 9 0 0;year 1;");
        CHECK.row("all are empty", new long[] {2000000, 14000, 2000000, 3000000}, i -> (long) away.again(1, 0, i));
        SeatHall door = hall("chairs 3;evening 0 7;people 60" + SURE);
        CHECK.row("no seats to hand back", new long[] {0, 0, 57000000, 0}, i -> (long) door.again(0, 0, i));
    }

    private static void brings() {
        CHECK.says("Terms 3", "what that brings: it by (PRICE less b), by 1000, cut down (towards less): thousandths of a coin");
        SeatHall x = seats(4);
        CHECK.is("a coin less than the PRICE", 1000, () -> x.again(0, 19, 1));
        CHECK.is("the PRICE", 0, () -> x.again(0, 20, 1));
        CHECK.is("a coin more", -1000, () -> x.again(0, 21, 1));
        CHECK.is("most coins", -979000, () -> x.again(0, 999, 1));
        // One with a year, who comes by 998993 of a million, and one as likely at the door: 1007 are sold again.
        SeatHall y = hall("evening 0 1 rain 7;people 1 comes 999 wet 1 worth 9 0 0 0;people 1 comes 999 thinks 0 wet 1 worth 9 0 0 0;year 0;");
        CHECK.row("sold", new long[] {1007, 1, 998993, 1007}, i -> (long) y.again(0, 0, i));
        CHECK.is("1.007 by one coin", 1, () -> y.again(0, 0, 1));
        CHECK.is("-1.007 by one coin is -2", -2, () -> y.again(0, 2, 1));
        CHECK.is("-2.014 by two is -3", -3, () -> y.again(0, 3, 1));
        CHECK.is("-1004.986 is -1005", -1005, () -> y.again(0, 999, 1));
    }

    private static void againBounds() {
        CHECK.says("Promise 20", "sold (what 0), what it brings (1), TURNED away (2), EMPTY (3). NoSuchElementException: also another what."
                + " IllegalArgumentException (behind that): b.");
        SeatHall x = hall("evening 0 5;evening 0 5;people 2 comes 1000 worth 9 0 0 0;");
        CHECK.row("of the last", new long[] {0, 0, 1000000, 0, NO_SUCH}, i -> (long) x.again(1, 0, i));
        CHECK.is("b 999", 0, () -> x.again(1, 999, 1));
        for (int b : new int[] {-1, 1000, LEAST, MOST}) {
            CHECK.is("b " + b, ILLEGAL, () -> x.again(0, b, 0));
            CHECK.is("what 4 ahead of b " + b, NO_SUCH, () -> x.again(0, b, 4));
            CHECK.is("what -1 ahead of b " + b, NO_SUCH, () -> x.again(0, b, -1));
            CHECK.is("evening 2 ahead of b " + b, NO_SUCH, () -> x.again(2, b, 0));
        }
        for (int wrong : NO_EVENING) {
            CHECK.is("evening " + wrong, NO_SUCH, () -> x.again(wrong, 0, 0));
        }
        for (int what : new int[] {-1, 4, LEAST, MOST}) {
            CHECK.is("what " + what, NO_SUCH, () -> x.again(0, 0, what));
        }
    }

    // ---- a pair ----

    private static void pairs() {
        CHECK.says("Terms 3", "the two EVENINGS by which, were they the SET, of that PRICE (whatever SET is told), the hall EARNS most");
        SeatHall x = hall("evening 0 9;evening 1 9;evening 2 9;people 1 comes 1000 worth 5 6 7 0;");
        CHECK.is("of 12 the last two", 12000, () -> x.pair(12));
        CHECK.row("the last two", new long[] {1, 2}, i -> (long) x.paired(i));
        CHECK.is("of 13 it is as good as none", 0, () -> x.pair(13));
        SeatHall told = hall("evening 0 9;evening 1 9;evening 2 9;people 1 comes 1000 worth 5 6 7 0;set 1 of 0;");
        CHECK.is("the told SET has another", 12000, () -> told.pair(12));
        SeatHall all = hall("evening 1 9;".repeat(14) + "evening 0 9;evening 0 9;people 1 comes 1000 worth 9 1 0 0;");
        CHECK.is("of sixteen", 17000, () -> all.pair(17));
        CHECK.row("the last two of sixteen", new long[] {14, 15}, i -> (long) all.paired(i));
        SeatHall thinks = hall("evening 0 9;evening 0 9;people 2 comes 0 thinks 1000 worth 9 0 0 0;people 1 comes 1000 thinks 0 worth 9 0 0 0;");
        CHECK.is("those who think that they come buy it", 34000, () -> thinks.pair(17));
        CHECK.is("once more", 34000, () -> thinks.pair(17));
        SeatHall ends = hall("evening 0 9;" + "evening 1 9;".repeat(14) + "evening 0 9;people 1 comes 1000 worth 9 1 0 0;");
        CHECK.is("of both ends", 17000, () -> ends.pair(17));
        CHECK.row("the first and the last", new long[] {0, 15}, i -> (long) ends.paired(i));
    }

    private static void likePairs() {
        CHECK.says("Terms 3", "of like ones the first as a row");
        SeatHall like = hall("evening 0 9;".repeat(4) + "people 1 comes 1000 worth 5 0 0 0;");
        CHECK.is("all alike", 9000, () -> like.pair(9));
        CHECK.row("all alike", new long[] {0, 1}, i -> (long) like.paired(i));
        // 0 and 3, 1 and 2, 1 and 3, 2 and 3 are dear enough.
        SeatHall x = hall("evening 1 9;evening 2 9;evening 2 9;evening 3 9;people 1 comes 1000 worth 0 1 5 9;");
        CHECK.is("of 9", 9000, () -> x.pair(9));
        CHECK.row("0 and 3 ahead of 1 and 2", new long[] {0, 3}, i -> (long) x.paired(i));
        SeatHall nobody = hall("evening 0 9;evening 0 9;evening 0 9;");
        CHECK.is("nobody", 0, () -> nobody.pair(5));
        CHECK.row("nobody's", new long[] {0, 1}, i -> (long) nobody.paired(i));
    }

    private static void pairBounds() {
        CHECK.says("Promise 21", "A PAIR for a PRICE (0 to 9999): what it EARNS; it is kept. NONE: fewer than two EVENINGS (what is kept stays)."
                + " IllegalArgumentException: the PRICE.");
        SeatHall none = hall("people 1" + SURE);
        SeatHall one = hall("evening 0 9;people 1" + SURE);
        SeatHall two = hall("evening 0 9;evening 0 9;people 1" + SURE);
        for (int price : new int[] {-1, 10000, LEAST, MOST}) {
            CHECK.is("price " + price, ILLEGAL, () -> two.pair(price));
            CHECK.is("price of no evening " + price, ILLEGAL, () -> none.pair(price));
            CHECK.is("price of one evening " + price, ILLEGAL, () -> one.pair(price));
        }
        CHECK.is("none", -1, () -> none.pair(0));
        CHECK.is("one", -1, () -> one.pair(9999));
        CHECK.is("nothing is kept of that", NO_SUCH, () -> one.paired(0));
        CHECK.is("nothing is kept of a refused one", NO_SUCH, () -> two.paired(0));
        CHECK.is("for nothing", 0, () -> two.pair(0));
        CHECK.is("just two", 1, () -> two.paired(1));
        CHECK.is("for 9999", 0, () -> two.pair(9999));
        CHECK.says("Promise 22", "The first (what 0), the second (1) of the PAIR that is kept. NoSuchElementException: none is, another what.");
        CHECK.row("kept", new long[] {0, 1, NO_SUCH}, i -> (long) two.paired(i));
        for (int what : new int[] {-1, 2, LEAST, MOST}) {
            CHECK.is("what " + what, NO_SUCH, () -> two.paired(what));
            CHECK.is("what of none " + what, NO_SUCH, () -> one.paired(what));
        }
        Check.feed(two, "evening 0 9;        ");
        two.hall(12);
        CHECK.is("gone with its hall", NO_SUCH, () -> two.paired(0));
        CHECK.is("none of one evening", -1, () -> two.pair(0));
        CHECK.is("still none", NO_SUCH, () -> two.paired(0));
    }

    // ---- years ----

    private static void years() {
        CHECK.says("Terms 3", "YEARS: so many (1 to 60), one behind the other: a year EARNS as the HALL is then");
        SeatHall x = hall("evening 0 1;people 8 comes 1000 worth 9 0 0 0 young;people 1 comes 1000 worth 9 0 0 0;cheap 0;");
        CHECK.row("one year is as the hall is told", new long[] {1000, 1000, 4, 5}, i -> x.years(1, 500, i));
        CHECK.row("a second one", new long[] {5000, 6000, 2, 7}, i -> x.years(2, 500, i));
        CHECK.row("a third one", new long[] {7000, 13000, 1, 8}, i -> x.years(3, 500, i));
        // Of one a half is none.
        CHECK.row("a fourth one", new long[] {8000, 21000, 1, 8}, i -> x.years(4, 500, i));
        CHECK.row("sixty", new long[] {8000, 13000 + 57 * 8000, 1, 8}, i -> x.years(60, 500, i));
        CHECK.row("no kind", new long[] {0, 0, NO_SUCH}, i -> hall("evening 0 1;").years(60, 1000, i));
        SeatHall rich = hall("evening 0 999;".repeat(16) + "people 60 comes 1000 worth 999 0 0 0;".repeat(6) + "year 9999;");
        CHECK.is("beyond an int", 3599640000L, () -> rich.years(60, 1000, 0));
        CHECK.is("all together", 60 * 3599640000L, () -> rich.years(60, 1000, 1));
    }

    private static void goesOver() {
        CHECK.says("Terms 3", "MANY by a share (0 to 1000), by 1000, cut down, goes over to the next KIND that isn't YOUNG (the first one"
                + " behind it by number; none goes if there is none), all by MANY as the year was (KINDS may be of more than 60 then)");
        String old = "people 60 comes 1000 worth 9 0 0 0;";
        String young = "people 60 comes 1000 worth 9 0 0 0 young;";
        SeatHall x = hall(old + young + young + old + old + young);
        CHECK.row("share 0", new long[] {60, 60, 60, 60, 60, 60, NO_SUCH}, i -> x.years(60, 0, i + 2));
        CHECK.row("share 1000", new long[] {60, 0, 0, 180, 60, 60, NO_SUCH}, i -> x.years(1, 1000, i + 2));
        CHECK.row("share 1000 for two years", new long[] {60, 0, 0, 180, 60, 60}, i -> x.years(2, 1000, i + 2));
        CHECK.row("a share of 60 that is less than one", new long[] {60, 60, 60, 60, 60, 60}, i -> x.years(60, 16, i + 2));
        CHECK.row("a share of 60 that is one", new long[] {60, 59, 59, 62, 60, 60}, i -> x.years(1, 17, i + 2));
        CHECK.row("999 of 60", new long[] {60, 1, 1, 178, 60, 60}, i -> x.years(1, 999, i + 2));
        SeatHall all = hall(young.repeat(5) + old);
        CHECK.row("all to the last", new long[] {0, 0, 0, 0, 0, 360}, i -> all.years(1, 1000, i + 2));
        SeatHall none = hall(old + young.repeat(5));
        CHECK.row("none is behind them", new long[] {60, 60, 60, 60, 60, 60}, i -> none.years(60, 1000, i + 2));
        SeatHall alone = hall(young);
        CHECK.is("alone", 60, () -> alone.years(1, 1000, 2));
        // The young have theirs for nothing; of the others 60, then 90 pay at the door.
        SeatHall more = hall("evening 0 1;" + young + old + "cheap 0;");
        CHECK.row("more than 60", new long[] {90000, 150000, 15, 105}, i -> more.years(2, 500, i));
        CHECK.is("MANY stays", 60, () -> more.kind(0, 0));
    }

    private static void yearsBounds() {
        CHECK.says("Promise 23", "PEOPLE of a KIND behind the last (2 and the KIND). NoSuchElementException: another what."
                + " IllegalArgumentException (behind that): years, the share.");
        SeatHall x = hall("people 3 comes 1000 worth 9 0 0 0;people 4 comes 1000 worth 9 0 0 0;");
        CHECK.row("what", new long[] {0, 0, 3, 4, NO_SUCH, NO_SUCH}, i -> x.years(1, 0, i));
        CHECK.is("1 and 0", 3, () -> x.years(1, 0, 2));
        CHECK.is("60 and 1000", 4, () -> x.years(60, 1000, 3));
        for (int years : new int[] {0, 61, -1, LEAST, MOST}) {
            CHECK.is("years " + years, ILLEGAL, () -> x.years(years, 0, 0));
            CHECK.is("what 4 ahead of years " + years, NO_SUCH, () -> x.years(years, 0, 4));
        }
        for (int share : new int[] {-1, 1001, LEAST, MOST}) {
            CHECK.is("share " + share, ILLEGAL, () -> x.years(1, share, 0));
            CHECK.is("what -1 ahead of share " + share, NO_SUCH, () -> x.years(1, share, -1));
        }
        for (int what : new int[] {-1, 4, LEAST, MOST}) {
            CHECK.is("what " + what, NO_SUCH, () -> x.years(1, 0, what));
        }
        SeatHall six = hall("people 3 comes 1000 worth 9 0 0 0;".repeat(6));
        CHECK.row("six kinds", new long[] {3, NO_SUCH}, i -> six.years(1, 0, 7 + i));
    }

    // ---- order ----

    private static void order(String text, long want) {
        CHECK.is("[" + text + "]", want, () -> hall(text).order());
    }

    private static void order() {
        CHECK.says("Terms 3", "GAINED: of each seat that is taken ADDS by GONE of who has it, by 1,000,000, cut down, together"
                + " (who finds none gains nothing)");
        String three = "evening 0 0;people 3" + SURE;
        order(three, 0);
        order(three + "seats 2 adds 5;", 10000);
        order(three + "seats 3 adds 5;", 15000);
        order(three + "seats 4 adds 5;", 15000);
        order(three + "seats 400 adds 0;", 0);
        order(three + "seats 1 adds 0;seats 1 adds 99;", 99000);
        order(three + "seats 1 adds 1;seats 1 adds 2;seats 1 adds 3;seats 1 adds 4;", 9000);
        order(three + "seats 400 adds 1;seats 2 adds 99;", 2 * 99000 + 1000);
        order("evening 0 0;people 1 comes 500 worth 9 0 0 0;people 1" + SURE + "seats 1 adds 9;", 4500);
        order(three + "seats 1 adds 4;seats 1 adds 3;seats 1 adds 2;seats 1 adds 1;", 9000);
        order(three + "seats 1 adds 1;seats 1 adds 7;seats 1 adds 7;", 15000);
        order(three + "seats 1 adds 2;seats 1 adds 3;seats 1 adds 1;seats 1 adds 3;", 8000);
        order(three + "seats 1 adds 7;seats 1 adds 7;", 14000);
        // A chance of 1 and of 999 millionths: of each seat a thousandth of ADDS, cut down.
        order("evening 0 0 rain 1000;people 60 comes 1 wet 999 worth 9 0 0 0;seats 60 adds 99;", 0);
        order("evening 0 0 rain 1;people 60 comes 1 wet 1 worth 9 0 0 0;seats 60 adds 1;", 0);
        order("evening 0 0 rain 1;people 60 comes 1 wet 1 worth 9 0 0 0;seats 60 adds 2;", 60);
        String most = "evening 0 0;".repeat(16) + "people 60 comes 1000 worth 9 0 0 0;".repeat(6);
        order(most + "seats 400 adds 99;", 360 * 16 * 99000);
        order(most + "seats 90 adds 99;".repeat(4), 360 * 16 * 99000);
        order(most + "seats 89 adds 99;".repeat(4), 356 * 16 * 99000);
        CHECK.says("Terms 3", "THE BEST: of most GAINED, of like ones the first as a row.");
        // The door and the year, one each, one seat: both gain as much.
        SeatHall x = hall("evening 0 5;people 1 comes 1000 thinks 0 worth 6 0 0 0;people 1 comes 1000 worth 6 0 0 0;year 4;seats 1 adds 9;");
        CHECK.row("door and year", new long[] {0, 1}, i -> (long) x.buys(i));
        CHECK.is("who sits gains nine", 9000, x::order);
        CHECK.row("the door first", new long[] {0, 1, NO_SUCH}, i -> (long) x.ordered(i));
        SeatHall y = hall("evening 0 5;people 1 comes 999 thinks 0 worth 6 0 0 0;people 1 comes 1000 worth 6 0 0 0;year 4;seats 1 adds 9;");
        CHECK.is("the year gains more", 9000, y::order);
        CHECK.row("the year first", new long[] {1, 0, NO_SUCH}, i -> (long) y.ordered(i));
    }

    private static void nobody() {
        CHECK.says("Terms 3", "ORDER of the TICKETS that somebody BUYS (KINDS of 0 are nobody)");
        SeatHall none = hall("evening 0 0;seats 1 adds 1;");
        CHECK.is("no kind", 0, none::order);
        CHECK.is("no ticket", NO_SUCH, () -> none.ordered(0));
        SeatHall zero = hall("evening 0 0;people 0" + SURE + "seats 1 adds 1;");
        CHECK.is("a KIND of 0", 0, zero::order);
        CHECK.is("no ticket of nobody", NO_SUCH, () -> zero.ordered(0));
        // One buys the year; nobody stands at the door.
        SeatHall one = hall("evening 0 5;people 0 comes 1000 thinks 0 worth 9 0 0 0;people 1" + SURE + "year 1;seats 1 adds 1;");
        CHECK.row("door and year", new long[] {0, 1}, i -> (long) one.buys(i));
        CHECK.is("the one", 1000, one::order);
        CHECK.row("the year alone", new long[] {1, NO_SUCH}, i -> (long) one.ordered(i));
        // All five tickets: who thinks he can't, who comes to both dear evenings, and so on.
        SeatHall five = hall("evening 0 20;evening 1 20;evening 2 20;"
                + "people 1 comes 1000 thinks 0 worth 30 30 30 0;people 1 comes 1000 worth 19 19 19 0;people 1 comes 1000 worth 19 0 0 0;"
                + "people 1 comes 1000 worth 0 19 19 0;people 1 comes 1000 worth 19 19 19 0 young;"
                + "year 12;ten 1 3;set 5 of 1 2;cheap 1;seats 3 adds 9;");
        CHECK.row("who buys", new long[] {0, 1, 2, 3, 4}, i -> (long) five.buys(i));
        // Three, three, one, two and three evenings: the best have three.
        CHECK.is("three seats for three", 81000, five::order);
        CHECK.row("all five", new long[] {0, 1, 4, 2, 3, NO_SUCH}, i -> (long) five.ordered(i));
    }

    private static void lastRow() {
        CHECK.says("Promise 24", "GAINED by the best; it is kept.");
        SeatHall fresh = new SeatHall();
        CHECK.is("of a new object", 0, fresh::order);
        CHECK.is("an ORDER of no ticket", NO_SUCH, () -> fresh.ordered(0));
        CHECK.says("Terms 3", "who sits first");
        // Gone are 30, 60, 300, 800 and 2700 millions: each ticket's people in a row of seats of their own, the door's in none.
        SeatHall x = hall("evening 0 20;evening 1 20;evening 2 20;"
                + "people 1 comes 10 thinks 0 worth 30 30 30 0;people 1 comes 20 thinks 1000 worth 19 19 19 0;"
                + "people 1 comes 300 thinks 1000 worth 19 0 0 0;people 1 comes 400 thinks 1000 worth 0 19 19 0;"
                + "people 1 comes 900 thinks 1000 worth 19 19 19 0 young;year 12;ten 1 3;set 5 of 1 2;cheap 1;"
                + "seats 1 adds 3;seats 1 adds 1;seats 1 adds 4;seats 1 adds 2;");
        for (int turn = 0; turn < 2; turn++) {
            CHECK.is("the last of all rows of five " + turn, 4 * 2700 + 3 * 800 + 2 * 300 + 60, x::order);
            CHECK.row("the last of all rows of five " + turn, new long[] {4, 3, 2, 1, 0, NO_SUCH}, i -> (long) x.ordered(i));
        }
    }

    private static void ordered() {
        CHECK.says("Promise 25", "The i-th TICKET of the ORDER that is kept. NoSuchElementException: none is kept, there is none.");
        SeatHall x = hall("evening 0 0;people 1" + SURE);
        CHECK.is("none is kept", NO_SUCH, () -> x.ordered(0));
        CHECK.is("no seats", 0, x::order);
        CHECK.row("the door", new long[] {0, NO_SUCH}, i -> (long) x.ordered(i));
        for (int i : new int[] {-1, 1, 5, LEAST, MOST}) {
            CHECK.is("there is none " + i, NO_SUCH, () -> x.ordered(i));
        }
        Check.feed(x, "evening 0 0;        ");
        x.hall(12);
        CHECK.is("gone with its hall", NO_SUCH, () -> x.ordered(0));
    }

    // ---- owed ----

    private static void owedLeft() {
        CHECK.says("Terms 3", "of a YEAR, a YOUNG one 1000 by PRICE by EVENINGS that are left, by all, cut down; of a SET by those of it"
                + " that are left, by all of it, cut down");
        String evenings = "evening 0 999;".repeat(16);
        SeatHall year = hall(evenings + "people 1 comes 1000 worth 999 0 0 0;year 9999;");
        CHECK.is("of the dearest behind the first: 9999000 by 15 by 16", 9374062, () -> year.owed(0, 0));
        CHECK.is("ahead of the last: by 16", 624937, () -> year.owed(0, 14));
        CHECK.is("behind the last", 0, () -> year.owed(0, 15));
        SeatHall young = hall(evenings + "people 1 comes 1000 worth 999 0 0 0 young;cheap 9999;");
        CHECK.is("of a YOUNG one", 9374062, () -> young.owed(0, 0));
        CHECK.is("of a YOUNG one behind the last", 0, () -> young.owed(0, 15));
        SeatHall only = hall("evening 0 9;people 1" + SURE + "year 1;");
        CHECK.is("behind the only one", 0, () -> only.owed(0, 0));
        SeatHall free = hall("evening 0 9;evening 0 9;people 1" + SURE + "year 0;");
        CHECK.is("of a PRICE of 0", 0, () -> free.owed(0, 0));
        SeatHall set = hall("evening 0 9;".repeat(5) + "people 1" + SURE + "set 1 of 1 2 4;");
        CHECK.row("of three: all, two, one, one, none", new long[] {1000, 666, 333, 333, 0}, i -> (long) set.owed(0, i));
        SeatHall last = hall("evening 0 9;".repeat(3) + "people 1" + SURE + "set 1 of 2;");
        CHECK.row("of the last alone", new long[] {1000, 1000, 0}, i -> (long) last.owed(0, i));
        SeatHall first = hall("evening 0 9;".repeat(3) + "people 1" + SURE + "set 1 of 0;");
        CHECK.row("of the first alone", new long[] {0, 0, 0}, i -> (long) first.owed(0, i));
        SeatHall all = hall("evening 0 9;".repeat(3) + "people 1" + SURE + "set 1 of 0 1 2;");
        CHECK.row("of all", new long[] {666, 333, 0}, i -> (long) all.owed(0, i));
        SeatHall door = hall("evening 0 1;evening 0 1;people 1" + SURE);
        CHECK.row("of the DOOR 0", new long[] {0, 0, NO_SUCH}, i -> (long) door.owed(0, i));
    }

    private static void owedOfATen() {
        CHECK.says("Terms 3", "of a TEN PRICE by LEFT, by 1000 times T, cut down, LEFT being k by its billionths, of all cases behind that EVENING"
                + " together, by 1000, cut down");
        SeatHall sure = hall("evening 0 99;".repeat(16) + "people 1 comes 1000 worth 99 0 0 0;ten 12 7;");
        // It waits for the last twelve.
        CHECK.is("behind the first all are left", 7000, () -> sure.owed(0, 0));
        CHECK.is("ahead of the last twelve", 7000, () -> sure.owed(0, 3));
        CHECK.is("eleven of twelve: 6416.6", 6416, () -> sure.owed(0, 4));
        CHECK.is("one of twelve: 583.3", 583, () -> sure.owed(0, 14));
        CHECK.is("none is left", 0, () -> sure.owed(0, 15));
        SeatHall more = hall("evening 0 99;people 1 comes 1000 worth 99 0 0 0;ten 12 12;");
        CHECK.is("more than there are evenings", 11000, () -> more.owed(0, 0));
        SeatHall never = hall("evening 0 99;people 1 comes 0 thinks 1000 worth 99 0 0 0;ten 1 9;");
        CHECK.is("who never comes", 9000, () -> never.owed(0, 0));
        SeatHall half = hall("evening 0 9;evening 0 9;people 1 comes 500 worth 9 0 0 0;ten 1 1;");
        CHECK.row("a half and a quarter", new long[] {500, 250}, i -> (long) half.owed(0, i));
        SeatHall third = hall("evening 0 9;evening 0 9;people 1 comes 333 worth 9 0 0 0;ten 1 1;");
        CHECK.row("667 and 444.889", new long[] {667, 444}, i -> (long) third.owed(0, i));
        // 296740963 are left: LEFT is 296740, by 951 coins 282199.74 (of 296740.963 it would be 282200.65).
        SeatHall dear = hall("evening 0 999;".repeat(3) + "people 1 comes 333 thinks 900 worth 999 0 0 0;ten 1 951;");
        CHECK.is("LEFT is cut down, too", 282199, () -> dear.owed(0, 2));
    }

    private static void owedBounds() {
        CHECK.says("Promise 26", "OWED to one of a KIND, broken off behind an EVENING.");
        SeatHall x = hall("evening 0 9;evening 0 9;people 0" + SURE + "people 1" + SURE + "year 1;");
        CHECK.is("of a KIND of nobody", 500, () -> x.owed(0, 0));
        CHECK.is("of the last kind behind the last", 0, () -> x.owed(1, 1));
        for (int wrong : NO_EVENING) {
            CHECK.is("kind " + wrong, NO_SUCH, () -> x.owed(wrong, 0));
            CHECK.is("evening " + wrong, NO_SUCH, () -> x.owed(0, wrong));
            CHECK.is("both " + wrong, NO_SUCH, () -> x.owed(wrong, wrong));
        }
        CHECK.is("no evening", NO_SUCH, () -> hall("people 1" + SURE + "year 1;").owed(0, 0));
        CHECK.is("no kind", NO_SUCH, () -> hall("evening 0 1;year 1;").owed(0, 0));
    }
}

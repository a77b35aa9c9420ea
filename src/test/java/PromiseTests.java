/** Promise by promise: ordinary inputs, the edges that the document names, wrong inputs. */
public final class PromiseTests {
    private static final long NO_SUCH = Check.NO_SUCH;
    private static final long ILLEGAL = Check.ILLEGAL;
    private static final int MOST = Integer.MAX_VALUE;
    private static final int LEAST = Integer.MIN_VALUE;
    private static final String SMALL = "chairs 2;costs 30;evening 0 10;evening 1 4;people 2 comes 500 worth 20 0 0 0;"
            + "people 1 comes 1000 habit 500 worth 30 10 0 0;year 5;ten 1 8;seats 1 adds 5;seats 3 adds 2;";

    private static final Check CHECK = new Check();

    private PromiseTests() {
    }

    public static void main(String[] args) {
        newObject();
        feed();
        hallTakesTheTape();
        hallForgets();
        hallsOneBehindTheOther();
        faults();
        faultNumbers();
        faultCounts();
        numbers();
        chance();
        good();
        buys();
        goes();
        coming();
        comingOfHabit();
        often();
        full();
        earns();
        prices();
        over();
        again();
        pair();
        years();
        order();
        owed();
        runs();
        wetRun();
        runOfTens();
        runOfAllPeople();
        runThatFalls();
        drawsOnTheEdge();
        images();
        CHECK.end();
    }

    private static void due(String name, long want, Check.Call call) {
        CHECK.due(name, want, call);
    }

    private static void row(String name, long[] want, java.util.function.IntFunction<Long> call) {
        for (int i = 0; i < want.length; i++) {
            int at = i;
            due(name + " [" + i + "]", want[i], () -> call.apply(at));
        }
    }

    private static void newObject() {
        SeatHall x = new SeatHall();
        row("1: count of a new object", new long[] {1, 0, 0, 0, 0, 0, 1, 0, 0, 0, NO_SUCH}, i -> (long) x.count(i));
        row("1: price of a new object", new long[] {-1, -1, -1, -1, -1, NO_SUCH}, i -> (long) x.price(i));
        due("1: no fault", -1, x::fault);
        due("1: no evening", NO_SUCH, () -> x.evening(0, 0));
        due("1: no kind", NO_SUCH, () -> x.kind(0, 0));
        due("1: earns nothing", 0, x::earns);
        due("1: nothing found", NO_SUCH, () -> x.found(0));
        due("1: no pair", NO_SUCH, () -> x.paired(0));
        due("1: no order is kept", NO_SUCH, () -> x.ordered(0));
        due("1: order of none", 0, x::order);
        due("1: still no first", NO_SUCH, () -> x.ordered(0));
        due("1: no run", -1, () -> x.on(0));
        due("1: no image", 0, () -> Check.bit(x.image()));
        due("1: nothing to restore", 0, () -> Check.bit(x.restore()));
        due("1: years of nobody", 0, () -> x.years(60, 1000, 1));
        due("1: NONE", -1, () -> SeatHall.NONE);
    }

    private static void feed() {
        SeatHall x = new SeatHall();
        due("2: twenty", 20, () -> x.feed(0x63686169, 0x72732033, 0x39373b63, 0x6f737473, 0x20313b20));
        due("2: the highest byte first", 0, () -> x.hall(20));
        due("2: chairs 397", 397, () -> x.count(0));
        due("2: costs 1", 1, () -> x.count(1));
        for (int i = 1; i <= 35; i++) {
            int size = 20 * i;
            due("2: feed " + i, size, () -> x.feed(0x20202020, 0x20202020, 0x20202020, 0x20202020, 0x20202020));
        }
        due("2: beyond 700", -1, () -> x.feed(0, 0, 0, 0, 0));
        due("2: none came", 700, () -> x.count(7));
        due("2: all blanks", 0, () -> x.hall(700));
        SeatHall y = new SeatHall();
        y.feed(-1, -1, -1, -1, -1);
        due("2: a byte of 255", 1, () -> y.hall(1));
        due("2: it is at 0", 0, y::fault);
        due("2: the tape is empty", 20, () -> y.feed(0, 0, 0, 0, 0));
    }

    private static void hallTakesTheTape() {
        SeatHall x = new SeatHall();
        Check.feed(x, "chairs 5;costs 7;    ");
        due("3: too many bytes", ILLEGAL, () -> x.hall(41));
        due("3: below 0", ILLEGAL, () -> x.hall(-1));
        due("3: the least", ILLEGAL, () -> x.hall(LEAST));
        due("3: nothing changed", 40, () -> x.count(7));
        due("3: the first n bytes", 0, () -> x.hall(9));
        row("3: chairs alone", new long[] {5, 0, 0, 0, 0, 0, 1, 0, 0, 0}, i -> (long) x.count(i));
        Check.feed(x, "chairs 6;oh");
        due("3: a fault", 1, () -> x.hall(11));
        row("3: all stays but tape and status", new long[] {5, 0, 0, 0, 0, 0, 1, 0, 1, 0}, i -> (long) x.count(i));
        due("4: its place", 9, x::fault);
        due("3: one byte of none", ILLEGAL, () -> x.hall(1));
        due("4: a refused call leaves the place", 9, x::fault);
        due("3: status not counted", 1, () -> x.count(8));
        due("3: the empty text", 0, () -> x.hall(0));
        due("4: no fault any more", -1, x::fault);
        row("3: all anew", new long[] {1, 0, 0, 0, 0, 0, 1, 0, 1, 0}, i -> (long) x.count(i));
        SeatHall y = Check.hall("chairs9;costs 3;\nevening\n1 2rain 3;people 4 comes5worth 1 2 3 4;seats 5 adds 6;");
        row("3: blanks count for nothing", new long[] {9, 3, 1, 1, 4, 1, 1}, i -> (long) y.count(i));
        Check.feed(y, "evening 0 1;");
        y.hall(12);
        row("3: what isn't told is as at first", new long[] {1, 0, 1, 0, 0, 0, 1}, i -> (long) y.count(i));
        row("3: rain, too", new long[] {0, 1, 0, 0}, i -> (long) y.evening(0, i));
    }

    private static void hallForgets() {
        SeatHall x = Check.hall(SMALL);
        x.begin(1);
        x.image();
        x.on(1);
        x.prices(1, 0, 30, 5);
        x.pair(0);
        x.order();
        Check.feed(x, "no");
        due("3: fault", 1, () -> x.hall(2));
        due("3: the run stays", 1, () -> x.on(0));
        due("3: what was found stays", 15, () -> x.found(0));
        due("3: the pair stays", 1, () -> x.paired(1));
        due("3: the order stays", 1, () -> x.ordered(0));
        due("3: the image stays", 1, () -> Check.bit(x.restore()));
        Check.feed(x, SMALL);
        due("3: anew", 0, () -> x.hall(SMALL.length()));
        due("3: the run is gone", -1, () -> x.on(0));
        due("3: what it has seen is gone", NO_SUCH, () -> x.seen(0, 0));
        due("3: what was found is gone", NO_SUCH, () -> x.found(0));
        due("3: the pair is gone", NO_SUCH, () -> x.paired(1));
        due("3: the order is gone", NO_SUCH, () -> x.ordered(0));
        due("3: the image is gone", 0, () -> Check.bit(x.restore()));
        due("3: no run, no image", 0, () -> Check.bit(x.image()));
        row("3: status stays", new long[] {1, 1}, i -> (long) x.count(8 + i));
    }

    private static void read(SeatHall x, String text) {
        Check.feed(x, text);
        due("3: read " + text, 0, () -> x.hall(text.length()));
    }

    private static void hallsOneBehindTheOther() {
        SeatHall x = new SeatHall();
        String all = "chairs 3;costs 4;evening 1 2 rain 3;evening 1 2 rain 3;people 1 comes 1000 wet 5 habit 6 falls 7 worth 9 9 9 9 young;"
                + "seats 5 adds 6;year 1;ten 2 3;set 4 of 0;cheap 5;";
        // Three, in case that two take turns.
        read(x, all);
        due("19: three and more", 3, () -> x.over(0, 0));
        read(x, all);
        read(x, "evening 0 0;evening 0 0;people 1 comes 1000 worth 1 1 1 1;");
        row("3: nothing is left of it", new long[] {1, 0, 2, 1, 1, 0, 1}, i -> (long) x.count(i));
        row("3: no price", new long[] {-1, -1, -1, -1, -1}, i -> (long) x.price(i));
        row("3: no rain, no set", new long[] {0, 0, 0, 0}, i -> (long) x.evening(0, i));
        row("3: nor of people", new long[] {1, 1000, 1000, 0, 0, 0, 1, 1, 1, 1, 0}, i -> (long) x.kind(0, i));
        due("19: anew", 1, () -> x.over(0, 0));
        read(x, "evening 0 9;evening 0 9;people 1 comes 1000 worth 9 0 0 0;set 0 of 0;");
        due("12: by the set", 1, () -> Check.bit(x.goes(0, 0, 0, 0)));
        read(x, "evening 0 9;evening 0 9;people 1 comes 1000 worth 9 0 0 0;set 0 of 1;");
        due("12: by another set", 0, () -> Check.bit(x.goes(0, 0, 0, 0)));
        read(x, "chairs 2;evening 0 9;people 3 comes 1000 worth 9 0 0 0;");
        due("19: anew again", 2, () -> x.over(0, 0));
        read(x, "chairs 1;evening 0 9;people 3 comes 1000 worth 9 0 0 0;");
        due("19: one", 1, () -> x.over(0, 0));
    }

    private static void fault(String text, int number, int place) {
        SeatHall x = new SeatHall();
        Check.feed(x, text);
        due("3: fault of " + text, number, () -> x.hall(text.length()));
        due("4: place in " + text, place, x::fault);
        due("5: counted " + text, number == 0 ? 0 : 1, () -> x.count(8));
    }

    private static void faults() {
        fault(";", 1, 0);
        fault("  chair 5;", 1, 2);
        fault("Chairs 5;", 1, 0);
        fault("chairsz 5;", 1, 0);
        fault("achairs 5;", 1, 0);
        fault("thairs 5;", 1, 0);
        fault("chairt 5;", 1, 0);
        fault("chairs`5;", 1, 6);
        fault("chairs{5;", 1, 6);
        fault("chairs/5;", 1, 6);
        fault("chairs:5;", 1, 6);
        fault("chairs\t5;", 1, 6);
        fault("chairs 5", 1, 8);
        fault("chairs 5  \n ", 1, 12);
        fault("chairs", 1, 6);
        fault("chairs ; ", 1, 7);
        fault("chairs 5 6;", 1, 9);
        fault("chairs 5;;", 1, 9);
        fault("chairs 5;costs 12 costs", 1, 18);
        fault("5 chairs;", 1, 0);
        fault("12345;", 1, 0);
        fault("rain 5;", 1, 0);
        fault("evening 0 1 rain;", 1, 16);
        fault("evening 0 1 wet 5;", 1, 12);
        fault("evening 0 1 rain 5 rain 5;", 1, 19);
        fault("evening 0 1 rain 5,", 1, 18);
        fault("people 1 comes 5 wet 1 thinks 2 worth 1 1 1 1;", 1, 23);
        fault("people 1 comes 5 falls 1 habit 2 worth 1 1 1 1;", 1, 25);
        fault("people 1 comes 5 worth 1 1 1 1 1;", 1, 31);
        fault("people 1 comes 5 worth 1 1 1 1 old;", 1, 31);
        fault("people 1 comes 5 worth 1 1 1 1 young young;", 1, 37);
        fault("people comes 5 worth 1 1 1 1;", 1, 7);
        fault("people 1 comes 5 young worth 1 1 1 1;", 1, 17);
        fault("people 1 comes 5 thinks worth 1 1 1 1;", 1, 24);
        fault("seats 5 add 1;", 1, 8);
        fault("seats 5 adds;", 1, 12);
        fault("ten 5;", 1, 5);
        fault("year;", 1, 4);
        fault("set 5 0;", 1, 6);
        fault("evening 0 0;set 5 of;", 1, 20);
        fault("evening 0 0;set 5 of 0,", 1, 22);
        fault("evening 0 0;set 5 of 0 of 1;", 1, 23);
        fault("cheap 5 young;", 1, 8);
    }

    private static void faultNumbers() {
        fault("chairs 0;", 2, 7);
        fault("chairs 401;", 2, 7);
        fault("chairs 00005;", 2, 7);
        fault("chairs 0400;", 0, -1);
        fault("costs 9999;", 0, -1);
        fault("costs 0;evening 0 0 rain 0;people 0 comes 0 thinks 0 wet 0 habit 0 falls 0 worth 0 0 0 0;seats 1 adds 0;", 0, -1);
        fault("chairs 1;evening 0 0;year 0;ten 1 0;set 0 of 0;cheap 0;", 0, -1);
        fault("costs 10000;", 2, 6);
        fault("evening 4 0;", 2, 8);
        fault("evening 3 1000;", 2, 10);
        fault("evening 3 999 rain 1001;", 2, 19);
        fault("evening 3 999 rain 1000;", 0, -1);
        fault("people 61 comes 5 worth 1 1 1 1;", 2, 7);
        fault("people 60 comes 1001 worth 1 1 1 1;", 2, 16);
        fault("people 60 comes 1000 thinks 1001 worth 1 1 1 1;", 2, 28);
        fault("people 60 comes 1000 wet 1001 worth 1 1 1 1;", 2, 25);
        fault("people 60 comes 1000 habit 1001 worth 1 1 1 1;", 2, 27);
        fault("people 60 comes 1000 falls 501 worth 1 1 1 1;", 2, 27);
        fault("people 60 comes 0 thinks 1000 wet 1000 habit 1000 falls 500 worth 999 999 999 999;", 0, -1);
        fault("people 60 comes 0 worth 1 1 1 1000;", 2, 30);
        fault("people 60 comes 0 worth 1000 1 1 1;", 2, 24);
        fault("seats 0 adds 1;", 2, 6);
        fault("seats 401 adds 1;", 2, 6);
        fault("seats 400 adds 100;", 2, 15);
        fault("seats 400 adds 99;", 0, -1);
        fault("ten 0 5;", 2, 4);
        fault("ten 13 5;", 2, 4);
        fault("ten 12 9999;", 0, -1);
        fault("ten 12 99999;", 2, 7);
        fault("year 10000;", 2, 5);
        fault("cheap 10000;", 2, 6);
        fault("evening 0 0;set 10000 of 0;", 2, 16);
        fault("evening 0 0;set 1 of 00000;", 2, 21);
    }

    private static void faultCounts() {
        String evenings = "evening 0 0;".repeat(16);
        fault(evenings, 0, -1);
        fault(evenings + "evening oh", 2, 192);
        fault(evenings + " evening 9 9;", 2, 193);
        String kinds = "people 1 comes 5 worth 1 1 1 1;".repeat(6);
        fault(kinds, 0, -1);
        fault(kinds + "people", 2, 186);
        String rows = "seats 1 adds 1;".repeat(4);
        fault(rows, 0, -1);
        fault(rows + "seats 0 adds 1;", 2, 60);
        fault("set 5 of 0;evening 0 0;", 3, 9);
        fault("evening 0 0;set 5 of 1;", 3, 21);
        fault("evening 0 0;set 5 of 9999;", 3, 21);
        fault(evenings + "set 5 of 15 0 16;", 3, 206);
        fault(evenings + "set 5 of 15 14 13 12 11 10 9 8 7 6 5 4 3 2 1 0;", 0, -1);
        fault(evenings + "set 5 of 15 14 13 12 11 10 9 8 7 6 5 4 3 2 1 0 3;", 4, 239);
        fault("evening 0 0;set 5 of 0 00;", 4, 23);
        fault("evening 0 0;set 5 of 0 0 9;", 4, 23);
        fault("evening 0 0;set 5 of 0;set 5 of 0;", 5, 23);
        fault("chairs 5;chairs oh", 5, 9);
        fault("costs 5;costs 6;", 5, 8);
        fault("year 5; year 6;", 5, 8);
        fault("ten 1 5;ten 1 5;", 5, 8);
        fault("cheap 5;cheap 5;", 5, 8);
        fault("year 5;ten 1 5;cheap 5;chairs 5;costs 5;evening 0 0;set 5 of 0;evening 0 0;", 0, -1);
    }

    private static void numbers() {
        SeatHall x = Check.hall("chairs 400;costs 9999;evening 1 2 rain 3;evening 3 999 rain 1000;people 5 comes 6 thinks 7 wet 8 habit 9"
                + " falls 10 worth 11 12 13 14 young;people 60 comes 500 worth 1 2 3 4;seats 20 adds 5;year 21;ten 3 22;set 23 of 1;"
                + "cheap 9999;");
        row("5: count", new long[] {400, 9999, 2, 2, 65, 1, 31, 0, 0, 0, NO_SUCH}, i -> (long) x.count(i));
        due("5: below 0", NO_SUCH, () -> x.count(-1));
        row("6: evening 0", new long[] {1, 2, 3, 0, NO_SUCH}, i -> (long) x.evening(0, i));
        row("6: evening 1", new long[] {3, 999, 1000, 1}, i -> (long) x.evening(1, i));
        due("6: what below 0", NO_SUCH, () -> x.evening(0, -1));
        due("6: evening 2", NO_SUCH, () -> x.evening(2, 0));
        due("6: evening -1", NO_SUCH, () -> x.evening(-1, 3));
        row("7: kind 0", new long[] {5, 6, 7, 8, 9, 10, 11, 12, 13, 14, 1, NO_SUCH}, i -> (long) x.kind(0, i));
        row("7: kind 1", new long[] {60, 500, 500, 0, 0, 0, 1, 2, 3, 4, 0}, i -> (long) x.kind(1, i));
        due("7: what below 0", NO_SUCH, () -> x.kind(1, -1));
        due("7: kind 2", NO_SUCH, () -> x.kind(2, 0));
        due("7: kind -1", NO_SUCH, () -> x.kind(-1, 10));
        row("8: price", new long[] {-1, 21, 22, 23, 9999, NO_SUCH}, i -> (long) x.price(i));
        due("8: ticket -1", NO_SUCH, () -> x.price(-1));
        SeatHall y = Check.hall("evening 0 0;set 0 of 0;");
        row("8: a price of 0 is told", new long[] {-1, -1, -1, 0, -1}, i -> (long) y.price(i));
        due("5: DOOR and SET", 9, () -> y.count(6));
    }

    private static void chance() {
        SeatHall x = Check.hall("evening 0 0 rain 333;evening 0 0;people 1 comes 333 thinks 777 wet 333 worth 1 1 1 1;"
                + "people 1 comes 1000 wet 1000 worth 1 1 1 1;");
        due("9: cut down", 296073, () -> x.chance(0, 0, false));
        due("9: thought", 690839, () -> x.chance(0, 0, true));
        due("9: dry", 333000, () -> x.chance(0, 1, false));
        due("9: as COMES", 667000, () -> x.chance(1, 0, true));
        due("9: sure", 1000000, () -> x.chance(1, 1, false));
        due("9: kind 2", NO_SUCH, () -> x.chance(2, 0, false));
        due("9: evening 2", NO_SUCH, () -> x.chance(0, 2, true));
        due("9: kind -1", NO_SUCH, () -> x.chance(-1, 0, false));
        due("9: evening -1", NO_SUCH, () -> x.chance(0, -1, true));
    }

    private static void good() {
        SeatHall x = Check.hall("evening 0 3;evening 0 3;people 1 comes 100 thinks 333 falls 100 worth 10 0 0 0;year 2;ten 1 3;set 4 of 1;cheap 5;");
        // By THOUGHT: 10000 ahead of 2997 instead of 3330, by 333 thousandths; at the door 7000 ahead of 1998 instead of 2331.
        due("10: door", 4551, () -> x.good(0, 0));
        due("10: year", 4549, () -> x.good(0, 1));
        due("10: ten", 2551, () -> x.good(0, 2));
        due("10: set", -670, () -> x.good(0, 3));
        due("10: a young one to others", 1549, () -> x.good(0, 4));
        due("10: ticket 5", NO_SUCH, () -> x.good(0, 5));
        due("10: ticket -1", NO_SUCH, () -> x.good(0, -1));
        due("10: kind 1", NO_SUCH, () -> x.good(1, 0));
        SeatHall y = Check.hall("evening 0 3;people 1 comes 1000 falls 500 worth 10 0 0 0;");
        due("10: the door is always there", 7000, () -> y.good(0, 0));
        row("10: isn't told", new long[] {ILLEGAL, ILLEGAL, ILLEGAL, ILLEGAL, NO_SUCH}, i -> (long) y.good(0, i + 1));
        due("10: kind ahead of what isn't told", NO_SUCH, () -> y.good(1, 1));
        SeatHall z = Check.hall("evening 0 1;evening 0 1;evening 0 1;evening 0 1;people 1 comes 1000 falls 500 worth 10 0 0 0;year 1;ten 12 1;");
        due("10: no gain is below 0", 14000, () -> z.good(0, 1));
        due("10: at the door it stays away", 13000, () -> z.good(0, 0));
        due("10: of a ten for more than there are", 14000, () -> z.good(0, 2));
        SeatHall w = Check.hall("evening 0 1;people 1 comes 0 thinks 0 worth 999 0 0 0;year 9999;");
        due("10: of most coin", -9999000, () -> w.good(0, 1));
    }

    private static void buys() {
        String two = "evening 0 5;people 1 comes 1000 worth 10 0 0 0;people 1 comes 1000 worth 10 0 0 0 young;";
        SeatHall x = Check.hall(two + "year 5;ten 1 5;set 5 of 0;cheap 4;");
        due("11: of like ones the least", 0, () -> x.buys(0));
        due("11: a young one", 4, () -> x.buys(1));
        SeatHall y = Check.hall(two + "year 5;ten 1 4;set 4 of 0;cheap 4;");
        due("11: a ten", 2, () -> y.buys(0));
        due("11: a ten to the young", 2, () -> y.buys(1));
        due("11: kind 2", NO_SUCH, () -> y.buys(2));
        due("11: kind -1", NO_SUCH, () -> y.buys(-1));
        SeatHall z = Check.hall(two + "year 3;set 3 of 0;");
        due("11: a year", 1, () -> z.buys(0));
        SeatHall w = Check.hall(two + "set 3 of 0;cheap 3;");
        due("11: a set", 3, () -> w.buys(1));
    }

    private static void goes() {
        SeatHall x = Check.hall("evening 0 10;evening 1 10;evening 0 9;people 1 comes 1000 worth 10 0 0 0;");
        due("12: gains nothing at the door", 0, () -> Check.bit(x.goes(0, 0, 0, 0)));
        due("12: gains 1", 1, () -> Check.bit(x.goes(0, 2, 0, 0)));
        due("12: loses", 0, () -> Check.bit(x.goes(0, 1, 12, 16)));
        due("12: kind", NO_SUCH, () -> Check.bit(x.goes(1, 0, 0, 0)));
        due("12: evening", NO_SUCH, () -> Check.bit(x.goes(0, 3, 0, 0)));
        due("12: k 13", NO_SUCH, () -> Check.bit(x.goes(0, 0, 13, 0)));
        due("12: k -1", NO_SUCH, () -> Check.bit(x.goes(0, 0, -1, 0)));
        due("12: n 17", NO_SUCH, () -> Check.bit(x.goes(0, 0, 0, 17)));
        due("12: n -1", NO_SUCH, () -> Check.bit(x.goes(0, 0, 0, -1)));
        SeatHall y = Check.hall("evening 0 99;evening 1 99;evening 0 99;people 1 comes 1000 worth 10 30 0 0;ten 1 1;");
        due("12: it buys a ten", 2, () -> y.buys(0));
        due("12: waits for the dear one", 0, () -> Check.bit(y.goes(0, 0, 1, 0)));
        due("12: the dear one", 1, () -> Check.bit(y.goes(0, 1, 1, 0)));
        due("12: with two left", 1, () -> Check.bit(y.goes(0, 0, 3, 0)));
        due("12: with none left", 0, () -> Check.bit(y.goes(0, 1, 0, 0)));
        due("12: with 12 left and 16 had", 1, () -> Check.bit(y.goes(0, 0, 12, 16)));
        SeatHall z = Check.hall("evening 0 99;evening 0 99;people 1 comes 1000 worth 10 0 0 0;set 1 of 1;");
        due("12: not of the set", 0, () -> Check.bit(z.goes(0, 0, 0, 0)));
        due("12: of the set", 1, () -> Check.bit(z.goes(0, 1, 0, 0)));
        SeatHall w = Check.hall("evening 0 0;".repeat(16) + "people 1 comes 1000 falls 31 worth 10 0 0 0;year 0;");
        due("12: the gain falls with 16 had", 1, () -> Check.bit(w.goes(0, 15, 0, 16)));
        due("12: one more would take it from a like one", 1, () -> Check.bit(w.goes(0, 0, 0, 16)));
        SeatHall t = Check.hall("evening 0 0;".repeat(15) + "evening 1 99;people 1 comes 1000 falls 30 worth 1 999 0 0;ten 12 0;");
        due("12: a ten for the last one", 2, () -> t.buys(0));
        due("12: sixteen had would spoil it", 0, () -> Check.bit(t.goes(0, 0, 12, 16)));
        due("12: the last one with 16 had", 1, () -> Check.bit(t.goes(0, 15, 12, 16)));
        due("12: the last one of the ten", 1, () -> Check.bit(t.goes(0, 15, 1, 0)));
        due("12: no more of the ten", 0, () -> Check.bit(t.goes(0, 15, 0, 0)));
        SeatHall v = Check.hall("evening 0 0;".repeat(2) + "people 1 comes 1000 falls 500 worth 10 0 0 0;");
        due("12: the last half", 1, () -> Check.bit(v.goes(0, 1, 0, 1)));
        due("12: nothing is left of it", 0, () -> Check.bit(v.goes(0, 1, 0, 2)));
        SeatHall u = Check.hall("evening 0 0;evening 1 0;people 1 comes 1000 falls 500 worth 10 40 0 0;");
        due("12: it would spoil the dear one", 0, () -> Check.bit(u.goes(0, 0, 0, 0)));
        due("12: nothing to spoil", 0, () -> Check.bit(u.goes(0, 0, 0, 2)));
    }

    private static void coming() {
        SeatHall x = Check.hall("evening 0 0;evening 0 0;evening 0 0;people 1 comes 333 worth 9 0 0 0;people 1 comes 333 thinks 999 worth 9 0 0 0;"
                + "ten 1 1;");
        row("13: at the door", new long[] {333000000, 333000000, 333000000}, i -> (long) x.coming(0, i));
        due("13: evening 3", NO_SUCH, () -> x.coming(0, 3));
        due("13: kind 2", NO_SUCH, () -> x.coming(2, 0));
        SeatHall y = Check.hall("evening 0 9;evening 0 9;evening 0 9;people 1 comes 333 worth 9 0 0 0;ten 1 1;");
        due("13: a ten", 2, () -> y.buys(0));
        // What is left of a billion behind one and two that could come.
        row("13: cut down", new long[] {333000000, 222111000, 148148037}, i -> (long) y.coming(0, i));
        due("14: gone", 703259037, () -> y.often(0, 0));
        SeatHall z = Check.hall("evening 0 9 rain 1;evening 0 9;people 1 comes 1 wet 1 worth 9 0 0 0;ten 1 0;");
        row("13: CHANCE is cut down first", new long[] {999000, 999001}, i -> (long) z.coming(0, i));
    }

    private static void comingOfHabit() {
        String people = "people 1 comes 700 habit 333 worth 20 0 0 0;";
        SeatHall x = Check.hall("evening 0 9;evening 1 9;evening 0 9;" + people + "year 1;");
        due("13: a year", 1, () -> x.buys(0));
        row("13: of habit", new long[] {700000000, 233100000, 700000000}, i -> (long) x.coming(0, i));
        row("14: often", new long[] {1633100000, 233100000, 1400000000, 612, 12, NO_SUCH}, i -> x.often(0, i));
        SeatHall y = Check.hall("evening 0 9;evening 1 9;evening 0 9;" + people.replace(";", " young;") + "cheap 1;");
        due("13: a young one", 4, () -> y.buys(0));
        row("13: of habit, too", new long[] {700000000, 233100000, 700000000}, i -> (long) y.coming(0, i));
        SeatHall z = Check.hall("evening 0 9;evening 1 9;evening 0 9;" + people + "ten 3 1;");
        due("13: a ten again", 2, () -> z.buys(0));
        row("13: no habit with a ten", new long[] {700000000, 0, 700000000}, i -> (long) z.coming(0, i));
        SeatHall w = Check.hall("evening 0 9;evening 1 9 rain 1;people 1 comes 999 wet 1 habit 999 worth 20 0 0 0;year 1;");
        // By 998999 millionths 998999 of a million and 998000001 of 999 millions can; 999 thousandths of them do.
        row("13: both are cut down", new long[] {999000000, 998000 + 997002000}, i -> (long) w.coming(0, i));
        SeatHall v = Check.hall("evening 1 9;evening 1 9;evening 0 9;people 1 comes 1000 habit 500 falls 500 worth 30 0 0 0;year 1;");
        row("13: one more had spoils the last", new long[] {500000000, 500000000, 750000000 + 125000000}, i -> (long) v.coming(0, i));
        due("14: sunk on three evenings", 1125000000, () -> v.often(0, 1));
    }

    private static void often() {
        SeatHall x = Check.hall("evening 0 4;evening 0 4;people 1 comes 500 thinks 1000 habit 500 worth 10 0 0 0;year 3;");
        row("14: thinks oftener", new long[] {1000000000, 0, 2000000000, 3000, 4}, i -> x.often(0, i));
        due("14: what -1", NO_SUCH, () -> x.often(0, -1));
        due("14: what 5", NO_SUCH, () -> x.often(0, 5));
        due("14: kind 1", NO_SUCH, () -> x.often(1, 0));
        due("14: kind -1", NO_SUCH, () -> x.often(-1, 4));
        SeatHall y = Check.hall("evening 0 4;people 1 comes 0 thinks 1000 worth 10 0 0 0;year 3;");
        row("14: never gone", new long[] {0, 0, 1000000000, -1, 0}, i -> y.often(0, i));
        SeatHall z = Check.hall("evening 0 999;".repeat(16) + "people 1 comes 1000 worth 999 0 0 0;people 1 comes 3 worth 999 0 0 0;");
        row("14: a kinder year is at most 9999", new long[] {0, 0, 0, -1, 9999}, i -> z.often(0, i));
        due("14: it is told without a year", 47, () -> z.often(1, 4));
        SeatHall t = Check.hall("evening 0 4;evening 0 4;people 1 comes 500 thinks 1000 falls 100 worth 10 0 0 0;year 3;");
        due("14: kinder by chance", 4, () -> t.often(0, 4));
        row("14: the plans are by THOUGHT again", new long[] {11000, 16000}, i -> (long) t.good(0, i));
        SeatHall w = Check.hall("evening 0 0;people 1 comes 900 worth 10 0 0 0;");
        due("14: a kinder year of 0", 0, () -> w.often(0, 4));
        due("14: pays nothing at the door", -1, () -> w.often(0, 3));
        SeatHall v = Check.hall("evening 0 9;people 1 comes 700 worth 10 0 0 0;year 0;");
        due("14: pays 0", 0, () -> v.often(0, 3));
        SeatHall u = Check.hall("evening 0 9;evening 0 9;people 1 comes 300 worth 10 0 0 0;ten 1 1;");
        due("14: pays by the ten, cut down", 1960, () -> u.often(0, 3));
    }

    private static void full() {
        SeatHall x = Check.hall("chairs 1;evening 0 0;evening 1 0;people 2 comes 333 worth 9 0 0 0;people 0 comes 1000 worth 9 9 0 0;"
                + "people 1 comes 500 worth 9 9 0 0;");
        due("15: full", 1166000, () -> x.full(0, 0));
        due("15: full of one", 500000, () -> x.full(1, 0));
        // Of 333, 333 and 500 thousandths two or three come.
        due("15: standing", 333000000, () -> x.full(0, 1));
        due("15: none stands", 0, () -> x.full(1, 1));
        due("15: what 2", NO_SUCH, () -> x.full(0, 2));
        due("15: what -1", NO_SUCH, () -> x.full(0, -1));
        due("15: evening 2", NO_SUCH, () -> x.full(2, 0));
        due("15: evening -1", NO_SUCH, () -> x.full(-1, 1));
        SeatHall y = Check.hall("chairs 59;evening 0 0;people 60 comes 1000 worth 9 0 0 0;");
        due("15: one too many", 1000000000, () -> y.full(0, 1));
        due("15: sixty", 60000000, () -> y.full(0, 0));
        SeatHall z = Check.hall("chairs 60;evening 0 0;people 60 comes 1000 worth 9 0 0 0;");
        due("15: none too many", 0, () -> z.full(0, 1));
        SeatHall w = Check.hall("evening 0 0 rain 1;people 3 comes 1 wet 1 worth 9 0 0 0;");
        due("15: millionths of people", 2997, () -> w.full(0, 0));
        due("15: numbers are cut down one by one", 2991, () -> w.full(0, 1));
        SeatHall v = Check.hall("evening 0 9;evening 0 9 rain 7;people 7 comes 333 wet 1 worth 9 0 0 0;ten 1 1;");
        due("15: MANY by COMING is cut down", 1554762, () -> v.full(1, 0));
    }

    private static void earns() {
        due("16: year and door", 15000, () -> Check.hall(SMALL).earns());
        SeatHall x = Check.hall("evening 0 7;people 3 comes 333 worth 9 0 0 0;people 2 comes 1 worth 9 0 0 0;");
        due("16: at the door", 3 * 333 * 7 + 14, x::earns);
        SeatHall y = Check.hall("evening 0 9;evening 0 7;people 60 comes 100 worth 9 0 0 0;ten 1 0;cheap 3;");
        due("16: a ten for nothing", 0, y::earns);
        SeatHall z = Check.hall("evening 0 1 rain 1;people 1 comes 1 wet 1 worth 9 0 0 0;people 1 comes 1 wet 1 worth 9 0 0 0;");
        due("16: cut down of each kind", 0, z::earns);
        SeatHall w = Check.hall("evening 0 9;people 5 comes 1000 worth 9 0 0 0 young;people 60 comes 1000 worth 9 0 0 0;cheap 3;set 4 of 0;");
        due("16: young ones and sets", 15000 + 240000, w::earns);
    }

    private static void prices() {
        SeatHall x = Check.hall("costs 6;evening 0 5;people 2 comes 500 thinks 1000 habit 1000 worth 9 0 0 0;people 1 comes 1000 worth 4 0 0 0;year 5;set 1 of 0;");
        due("17: how many", 3, () -> x.prices(3, 2, 7, 2));
        // By 2 all buy the set: the first kind, because it thinks; by 4 the second one doesn't; by 6 none does.
        row("18: found", new long[] {4, 8000, 2, 2000000, 2, NO_SUCH}, i -> x.found(i));
        due("18: what -1", NO_SUCH, () -> x.found(-1));
        due("17: all else as told", 1, () -> x.price(3));
        due("16: earns as before", 3000, x::earns);
        due("17: from above to", ILLEGAL, () -> x.prices(3, 3, 2, 1));
        due("17: step 0", ILLEGAL, () -> x.prices(3, 1, 2, 0));
        due("17: step below 0", ILLEGAL, () -> x.prices(3, 1, 2, LEAST));
        due("17: from below 0", ILLEGAL, () -> x.prices(3, -1, 2, 1));
        due("17: to above 9999", ILLEGAL, () -> x.prices(3, 9999, 10000, 1));
        due("17: both out", ILLEGAL, () -> x.prices(3, LEAST, MOST, MOST));
        due("17: 61", ILLEGAL, () -> x.prices(3, 0, 600, 10));
        due("17: a ticket that isn't told", NO_SUCH, () -> x.prices(2, 0, 1, 1));
        due("17: the door", NO_SUCH, () -> x.prices(0, 3, 2, 0));
        due("17: ticket 5", NO_SUCH, () -> x.prices(5, 0, 1, 1));
        due("17: ticket -1", NO_SUCH, () -> x.prices(-1, 0, 1, 1));
        due("18: a refused call leaves what is kept", 8000, () -> x.found(1));
        due("17: 60", 60, () -> x.prices(3, 0, 599, 10));
        due("17: to 9999 by the greatest step", 1, () -> x.prices(3, 9999, 9999, MOST));
        // None buys a set by that, nor a year that is as good as the door.
        row("18: the latest", new long[] {9999, 5000, 9999, 1000000, -1}, i -> x.found(i));
        due("17: the last is to", 2, () -> x.prices(1, 4, 8, 4));
        due("17: none and the last", 2, () -> x.prices(1, 0, 9999, 9999));
        due("17: none alone", 1, () -> x.prices(1, 0, 9999, 10000));
        SeatHall y = Check.hall("costs 9;evening 0 5;people 2 comes 1000 worth 9 0 0 0;year 5;cheap 1;");
        due("17: four", 4, () -> y.prices(1, 1, 4, 1));
        row("18: nothing lives", new long[] {4, 8000, 1, 2000000, -1}, i -> y.found(i));
        y.prices(1, 5, 9, 1);
        row("18: of like ones the least", new long[] {5, 10000, 5, 2000000, 5}, i -> y.found(i));
        due("17: a ticket that none buys", 1, () -> y.prices(4, 7, 7, 1));
        row("18: as told", new long[] {7, 10000, 7, 2000000, 7}, i -> y.found(i));
        SeatHall z = Check.hall("costs 10;evening 0 5;people 2 comes 1000 worth 9 0 0 0;year 5;");
        z.prices(1, 3, 6, 1);
        due("18: lives by just that", 5, () -> z.found(4));
    }

    private static void over() {
        SeatHall x = Check.hall("chairs 2;evening 0 0;evening 1 0;people 5 comes 500 worth 9 0 0 0;people 1 comes 500 habit 1000 worth 0 0 0 0;");
        due("19: no doubt", 2, () -> x.over(0, 0));
        due("19: of three all come", 2, () -> x.over(0, 124999999));
        due("19: so likely at most", 3, () -> x.over(0, 125000000));
        due("19: habit stands, too", 3, () -> x.over(1, 125000000));
        due("19: any", 400, () -> x.over(0, 1000000000));
        due("19: doubt -1", ILLEGAL, () -> x.over(0, -1));
        due("19: doubt above", ILLEGAL, () -> x.over(0, 1000000001));
        due("19: kind 2 ahead of the doubt", NO_SUCH, () -> x.over(2, -1));
        due("19: kind -1", NO_SUCH, () -> x.over(-1, 0));
        SeatHall y = Check.hall("chairs 400;evening 0 0;people 5 comes 1000 worth 9 0 0 0;");
        due("19: all of the chairs", 400, () -> y.over(0, 0));
        SeatHall z = Check.hall("chairs 7;people 5 comes 1000 worth 9 0 0 0;");
        due("19: no evening", 400, () -> z.over(0, 0));
        SeatHall w = Check.hall("chairs 7;evening 0 0;evening 1 0;people 0 comes 1000 worth 9 0 0 0;people 5 comes 0 worth 9 0 0 0;");
        due("19: the worst evening", 7, () -> w.over(0, 999999999));
        due("19: who never comes", 400, () -> w.over(1, 0));
        SeatHall u = Check.hall("chairs 395;evening 0 0;" + "people 5 comes 1 worth 9 0 0 0;".repeat(5) + "people 5 comes 1000 worth 9 0 0 0;");
        due("19: the last of six kinds", 395, () -> u.over(5, 0));
        // Of m people at a half all but (m and 1) by 2 to the power of m stand. Numbers that are cut down lose:
        // 25 are above 999999000, but 400 are below it again (999992510).
        SeatHall v = Check.hall("chairs 1;evening 0 0;people 5 comes 500 worth 9 0 0 0;");
        due("19: up to the doubt", 21, () -> v.over(0, 999990000));
        due("19: the greatest number of all", 400, () -> v.over(0, 999999000));
    }

    private static void again() {
        // Three year seats at a half; seven at the door, who don't think that they come.
        String rest = "evening 1 20;evening 0 0;people 3 comes 500 worth 0 40 0 0;people 7 comes 333 thinks 0 worth 0 22 0 0;year 1;";
        SeatHall x = Check.hall("chairs 4;" + rest);
        due("20: a year", 1, () -> x.buys(0));
        due("20: the door", 0, () -> x.buys(1));
        // One chair is free; 2331000 want it; 1500000 seats are empty.
        row("20: sold again", new long[] {1331000, 19965, 1331000, 1500000, NO_SUCH}, i -> (long) x.again(0, 5, i));
        row("20: for nothing", new long[] {1331000, 26620, 1331000, 1500000}, i -> (long) x.again(0, 0, i));
        row("20: at a loss", new long[] {1331000, -1303049, 1331000, 1500000}, i -> (long) x.again(0, 999, i));
        row("20: nobody comes", new long[] {0, 0, 0, 3000000}, i -> (long) x.again(1, 999, i));
        due("20: b -1", ILLEGAL, () -> x.again(0, -1, 0));
        due("20: b 1000", ILLEGAL, () -> x.again(0, 1000, 0));
        due("20: what ahead of b", NO_SUCH, () -> x.again(0, -1, 4));
        due("20: what -1", NO_SUCH, () -> x.again(0, 0, -1));
        due("20: evening ahead of b", NO_SUCH, () -> x.again(2, 1000, 0));
        due("20: evening -1", NO_SUCH, () -> x.again(-1, 0, 0));
        SeatHall y = Check.hall("chairs 2;" + rest);
        row("20: more seats than chairs", new long[] {1500000, 22500, 2331000, 1500000}, i -> (long) y.again(0, 5, i));
        SeatHall z = Check.hall("chairs 400;" + rest);
        row("20: more chairs than people", new long[] {0, 0, 0, 1500000}, i -> (long) z.again(0, 5, i));
        SeatHall w = Check.hall("chairs 4;" + rest + "people 9 comes 100 worth 0 40 0 0 young;cheap 0;");
        row("20: who buys", new long[] {1, 0, 4}, i -> (long) w.buys(i));
        row("20: young ones' seats, too", new long[] {2331000, 34965, 2331000, 9600000}, i -> (long) w.again(0, 5, i));
        SeatHall v = Check.hall("evening 0 1 rain 7;people 1 comes 999 wet 1 worth 9 0 0 0;people 1 comes 999 thinks 0 wet 1 worth 9 0 0 0;year 0;");
        SeatHall u = Check.hall("chairs 4;evening 0 9;people 3 comes 1000 worth 9 0 0 0;people 2 comes 1000 thinks 0 worth 10 0 0 0;ten 1 1;");
        row("20: tens take no seats", new long[] {0, 0, 0, 0}, i -> (long) u.again(0, 0, i));
        SeatHall t = Check.hall("chairs 4;evening 0 5;evening 1 5;people 6 comes 1000 thinks 0 worth 4 6 0 0;year 1;");
        row("20: the first kind", new long[] {0, 0, 2000000, 0}, i -> (long) t.again(1, 0, i));
        row("20: those that come by the door's plan", new long[] {0, 0, 0, 0}, i -> (long) t.again(0, 0, i));
        row("20: towards less", new long[] {1007, -2, 998993, 1007}, i -> (long) v.again(0, 2, i));
    }

    private static void pair() {
        SeatHall x = Check.hall(SMALL);
        due("21: price -1", ILLEGAL, () -> x.pair(-1));
        due("21: price 10000", ILLEGAL, () -> x.pair(10000));
        due("22: none is kept", NO_SUCH, () -> x.paired(0));
        due("21: for 9999", 15000, () -> x.pair(9999));
        SeatHall y = Check.hall("evening 0 9;evening 1 9;evening 2 9;evening 1 9;people 2 comes 1000 worth 5 7 6 0;people 1 comes 1000 worth 6 5 7 0;");
        due("21: of 11 both buy it", 33000, () -> y.pair(11));
        row("22: evenings 1 and 2", new long[] {1, 2, NO_SUCH}, i -> (long) y.paired(i));
        due("22: what -1", NO_SUCH, () -> y.paired(-1));
        due("21: of 13 one buys it", 26000, () -> y.pair(13));
        row("22: evenings 1 and 3", new long[] {1, 3}, i -> (long) y.paired(i));
        due("21: none buys it", 0, () -> y.pair(15));
        row("22: the first of like ones", new long[] {0, 1}, i -> (long) y.paired(i));
        due("8: no set is told by that", -1, () -> y.price(3));
        due("21: refused", ILLEGAL, () -> y.pair(MOST));
        due("22: kept", 1, () -> y.paired(1));
        SeatHall z = Check.hall("evening 0 9;evening 0 9;people 1 comes 1000 worth 5 0 0 0;set 1 of 0;");
        due("21: whatever set is told", 9000, () -> z.pair(9));
        due("16: which is as it was", 1000, z::earns);
        due("6: with its evening alone", 0, () -> z.evening(1, 3));
        SeatHall v = Check.hall("evening 0 9;evening 0 9;people 1 comes 0 thinks 1000 worth 9 0 0 0;");
        due("21: bought by THOUGHT", 17000, () -> v.pair(17));
        SeatHall w = Check.hall("evening 0 9;people 1 comes 1000 worth 5 0 0 0;set 1 of 0;");
        due("21: one evening", -1, () -> w.pair(0));
        due("21: the price all the same", ILLEGAL, () -> w.pair(10000));
        due("22: none is", NO_SUCH, () -> w.paired(0));
    }

    private static void years() {
        SeatHall x = Check.hall("evening 0 1;people 10 comes 1000 worth 9 0 0 0;people 9 comes 1000 worth 9 0 0 0 young;"
                + "people 7 comes 1000 worth 9 0 0 0 young;people 60 comes 1000 worth 9 0 0 0;people 5 comes 1000 worth 9 0 0 0 young;cheap 0;");
        // Year by year 9, 7 and 60 become 5, 4 and 67, then 3, 2 and 71; the last kind has none behind it.
        row("23: one year", new long[] {70000, 70000, 10, 5, 4, 67, 5, NO_SUCH}, i -> x.years(1, 500, i));
        row("23: two years", new long[] {77000, 147000, 10, 3, 2, 71, 5}, i -> x.years(2, 500, i));
        row("23: none goes", new long[] {70000, 4200000, 10, 9, 7, 60, 5}, i -> x.years(60, 0, i));
        row("23: all go", new long[] {86000, 156000, 10, 0, 0, 76, 5}, i -> x.years(2, 1000, i));
        SeatHall y = Check.hall("people 8 comes 1000 worth 9 0 0 0 young;people 1 comes 1000 worth 9 0 0 0;");
        row("23: the first kind goes over", new long[] {0, 0, 4, 5}, i -> y.years(2, 375, i));
        due("23: what -1", NO_SUCH, () -> x.years(1, 0, -1));
        due("23: what ahead of years", NO_SUCH, () -> x.years(0, -1, 7));
        due("23: years 0", ILLEGAL, () -> x.years(0, 0, 0));
        due("23: years 61", ILLEGAL, () -> x.years(61, 0, 0));
        due("23: share -1", ILLEGAL, () -> x.years(1, -1, 0));
        due("23: share 1001", ILLEGAL, () -> x.years(1, 1001, 0));
        due("23: the greatest what", NO_SUCH, () -> x.years(1, 0, MOST));
        due("7: the people are as told", 60, () -> x.kind(3, 0));
        due("16: earns as told", 70000, x::earns);
    }

    private static void order() {
        // Door: two that come to one evening each; a year: one that comes to both.
        SeatHall x = Check.hall(SMALL);
        due("24: the year first", 12000, x::order);
        row("25: ordered", new long[] {1, 0, NO_SUCH}, i -> (long) x.ordered(i));
        due("25: i -1", NO_SUCH, () -> x.ordered(-1));
        SeatHall y = Check.hall("evening 0 9;people 1 comes 500 worth 8 0 0 0;people 0 comes 1000 worth 9 9 9 9;people 3 comes 400 worth 20 0 0 0;people 2 comes 1000 worth 9 0 0 0;ten 1 3;"
                + "seats 1 adds 3;seats 2 adds 7;seats 1 adds 7;");
        due("25: not yet", NO_SUCH, () -> y.ordered(0));
        due("24: kinds of one ticket one behind the other", 3500 + 2800 * 2 + 1200, y::order);
        row("25: one ticket", new long[] {2, NO_SUCH}, i -> (long) y.ordered(i));
        SeatHall z = Check.hall("evening 0 5;evening 1 5;people 2 comes 1000 worth 9 0 0 0;people 1 comes 1000 worth 6 6 0 0;people 3 comes 500 worth 3 0 0 0 young;"
                + "year 5;cheap 1;seats 2 adds 10;seats 9 adds 0;");
        row("25: who buys", new long[] {0, 1, 4}, i -> (long) z.buys(i));
        due("24: the best of six rows", 20000 + 10000, z::order);
        row("25: the first of like ones", new long[] {1, 0, 4, NO_SUCH}, i -> (long) z.ordered(i));
        SeatHall w = Check.hall("evening 0 5;people 2 comes 1000 worth 9 0 0 0;people 1 comes 1000 worth 6 0 0 0 young;cheap 1;");
        due("24: no seats", 0, w::order);
        row("25: the first row of all", new long[] {0, 4, NO_SUCH}, i -> (long) w.ordered(i));
        SeatHall v = Check.hall("evening 0 0;people 0 comes 1000 worth 9 0 0 0;seats 9 adds 9;");
        due("24: nobody", 0, v::order);
        due("25: no ticket", NO_SUCH, () -> v.ordered(0));
        SeatHall t = Check.hall("evening 0 0;people 2 comes 1000 worth 9 0 0 0;people 3 comes 500 worth 9 0 0 0;seats 1 adds 5;seats 1 adds 6;seats 1 adds 7;");
        due("24: the row that adds most first", 7000 + 6000 + 2500, t::order);
        SeatHall s = Check.hall("evening 0 0;people 9 comes 1000 worth 9 0 0 0;seats 1 adds 2;seats 2 adds 4;seats 1 adds 3;seats 1 adds 1;");
        due("24: all rows are taken", 2000 + 8000 + 3000 + 1000, s::order);
        SeatHall u = Check.hall("evening 0 0 rain 1;people 3 comes 1 wet 1 worth 9 0 0 0;seats 9 adds 2;");
        due("24: cut down of each seat", 3, u::order);
    }

    private static void owed() {
        String four = "evening 0 9;evening 0 9;evening 1 9;evening 0 9;";
        SeatHall x = Check.hall(four + "people 1 comes 1000 worth 20 0 0 0;people 1 comes 1000 worth 20 0 0 0 young;year 7;cheap 6;");
        row("26: a year", new long[] {5250, 3500, 1750, 0, NO_SUCH}, i -> (long) x.owed(0, i));
        row("26: a young one", new long[] {4500, 3000, 1500, 0}, i -> (long) x.owed(1, i));
        due("26: evening -1", NO_SUCH, () -> x.owed(0, -1));
        due("26: kind 2", NO_SUCH, () -> x.owed(2, 0));
        due("26: kind -1", NO_SUCH, () -> x.owed(-1, 0));
        SeatHall y = Check.hall(four + "people 1 comes 1000 worth 20 0 0 0;set 7 of 3 0 1;");
        row("26: a set", new long[] {4666, 2333, 2333, 0}, i -> (long) y.owed(0, i));
        SeatHall z = Check.hall(four + "people 1 comes 500 worth 20 0 0 0;ten 2 7;");
        row("26: a ten", new long[] {5250, 3500, 3500, 2187}, i -> (long) z.owed(0, i));
        SeatHall w = Check.hall(four + "people 1 comes 1000 worth 20 0 0 0;");
        row("26: at the door", new long[] {0, 0, 0, 0}, i -> (long) w.owed(0, i));
        SeatHall v = Check.hall("evening 0 9;evening 0 9;evening 0 9;people 1 comes 1000 worth 20 0 0 0;year 1;");
        row("26: cut down", new long[] {666, 333, 0}, i -> (long) v.owed(0, i));
        SeatHall u = Check.hall(four + "people 1 comes 1000 worth 9 0 0 0;set 7 of 1;");
        row("26: a set of one", new long[] {7000, 0, 0, 0}, i -> (long) u.owed(0, i));
        SeatHall t = Check.hall("evening 0 9;evening 0 9;people 1 comes 300 worth 20 0 0 0;ten 1 3;");
        row("26: a ten of one", new long[] {2100, 1470}, i -> (long) t.owed(0, i));
        SeatHall s = Check.hall("evening 0 9;people 1 comes 1000 worth 20 0 0 0;year 1;");
        due("26: the only evening", 0, () -> s.owed(0, 0));
        SeatHall r = Check.hall("evening 0 9 rain 1;people 1 comes 1 thinks 1000 wet 1 worth 20 0 0 0;ten 7 1;");
        due("26: LEFT is cut down", 999, () -> r.owed(0, 0));
    }

    /** The draws of a seed, as the document tells them. */
    private static int[] draws(int seed, int many) {
        int[] row = new int[many];
        int s = seed;
        for (int i = 0; i < many; i++) {
            s = s * 1103515245 + 12345;
            row[i] = ((s >> 16) & 0x7fff) % 1000;
        }
        return row;
    }

    private static void runs() {
        SeatHall x = Check.hall("chairs 1;evening 0 3;evening 1 3;people 2 comes 500 thinks 0 worth 9 9 0 0;people 1 comes 600 habit 700 worth 40 0 0 0;year 1;");
        row("27: who buys", new long[] {0, 1}, i -> (long) x.buys(i));
        due("28: no run", -1, () -> x.on(1));
        due("5: refused", 1, () -> x.count(9));
        for (int seed = -20; seed < 20; seed++) {
            runOf(x, seed * 7919);
        }
        x.begin(3);
        due("28: none", 0, () -> x.on(0));
        due("29: ahead of it", NO_SUCH, () -> x.seen(0, 0));
        due("28: one", 1, () -> x.on(1));
        due("28: beyond", -1, () -> x.on(2));
        due("28: it stays", 1, () -> x.on(0));
        due("5: refused again", 2, () -> x.count(9));
        due("28: below 0", ILLEGAL, () -> x.on(-1));
        due("28: 17", ILLEGAL, () -> x.on(17));
        due("28: 16 are beyond", -1, () -> x.on(16));
        due("5: illegal ones don't count", 3, () -> x.count(9));
        due("29: what -1", NO_SUCH, () -> x.seen(0, -1));
        due("29: what 6", NO_SUCH, () -> x.seen(0, 6));
        due("29: evening 1", NO_SUCH, () -> x.seen(1, 0));
        due("29: evening 2", NO_SUCH, () -> x.seen(2, 0));
        due("29: evening -1", NO_SUCH, () -> x.seen(-1, 0));
        due("28: to the end", 2, () -> x.on(1));
        due("28: none more", 2, () -> x.on(0));
        x.begin(3);
        due("27: in place of another one", NO_SUCH, () -> x.seen(0, 0));
    }

    private static void runOf(SeatHall x, int seed) {
        int[] draws = draws(seed, 10);
        long first = (draws[1] < 500 ? 1 : 0) + (draws[2] < 500 ? 1 : 0);
        long year = draws[3] < 600 ? 1 : 0;
        x.begin(seed);
        due("28: two of seed " + seed, 2, () -> x.on(2));
        row("29: seen of seed " + seed, new long[] {first + year, Math.max(0, first + year - 1), 3 * first, 0, first, year, NO_SUCH},
                i -> (long) x.seen(0, i));
        long second = (draws[5] < 500 ? 1 : 0) + (draws[6] < 500 ? 1 : 0);
        // Habit is drawn of who can come alone.
        long sunk = draws[7] < 600 && draws[8] < 700 ? 1 : 0;
        row("29: then seen of seed " + seed, new long[] {second + sunk, Math.max(0, second + sunk - 1), 3 * second, 0, second, sunk},
                i -> (long) x.seen(1, i));
    }

    private static void wetRun() {
        SeatHall x = Check.hall("chairs 9;evening 0 8 rain 500;evening 0 8 rain 500;people 1 comes 777 wet 333 worth 9 0 0 0;ten 1 1;");
        due("28: a ten", 2, () -> x.buys(0));
        for (int seed = 0; seed < 40; seed++) {
            int[] draws = draws(seed * 104729, 4);
            long wet = draws[0] < 500 ? 1 : 0;
            long came = draws[1] < (wet == 1 ? 777 * 667 / 1000 : 777) ? 1 : 0;
            long wetThen = draws[2] < 500 ? 1 : 0;
            long cameThen = came == 0 && draws[3] < (wetThen == 1 ? 777 * 667 / 1000 : 777) ? 1 : 0;
            x.begin(seed * 104729);
            x.on(1);
            row("29: wet run " + seed, new long[] {came, 0, 0, wet, came}, i -> (long) x.seen(0, i));
            x.on(1);
            row("29: wet run goes on " + seed, new long[] {cameThen, 0, 0, wetThen, cameThen}, i -> (long) x.seen(1, i));
        }
        SeatHall y = Check.hall("evening 0 3 rain 1000;people 3 comes 1000 wet 1000 worth 9 0 0 0;people 2 comes 1000 worth 9 0 0 0;");
        y.begin(1);
        y.on(1);
        row("29: always wet", new long[] {2, 1, 6, 1, 0, 2}, i -> (long) y.seen(0, i));
    }

    private static void runOfTens() {
        SeatHall x = Check.hall("chairs 9;evening 0 8;evening 0 8;evening 0 8;people 3 comes 500 worth 9 0 0 0;ten 1 0;");
        due("27: a ten of one", 2, () -> x.buys(0));
        for (int seed = 0; seed < 20; seed++) {
            int[] draws = draws(seed * 1299709, 12);
            x.begin(seed * 1299709);
            x.on(3);
            boolean[] had = new boolean[3];
            for (int e = 0; e < 3; e++) {
                int evening = e;
                int came = 0;
                for (int i = 0; i < 3; i++) {
                    // Of each evening the first draw is the rain's.
                    boolean comes = !had[i] && draws[4 * e + 1 + i] < 500;
                    came += comes ? 1 : 0;
                    had[i] |= comes;
                }
                due("29: tens of seed " + seed + " on " + e, came, () -> x.seen(evening, 0));
            }
        }
    }

    private static void runOfAllPeople() {
        SeatHall x = Check.hall("evening 0 9;evening 0 9;" + "people 60 comes 1000 thinks 500 worth 9 0 0 0;".repeat(6) + "ten 1 0;");
        x.begin(4);
        x.on(2);
        row("29: all have had theirs", new long[] {0, 0, 0, 0, 0, 0, 0, 0, 0, 0, NO_SUCH}, i -> (long) x.seen(1, i));
        row("29: on the first evening", new long[] {360, 359, 0, 0, 60, 60, 60, 60, 60, 60, NO_SUCH}, i -> (long) x.seen(0, i));
    }

    private static void runThatFalls() {
        SeatHall x = Check.hall("evening 0 0;".repeat(4) + "people 1 comes 1000 falls 400 worth 9 0 0 0;");
        // Three gain all that there is, and it goes only where that is more than to stay.
        row("29: goes while it gains", new long[] {0, 1, 1, 1}, i -> {
            x.begin(1);
            x.on(4);
            return (long) x.seen(i, 0);
        });
    }

    private static void drawsOnTheEdge() {
        for (int seed = 1; seed < 9; seed++) {
            int s = seed;
            int[] draws = draws(seed, 3);
            edge("28: rain " + seed, s, "evening 0 0 rain " + draws[0], 3, 0);
            edge("28: more rain " + seed, s, "evening 0 0 rain " + (draws[0] + 1), 3, 1);
            edge("28: comes " + seed, s, "evening 0 0;people 1 comes " + draws[1] + " worth 9 0 0 0", 0, 0);
            edge("28: comes oftener " + seed, s, "evening 0 0;people 1 comes " + (draws[1] + 1) + " worth 9 0 0 0", 0, 1);
            // The draws of evening 0: rain, whether it can, and habit, because it does not gain.
            edge("28: habit " + seed, s, "evening 1 9;evening 0 9;people 1 comes 1000 habit " + draws[2] + " worth 9 0 0 0;year 0", 0, 0);
            edge("28: more habit " + seed, s, "evening 1 9;evening 0 9;people 1 comes 1000 habit " + (draws[2] + 1) + " worth 9 0 0 0;year 0",
                    0, 1);
        }
    }

    private static void edge(String name, int seed, String text, int what, long want) {
        SeatHall x = Check.hall(text + ";");
        x.begin(seed);
        x.on(1);
        due(name, want, () -> x.seen(0, what));
    }

    private static void images() {
        SeatHall x = Check.hall("evening 0 3 rain 500;".repeat(16) + "people 60 comes 500 wet 300 falls 90 worth 12 0 0 0;ten 7 20;");
        due("30: no run", 0, () -> Check.bit(x.image()));
        due("31: no image", 0, () -> Check.bit(x.restore()));
        x.begin(77);
        due("31: no image yet", 0, () -> Check.bit(x.restore()));
        x.on(5);
        due("30: an image", 1, () -> Check.bit(x.image()));
        x.on(11);
        long[] seen = new long[16];
        long[] wet = new long[16];
        for (int e = 0; e < 16; e++) {
            seen[e] = x.seen(e, 0);
            wet[e] = x.seen(e, 3);
        }
        due("31: restored", 1, () -> Check.bit(x.restore()));
        due("31: it stands there", 5, () -> x.on(0));
        due("31: not gone through", NO_SUCH, () -> x.seen(5, 0));
        x.on(11);
        row("31: all as it was", seen, i -> (long) x.seen(i, 0));
        x.begin(78);
        x.on(16);
        due("30: the image stays", 1, () -> Check.bit(x.restore()));
        x.on(11);
        row("31: all as it was once more", seen, i -> (long) x.seen(i, 0));
        row("31: wet as it was", wet, i -> (long) x.seen(i, 3));
        due("30: in place of another one", 1, () -> Check.bit(x.image()));
        x.begin(79);
        x.restore();
        due("31: the latest image", 16, () -> x.on(0));
        row("31: with what it has seen", seen, i -> (long) x.seen(i, 0));
    }
}

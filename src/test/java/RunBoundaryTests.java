import java.math.BigInteger;

/** Section 4 of 'Terms', promises 27 to 31 and 'What it is': the sentences that name a boundary, on both of its sides. */
public final class RunBoundaryTests {
    private static final long NO_SUCH = Check.NO_SUCH;
    private static final long ILLEGAL = Check.ILLEGAL;
    private static final int MOST = Integer.MAX_VALUE;
    private static final int LEAST = Integer.MIN_VALUE;
    private static final String SURE = " comes 1000 worth 9 0 0 0;";

    /** Seeds and their first six DRAWS of 1000, worked out in whole numbers: the greatest and the least, those beside the wrap-around
     *  (1 and -1 stay within an int, 2 and -2 don't), bits of 0, 999, 1000, 31999, 32000 and 32767. */
    private static final int[][] SEEDS = {
        {0, 0, 468, 988, 117, 498, 927},
        {1, 838, 758, 113, 515, 51, 627},
        {2, 908, 817, 239, 914, 837, 95},
        {-1, 929, 409, 862, 718, 713, 226},
        {-2, 859, 118, 736, 320, 928, 758},
        {2147483647, 929, 409, 862, 718, 713, 226},
        {-2147483648, 0, 468, 988, 117, 498, 927},
        {2147483646, 859, 118, 736, 320, 928, 758},
        {-2147483647, 838, 758, 113, 515, 51, 627},
        {24884, 767, 77, 871, 692, 740, 486},
        {19116, 0, 590, 515, 85, 976, 352},
        {17421, 999, 401, 998, 850, 563, 989},
        {373, 0, 335, 120, 692, 488, 227},
        {917, 999, 103, 985, 610, 730, 830},
        {7175, 0, 465, 416, 704, 954, 924},
        {32059, 999, 306, 531, 47, 196, 483},
    };

    private static final Check CHECK = new Check();

    private RunBoundaryTests() {
    }

    public static void main(String[] args) {
        wraps();
        rain();
        comes();
        comesInTheRain();
        habit();
        whoIsDrawn();
        ofItsOwn();
        greatestRun();
        begins();
        goesOn();
        beyondTheLast();
        seen();
        seenOf();
        images();
        restores();
        status();
        calls();
        CHECK.end();
    }

    private static SeatHall hall(String text) {
        return Check.hall(text);
    }

    private static SeatHall run(String text, int seed, int evenings) {
        SeatHall x = hall(text);
        x.begin(seed);
        x.on(evenings);
        return x;
    }

    // ---- draws ----

    private static void wraps() {
        CHECK.says("Terms 4", "A seed becomes itself times 1103515245 and 12345 (an int that wraps); a DRAW of n is its bits 16 to 30 MOD n then.");
        for (int[] seed : SEEDS) {
            StringBuilder just = new StringBuilder();
            StringBuilder more = new StringBuilder();
            for (int i = 1; i < seed.length; i++) {
                just.append("evening 0 0 rain ").append(seed[i]).append(';');
                more.append("evening 0 0 rain ").append(seed[i] + 1).append(';');
            }
            SeatHall dry = run(just.toString(), seed[0], 6);
            SeatHall wet = run(more.toString(), seed[0], 6);
            CHECK.row("rain of the DRAW, seed " + seed[0], new long[] {0, 0, 0, 0, 0, 0}, i -> (long) dry.seen(i, 3));
            CHECK.row("rain of one more, seed " + seed[0], new long[] {1, 1, 1, 1, 1, 1}, i -> (long) wet.seen(i, 3));
        }
    }

    private static void rain() {
        CHECK.says("Terms 4", "a DRAW of 1000: below RAIN it is wet");
        // The first DRAW of 0 is 0, that of 917 is 999.
        CHECK.is("0 by 0", 0, () -> run("evening 0 0;", 0, 1).seen(0, 3));
        CHECK.is("0 by 1", 1, () -> run("evening 0 0 rain 1;", 0, 1).seen(0, 3));
        CHECK.is("999 by 999", 0, () -> run("evening 0 0 rain 999;", 917, 1).seen(0, 3));
        CHECK.is("999 by 1000", 1, () -> run("evening 0 0 rain 1000;", 917, 1).seen(0, 3));
    }

    private static void came(String name, int seed, String text, long want) {
        SeatHall x = run(text, seed, 1);
        CHECK.is(name, want, () -> x.seen(0, 0));
    }

    private static void comes() {
        CHECK.says("Terms 4", "of each of the PEOPLE then a DRAW of 1000: below COMES");
        // The second DRAW of 727 is 0, that of 1123 is 999.
        came("0 by 0", 727, "evening 0 0;people 1 comes 0 worth 9 0 0 0;", 0);
        came("0 by 1", 727, "evening 0 0;people 1 comes 1 worth 9 0 0 0;", 1);
        came("999 by 999", 1123, "evening 0 0;people 1 comes 999 worth 9 0 0 0;", 0);
        came("999 by 1000", 1123, "evening 0 0;people 1 comes 1000 worth 9 0 0 0;", 1);
        // Of seed 2 the second to the fourth are 817, 239 and 914.
        came("the second of a KIND", 2, "evening 0 0;people 3 comes 240 worth 9 0 0 0;", 1);
        came("the second of a KIND, by just that", 2, "evening 0 0;people 3 comes 239 worth 9 0 0 0;", 0);
        came("a KIND of nobody has none", 2, "evening 0 0;people 0 comes 1000 worth 9 0 0 0;people 1 comes 817 worth 9 0 0 0;", 0);
        came("the first of the second KIND", 2, "evening 0 0;people 0 comes 1000 worth 9 0 0 0;people 1 comes 818 worth 9 0 0 0;", 1);
        came("THINKS counts for nothing", 2, "evening 0 0;people 1 comes 818 thinks 1 worth 9 0 0 0;", 1);
        came("nor does it make them come", 2, "evening 0 0;people 1 comes 817 thinks 1000 worth 9 0 0 0;", 0);
    }

    private static void comesInTheRain() {
        CHECK.says("Terms 4", "(when it is wet below COMES by (1000 less WET), by 1000, cut down)");
        String wet = "evening 0 0 rain 1000;people 1 comes ";
        String dry = "evening 0 0 rain 0;people 1 comes ";
        came("WET 1000", 727, wet + "1000 wet 1000 worth 9 0 0 0;", 0);
        came("WET 999 leaves one", 727, wet + "1000 wet 999 worth 9 0 0 0;", 1);
        came("WET 999 of 999 leaves less than one", 727, wet + "999 wet 999 worth 9 0 0 0;", 0);
        came("WET 1000 of a dry evening", 1123, dry + "1000 wet 1000 worth 9 0 0 0;", 1);
        came("WET 0", 1123, wet + "1000 worth 9 0 0 0;", 1);
        came("WET 1 leaves 999", 1123, wet + "1000 wet 1 worth 9 0 0 0;", 0);
        // The second DRAW of 1184 is 998: 999 by 999 is 998.001, 1000 by 999 is 999.
        came("998 by 998.001", 1184, wet + "999 wet 1 worth 9 0 0 0;", 0);
        came("998 by 999", 1184, wet + "1000 wet 1 worth 9 0 0 0;", 1);
        came("998 by 999 on a dry evening", 1184, dry + "999 wet 1 worth 9 0 0 0;", 1);
    }

    private static void habit() {
        CHECK.says("Terms 4", "else, with a YEAR or a YOUNG one, if a DRAW of 1000 is below HABIT");
        String[] young = {" worth 9 0 0 0;year 0;", " worth 9 0 0 0 young;cheap 0;"};
        for (String kind : young) {
            String text = "evening 1 9;evening 0 9;people 1 comes 1000 habit ";
            // The third DRAW of 380 is 0, that of 16 is 999.
            came("0 by 0" + kind, 380, text + "0" + kind, 0);
            came("0 by 1" + kind, 380, text + "1" + kind, 1);
            came("999 by 999" + kind, 16, text + "999" + kind, 0);
            came("999 by 1000" + kind, 16, text + "1000" + kind, 1);
            // Of seed 2 they are 817, who can come by 818 alone, and 239.
            String seldom = "evening 1 9;evening 0 9;people 1 comes ";
            came("who can't come" + kind, 2, seldom + "817 habit 1000" + kind, 0);
            came("who can" + kind, 2, seldom + "818 habit 240" + kind, 1);
            came("who can and hasn't the habit" + kind, 2, seldom + "818 habit 239" + kind, 0);
        }
        String dull = "evening 1 9;evening 0 9;people 1 comes 1000 habit 1000 worth 10 0 0 0;";
        came("not at the DOOR", 380, dull, 0);
        came("not with a TEN", 380, dull + "ten 2 0;", 0);
        came("not with a SET", 380, dull + "set 0 of 0 1;", 0);
    }

    /** DRAWS in whole numbers: what an int keeps of them is the rest by 2 to the power of 32. */
    private static final class Draws {
        private static final BigInteger WRAP = BigInteger.ONE.shiftLeft(32);
        private BigInteger seed;

        Draws(int seed) {
            this.seed = BigInteger.valueOf(seed).mod(WRAP);
        }

        int next() {
            seed = seed.multiply(BigInteger.valueOf(1103515245)).add(BigInteger.valueOf(12345)).mod(WRAP);
            return seed.shiftRight(16).intValue() % 32768 % 1000;
        }
    }

    private static final String ALL_TICKETS = "chairs 3;evening 0 20 rain 500;evening 1 20 rain 500;evening 3 20;evening 2 20 rain 500;"
            + "people 2 comes 500 thinks 0 wet 400 habit 600 worth 30 30 30 0;people 2 comes 600 thinks 1000 habit 0 worth 19 19 19 0;"
            + "people 2 comes 500 thinks 900 habit 600 worth 19 19 0 0;people 2 comes 700 thinks 1000 habit 600 worth 0 19 19 0;"
            + "people 2 comes 500 thinks 1000 habit 600 worth 19 19 19 0 young;year 30;ten 1 3;set 12 of 1 3;cheap 1;";

    private static void whoIsDrawn() {
        CHECK.says("Terms 4", "PEOPLE, KIND by KIND, with TICKETS that they BUY.");
        SeatHall x = hall(ALL_TICKETS);
        CHECK.row("who buys", new long[] {0, 1, 2, 3, 4}, i -> (long) x.buys(i));
        CHECK.row("the TEN goes to the first two", new long[] {1, 1, 0, 0}, i -> Check.bit(x.goes(2, i, 1, 0)));
        for (int i = 0; i < 40; i++) {
            drawn(x, i * 1000003 - 20000000);
        }
    }

    /** All five tickets: on the third evening none goes, those with the year (no habit) and the young ones (of habit) draw once more. */
    private static void drawn(SeatHall x, int seed) {
        Draws draws = new Draws(seed);
        int[] comes = {500, 600, 500, 700, 500};
        boolean[][] goes = {{true, true, false, true}, {true, true, false, true}, {true, true, false, false}, {false, true, false, true},
            {true, true, false, true}};
        boolean[] tenIsUsed = new boolean[2];
        x.begin(seed);
        x.on(4);
        for (int e = 0; e < 4; e++) {
            boolean wet = draws.next() < (e == 2 ? 0 : 500);
            long[] want = new long[10];
            for (int kind = 0; kind < 5; kind++) {
                for (int i = 0; i < 2; i++) {
                    boolean can = draws.next() < (wet && kind == 0 ? 300 : comes[kind]);
                    boolean came = can && goes[kind][e] && !(kind == 2 && tenIsUsed[i]);
                    if (can && !came && (kind == 1 || kind == 4)) {
                        came = draws.next() < (kind == 1 ? 0 : 600);
                    }
                    tenIsUsed[i] |= kind == 2 && came;
                    want[4 + kind] += came ? 1 : 0;
                }
                want[0] += want[4 + kind];
            }
            want[1] = Math.max(0, want[0] - 3);
            want[2] = 20 * want[4];
            want[3] = wet ? 1 : 0;
            want[9] = NO_SUCH;
            int evening = e;
            CHECK.row("seed " + seed + ", evening " + e, want, i -> (long) x.seen(evening, i));
        }
    }

    private static void ofItsOwn() {
        CHECK.says("Terms 4", "it comes, if it GOES by its PLAN (its own k, n)");
        // With k of two and sure ones it waits for the last two; n of who has come by habit spoils the next one.
        SeatHall ten = run("evening 0 9;".repeat(4) + "people 60" + SURE + "ten 2 0;", 5, 4);
        CHECK.row("k", new long[] {0, 0, 60, 60}, i -> (long) ten.seen(i, 0));
        SeatHall twelve = run("evening 0 9;".repeat(16) + "people 60" + SURE + "ten 12 0;", 5, 16);
        CHECK.row("k of twelve", new long[] {0, 0, 0, 0, 60, 60, 60, 60, 60, 60, 60, 60, 60, 60, 60, 60}, i -> (long) twelve.seen(i, 0));
        SeatHall free = run("evening 0 0;".repeat(16) + "people 60 comes 1000 falls 63 worth 9 0 0 0;", 5, 16);
        CHECK.row("n of sixteen", new long[] {60, 60, 60, 60, 60, 60, 60, 60, 60, 60, 60, 60, 60, 60, 60, 60}, i -> (long) free.seen(i, 0));
        // By 67 the sixteenth, of who has had fifteen, gains nothing: one is left out, and the first is as good as the others.
        SeatHall falls = run("evening 0 0;".repeat(16) + "people 60 comes 1000 falls 67 worth 9 0 0 0;", 5, 16);
        CHECK.row("n of fifteen", new long[] {0, 60, 60, 60, 60, 60, 60, 60, 60, 60, 60, 60, 60, 60, 60, 60}, i -> (long) falls.seen(i, 0));
        SeatHall habit = run("evening 1 9;evening 0 9;evening 0 9;people 60 comes 1000 habit 1000 falls 500 worth 10 0 0 0;year 0;", 5, 3);
        CHECK.row("n by habit", new long[] {60, 60, 60}, i -> (long) habit.seen(i, 0));
        SeatHall none = run("evening 1 9;evening 0 9;evening 0 9;people 60 comes 1000 falls 500 worth 10 0 0 0;year 0;", 5, 3);
        CHECK.row("n without", new long[] {0, 60, 60}, i -> (long) none.seen(i, 0));
    }

    private static void greatestRun() {
        CHECK.says("Terms 4", "A RUN by a seed: PEOPLE, KIND by KIND");
        String all = "evening 0 998 rain 1000;".repeat(16) + "people 60 comes 1000 worth 999 0 0 0;".repeat(6 - 1);
        SeatHall x = run("chairs 299;" + all, MOST, 16);
        for (int e = 0; e < 16; e++) {
            int evening = e;
            CHECK.row("as many as can be, evening " + e, new long[] {300, 1, 299400, 1, 60, 60, 60, 60, 60, NO_SUCH},
                    i -> (long) x.seen(evening, i));
        }
        SeatHall once = run("evening 0 9;evening 0 9;" + "people 60 comes 1000 thinks 500 worth 9 0 0 0;".repeat(6) + "ten 1 0;", 4, 2);
        CHECK.row("all come with a TEN of one", new long[] {360, 359, 0, 0, 60, 60, 60, 60, 60, 60, NO_SUCH}, i -> (long) once.seen(0, i));
        CHECK.row("none has one left", new long[] {0, 0, 0, 0, 0, 0, 0, 0, 0, 0, NO_SUCH}, i -> (long) once.seen(1, i));
        SeatHall six = run("chairs 359;" + "evening 0 998;".repeat(16) + "people 60 comes 1000 worth 999 0 0 0;".repeat(6), LEAST, 16);
        CHECK.row("of six KINDS, on the last", new long[] {360, 1, 359280, 0, 60, 60, 60, 60, 60, 60, NO_SUCH}, i -> (long) six.seen(15, i));
    }

    // ---- promises 27 to 31 ----

    private static void begins() {
        CHECK.says("Promise 27", "A RUN begins, in place of another one; it stands ahead of EVENING 0.");
        SeatHall x = hall("evening 0 0;evening 0 0;people 1" + SURE);
        CHECK.is("none yet", NO_SUCH, () -> x.seen(0, 0));
        x.begin(0);
        CHECK.is("ahead of EVENING 0", 0, () -> x.on(0));
        CHECK.is("EVENING 0 is not gone through", NO_SUCH, () -> x.seen(0, 0));
        x.on(2);
        CHECK.is("gone through", 1, () -> x.seen(1, 0));
        x.begin(0);
        CHECK.is("in place of it", 0, () -> x.on(0));
        CHECK.is("nothing is gone through", NO_SUCH, () -> x.seen(0, 0));
        for (int seed : new int[] {LEAST, -1, 0, 1, MOST}) {
            x.begin(seed);
            CHECK.is("any seed " + seed, 2, () -> x.on(2));
            CHECK.row("all come, seed " + seed, new long[] {1, 1}, i -> (long) x.seen(i, 0));
        }
        SeatHall none = hall("people 1" + SURE);
        none.begin(5);
        CHECK.is("no evening", 0, () -> none.on(0));
        CHECK.is("beyond no evening", -1, () -> none.on(1));
        SeatHall nobody = run("evening 0 0;", 5, 1);
        CHECK.row("nobody", new long[] {0, 0, 0, 0, NO_SUCH}, i -> (long) nobody.seen(0, i));
        SeatHall fresh = new SeatHall();
        fresh.begin(5);
        CHECK.is("of a new object", 0, () -> fresh.on(0));
        CHECK.is("it has an image", 1, () -> Check.bit(fresh.image()));
        CHECK.is("and is as the image again", 1, () -> Check.bit(fresh.restore()));
    }

    private static void goesOn() {
        CHECK.says("Promise 28", "It goes on by so many EVENINGS (0 to 16): which is next");
        SeatHall x = hall("evening 0 0;".repeat(16) + "people 1" + SURE);
        x.begin(1);
        CHECK.is("none", 0, () -> x.on(0));
        CHECK.is("one", 1, () -> x.on(1));
        CHECK.is("fourteen", 15, () -> x.on(14));
        CHECK.is("the last", 16, () -> x.on(1));
        CHECK.is("none behind it", 16, () -> x.on(0));
        x.begin(1);
        CHECK.is("all sixteen", 16, () -> x.on(16));
        CHECK.is("none was refused", 0, () -> x.count(9));
        CHECK.says("Promise 28", "IllegalArgumentException: how many.");
        SeatHall none = new SeatHall();
        for (int evenings : new int[] {-1, 17, LEAST, MOST}) {
            CHECK.is("of a RUN at its end " + evenings, ILLEGAL, () -> x.on(evenings));
            CHECK.is("without a RUN " + evenings, ILLEGAL, () -> none.on(evenings));
        }
        CHECK.is("it stays", 16, () -> x.on(0));
        CHECK.is("STATUS counts none of them", 0, () -> x.count(9));
        CHECK.is("nor those without a RUN", 0, () -> none.count(9));
    }

    private static void beyondTheLast() {
        CHECK.says("Promise 28", "NONE (STATUS 1): they would be beyond the last (it stays), or there is no RUN.");
        SeatHall x = hall("evening 0 0;evening 0 0;evening 0 0;people 1" + SURE);
        CHECK.is("none without a RUN", -1, () -> x.on(0));
        CHECK.is("one without a RUN", -1, () -> x.on(1));
        CHECK.is("sixteen without a RUN", -1, () -> x.on(16));
        CHECK.is("STATUS", 3, () -> x.count(9));
        x.begin(1);
        CHECK.is("one more than there are", -1, () -> x.on(4));
        CHECK.is("it stays at the first", 0, () -> x.on(0));
        CHECK.is("just as many", 3, () -> x.on(3));
        CHECK.is("one more", -1, () -> x.on(1));
        CHECK.is("sixteen more", -1, () -> x.on(16));
        CHECK.is("it stays at the end", 3, () -> x.on(0));
        CHECK.row("what it has seen stays", new long[] {1, 1, 1}, i -> (long) x.seen(i, 0));
        CHECK.is("STATUS then", 6, () -> x.count(9));
        // That it was refused leaves its DRAWS: of seed 1 the second one is 758.
        SeatHall y = hall("evening 0 0 rain 838;evening 0 0 rain 759;");
        y.begin(1);
        y.on(1);
        CHECK.is("refused", -1, () -> y.on(2));
        CHECK.is("goes on", 2, () -> y.on(1));
        CHECK.row("by its own DRAWS", new long[] {0, 1}, i -> (long) y.seen(i, 3));
        SeatHall all = hall("evening 0 0;".repeat(16));
        all.begin(1);
        all.on(1);
        CHECK.is("sixteen behind the first", -1, () -> all.on(16));
        CHECK.is("fifteen behind the first", 16, () -> all.on(15));
    }

    private static void seen() {
        CHECK.says("Promise 29", "Of an EVENING that the RUN has gone through");
        SeatHall x = hall("evening 0 0;evening 0 0;people 1" + SURE);
        for (int evening = -1; evening <= 2; evening++) {
            int e = evening;
            CHECK.is("no RUN, evening " + e, NO_SUCH, () -> x.seen(e, 0));
        }
        x.begin(1);
        CHECK.row("none gone through", new long[] {NO_SUCH, NO_SUCH, NO_SUCH}, i -> (long) x.seen(i, 0));
        x.on(1);
        CHECK.row("one gone through", new long[] {1, NO_SUCH, NO_SUCH}, i -> (long) x.seen(i, 0));
        x.on(1);
        CHECK.row("both gone through", new long[] {1, 1, NO_SUCH}, i -> (long) x.seen(i, 0));
        for (int evening : new int[] {-1, 2, LEAST, MOST}) {
            CHECK.is("no such EVENING " + evening, NO_SUCH, () -> x.seen(evening, 0));
        }
        CHECK.says("Promise 29", "how many came of a KIND (4 and that). NoSuchElementException: also it hasn't, another what.");
        CHECK.row("what", new long[] {1, 0, 0, 0, 1, NO_SUCH, NO_SUCH}, i -> (long) x.seen(0, i));
        for (int what : new int[] {-1, 5, LEAST, MOST}) {
            CHECK.is("what " + what, NO_SUCH, () -> x.seen(0, what));
        }
        SeatHall none = run("evening 0 0;", 1, 1);
        CHECK.is("of no KIND", NO_SUCH, () -> none.seen(0, 4));
        SeatHall six = run("evening 0 0;" + ("people 2" + SURE).repeat(6), 1, 1);
        CHECK.is("of the sixth KIND", 2, () -> six.seen(0, 9));
        CHECK.is("of a seventh KIND", NO_SUCH, () -> six.seen(0, 10));
    }

    private static void seenOf() {
        CHECK.says("Promise 29", "how many came (what 0), how many stood (1), coins at the DOOR (2), whether it was wet (3: 1)");
        String five = "evening 0 8;people 5" + SURE;
        CHECK.is("a chair more than people", 0, () -> run("chairs 6;" + five, 1, 1).seen(0, 1));
        CHECK.is("as many chairs", 0, () -> run("chairs 5;" + five, 1, 1).seen(0, 1));
        CHECK.is("a chair less", 1, () -> run("chairs 4;" + five, 1, 1).seen(0, 1));
        CHECK.is("one chair", 4, () -> run(five, 1, 1).seen(0, 1));
        CHECK.is("five at the DOOR", 40, () -> run(five, 1, 1).seen(0, 2));
        CHECK.is("for nothing", 0, () -> run(five.replace("0 8", "0 0"), 1, 1).seen(0, 2));
        SeatHall year = run(five + "year 0;", 1, 1);
        CHECK.row("with a year", new long[] {5, 4, 0, 0, 5}, i -> (long) year.seen(0, i));
    }

    private static void images() {
        CHECK.says("Promise 30", "The RUN is kept as an image, in place of another one: true. False: there is none.");
        SeatHall x = hall("evening 0 0;evening 0 0;people 1" + SURE);
        CHECK.is("no RUN", 0, () -> Check.bit(x.image()));
        CHECK.is("so no image", 0, () -> Check.bit(x.restore()));
        x.begin(1);
        CHECK.is("ahead of EVENING 0", 1, () -> Check.bit(x.image()));
        x.on(1);
        x.restore();
        CHECK.is("at EVENING 0", 0, () -> x.on(0));
        x.on(1);
        CHECK.is("behind it", 1, () -> Check.bit(x.image()));
        x.on(1);
        x.restore();
        CHECK.is("in place of another one", 1, () -> x.on(0));
        x.on(1);
        CHECK.is("at the end", 1, () -> Check.bit(x.image()));
        CHECK.is("it stays as it is", 2, () -> x.on(0));
        Check.feed(x, "evening 0 0;        ");
        x.hall(12);
        CHECK.is("no RUN of another hall", 0, () -> Check.bit(x.image()));
        CHECK.is("no image of another hall", 0, () -> Check.bit(x.restore()));
    }

    private static void restores() {
        CHECK.says("Promise 31", "The RUN is as the image again: true. False: there is none.");
        SeatHall x = hall("evening 0 9 rain 500;".repeat(16) + "people 9 comes 500 wet 500 worth 9 0 0 0;ten 3 0;");
        CHECK.is("a TEN of three", 2, () -> x.buys(0));
        CHECK.is("no image", 0, () -> Check.bit(x.restore()));
        CHECK.is("no RUN by that", -1, () -> x.on(0));
        x.begin(1);
        CHECK.is("no image of this RUN", 0, () -> Check.bit(x.restore()));
        x.on(3);
        CHECK.is("the RUN stays without one", 3, () -> x.on(0));
        x.image();
        x.on(13);
        long[] came = new long[16];
        long[] wet = new long[16];
        for (int e = 0; e < 16; e++) {
            came[e] = x.seen(e, 0);
            wet[e] = x.seen(e, 3);
        }
        for (int turn = 0; turn < 3; turn++) {
            CHECK.is("again " + turn, 1, () -> Check.bit(x.restore()));
            CHECK.is("the third evening is the last one gone through " + turn, came[2], () -> x.seen(2, 0));
            CHECK.is("the fourth is not " + turn, NO_SUCH, () -> x.seen(3, 0));
            x.on(13);
            CHECK.row("the same DRAWS, k and n " + turn, came, i -> (long) x.seen(i, 0));
            CHECK.row("the same rain " + turn, wet, i -> (long) x.seen(i, 3));
            // Another RUN leaves the image as it is.
            x.begin(turn);
            x.on(16);
        }
    }

    private static void status() {
        CHECK.says("Terms 4", "STATUS: how many calls were refused: 0 TEXTS with a FAULT, 1 RUNS' EVENINGS beyond the last.");
        SeatHall x = new SeatHall();
        CHECK.row("at first", new long[] {0, 0}, i -> (long) x.count(8 + i));
        Check.feed(x, "oh                  ");
        x.hall(20);
        CHECK.row("a FAULT", new long[] {1, 0}, i -> (long) x.count(8 + i));
        CHECK.is("no TEXT at all", ILLEGAL, () -> x.hall(1));
        x.on(0);
        CHECK.row("no RUN", new long[] {1, 1}, i -> (long) x.count(8 + i));
        CHECK.is("not so many", ILLEGAL, () -> x.on(17));
        for (int i = 0; i < 34; i++) {
            x.feed(0x20202020, 0x20202020, 0x20202020, 0x20202020, 0x20202020);
        }
        x.feed(0, 0, 0, 0, 0);
        CHECK.is("too many bytes are refused", -1, () -> x.feed(0, 0, 0, 0, 0));
        CHECK.row("those count for nothing", new long[] {1, 1}, i -> (long) x.count(8 + i));
        CHECK.is("the last are a FAULT", 1, () -> x.hall(700));
        x.hall(0);
        CHECK.row("STATUS stays", new long[] {2, 1}, i -> (long) x.count(8 + i));
    }

    private static void calls() {
        CHECK.says("What it is", "An object is used for at most 512 calls after it has been made");
        String text = "evening 0 5;people 2" + SURE;
        SeatHall x = new SeatHall();
        // One count and three feeds, a hall, 503 calls that are refused, a begin.
        Check.feed(x, text);
        x.hall(text.length());
        int refused = 0;
        for (int i = 0; i < 503; i++) {
            refused += x.on(1) == -1 ? 1 : 0;
        }
        int all = refused;
        CHECK.is("all are refused", 503, () -> all);
        x.begin(3);
        CHECK.is("the 510th", 1, () -> x.on(1));
        CHECK.is("the 511th", 503, () -> x.count(9));
        CHECK.is("the 512th", 10, () -> x.seen(0, 2));
        SeatHall y = new SeatHall();
        for (int i = 0; i < 255; i++) {
            y.feed(0, 0, 0, 0, 0);
            y.hall(20);
        }
        CHECK.is("as many FAULTS as there can be", 255, () -> y.count(8));
    }
}

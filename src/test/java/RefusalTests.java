import java.util.ArrayList;
import java.util.List;

/** Each call that is refused, on an object of its own in a rich state: what it answers, and that all else answers as it did before. */
public final class RefusalTests {
    private static final long NO_SUCH = Check.NO_SUCH;
    private static final long ILLEGAL = Check.ILLEGAL;
    private static final int[] NO_EVENING = {-1, 3, Integer.MIN_VALUE, Integer.MAX_VALUE};
    private static final int[] NO_KIND = {-1, 3, Integer.MIN_VALUE, Integer.MAX_VALUE};
    private static final int[] NO_TICKET = {-1, 5, Integer.MIN_VALUE, Integer.MAX_VALUE};
    private static final String RICH = "chairs 2;costs 10;evening 0 6;evening 1 4 rain 400;evening 0 8 rain 100;"
            + "people 3 comes 600 thinks 700 wet 300 habit 250 falls 100 worth 12 9 0 0;"
            + "people 2 comes 800 habit 500 worth 20 3 0 0 young;people 1 comes 500 worth 10 5 0 0;seats 2 adds 5;seats 3 adds 2;"
            + "year 18;ten 2 9;set 11 of 0 2;cheap 9;";

    private static final Check CHECK = new Check();

    interface Use {
        long of(SeatHall x);
    }

    private List<Long> before;

    private RefusalTests() {
    }

    public static void main(String[] args) {
        RefusalTests tests = new RefusalTests();
        tests.before = answers(rich());
        tests.ofTheState();
        tests.ofOtherHalls();
        tests.ofTexts();
        tests.ofNumbers();
        tests.ofPeople();
        tests.ofCoins();
        tests.ofPrices();
        tests.ofPairsAndYears();
        tests.ofRuns();
        CHECK.end();
    }

    // ---- the state ----

    /** A RUN behind its second evening, an image behind the first, PRICES, a PAIR, an ORDER, both STATUS 1, a place, 20 bytes of tape. */
    private static SeatHall rich() {
        SeatHall x = richWithoutTape();
        Check.feed(x, "chairs 9;           ");
        return x;
    }

    private static SeatHall richWithoutTape() {
        SeatHall x = new SeatHall();
        makeRich(x);
        return x;
    }

    private static void makeRich(SeatHall x) {
        Check.feed(x, RICH);
        x.hall(RICH.length());
        x.begin(7);
        x.on(1);
        x.image();
        x.on(1);
        x.on(2);
        x.prices(1, 0, 30, 5);
        x.pair(12);
        x.order();
        Check.feed(x, "costs oh            ");
        x.hall(20);
    }

    /** All that it answers, what changes nothing ahead of what does. */
    private static List<Long> answers(SeatHall x) {
        List<Long> all = new ArrayList<>();
        for (int i = 0; i < 10; i++) {
            int what = i;
            all.add(Check.ask(() -> x.count(what)));
        }
        all.add((long) x.fault());
        for (int e = 0; e < 3; e++) {
            for (int i = 0; i < 4; i++) {
                int evening = e;
                int what = i;
                all.add((long) x.evening(e, i));
                all.add((long) x.again(e, 3, i));
                all.add(i < 2 ? x.full(e, i) : Check.ask(() -> x.seen(evening, what + 3)));
                all.add(Check.ask(() -> x.seen(evening, what)));
            }
        }
        for (int kind = 0; kind < 3; kind++) {
            ofKind(x, kind, all);
        }
        for (int i = 0; i < 5; i++) {
            int what = i;
            all.add((long) x.price(i));
            all.add(x.found(i));
            all.add(x.years(2, 500, i));
            all.add(Check.ask(() -> x.ordered(what)));
        }
        all.add((long) x.paired(0));
        all.add((long) x.paired(1));
        all.add(x.earns());
        goOn(x, all);
        return all;
    }

    private static void ofKind(SeatHall x, int kind, List<Long> all) {
        for (int i = 0; i < 11; i++) {
            all.add((long) x.kind(kind, i));
        }
        for (int i = 0; i < 5; i++) {
            all.add((long) x.good(kind, i));
            all.add(x.often(kind, i));
        }
        for (int e = 0; e < 3; e++) {
            all.add((long) x.chance(kind, e, false));
            all.add((long) x.chance(kind, e, true));
            all.add((long) x.coming(kind, e));
            all.add((long) x.owed(kind, e));
            all.add(Check.bit(x.goes(kind, e, 1, 0)));
            all.add(Check.bit(x.goes(kind, e, 2, 3)));
        }
        all.add((long) x.buys(kind));
        all.add((long) x.over(kind, 50000000));
    }

    // How the RUN and its image go on, what is found anew, and the tape.
    private static void goOn(SeatHall x, List<Long> all) {
        all.add((long) x.on(0));
        all.add((long) x.on(1));
        for (int i = 0; i < 7; i++) {
            all.add((long) x.seen(2, i));
        }
        all.add(Check.bit(x.restore()));
        all.add((long) x.on(0));
        all.add((long) x.on(2));
        for (int i = 0; i < 14; i++) {
            all.add((long) x.seen(1 + i / 7, i % 7));
        }
        all.add((long) x.prices(4, 1, 9, 2));
        all.add(x.found(1));
        all.add(x.pair(9));
        all.add(x.order());
        all.add((long) x.hall(20));
        all.add((long) x.count(0));
    }

    /** The call, refused on an object of its own; then all answers as it does where the call was not made. */
    private void refused(String name, long want, Use call) {
        SeatHall x = rich();
        CHECK.is(name, want, () -> call.of(x));
        List<Long> after = answers(x);
        CHECK.is("all else is as before " + name, 1, () -> Check.bit(after.equals(before)));
    }

    private void ofTheState() {
        CHECK.says("Terms 4", "STATUS: how many calls were refused");
        CHECK.is("TEXTS with a FAULT", 1, () -> before.get(8));
        CHECK.is("EVENINGS beyond the last", 1, () -> before.get(9));
        CHECK.is("the place of the FAULT", 6, () -> before.get(10));
    }

    /** What an object has read and answered before leaves nothing to the next hall. */
    private void ofOtherHalls() {
        CHECK.says("Promise 3", "are a HALL, all anew");
        String[] halls = {
            "chairs 60;evening 0 9 rain 9;evening 1 9;people 9 comes 999 worth 9 0 0 0;people 9 comes 999 habit 900 falls 9 worth 99 0 0 0 young;"
                + "seats 1 adds 6;seats 2 adds 7;seats 3 adds 8;seats 4 adds 9;ten 9 1;set 1 of 1;cheap 9;year 99;",
            "costs 9;" + "evening 1 5 rain 700;".repeat(16) + "people 60 comes 900 wet 500 worth 1 9 1 1 young;".repeat(6) + "year 3;set 0 of 1;",
            "evening 0 20;evening 1 20;evening 2 20;people 1 comes 10 thinks 0 worth 30 30 30 0;people 1 comes 20 thinks 1000 worth 19 19 19 0;"
                + "people 1 comes 300 thinks 1000 worth 19 0 0 0;people 1 comes 400 thinks 1000 worth 0 19 19 0;"
                + "people 1 comes 900 thinks 1000 worth 19 19 19 0 young;year 12;ten 1 3;set 5 of 1 2;cheap 1;seats 9 adds 99;"};
        for (int last = 0; last < halls.length; last++) {
            SeatHall x = new SeatHall();
            for (int i = 0; i <= last; i++) {
                Check.feed(x, halls[i]);
                x.hall(halls[i].length());
                useAll(x);
            }
            makeRich(x);
            Check.feed(x, "chairs 9;           ");
            List<Long> after = answers(x);
            CHECK.is("all is as in a new object, behind halls up to " + last, 1, () -> Check.bit(after.equals(before)));
        }
    }

    private static void useAll(SeatHall x) {
        x.full(1, 1);
        x.full(0, 1);
        for (int kind = 0; kind < x.count(3); kind++) {
            x.over(kind, 1000);
            x.often(kind, 4);
        }
        x.pair(3);
        x.order();
        x.years(9, 500, 0);
        x.begin(9);
        x.on(2);
        x.image();
        for (int ticket = 1; ticket < 5; ticket++) {
            int t = ticket;
            Check.ask(() -> x.prices(t, 0, 9, 1));
        }
    }

    // ---- promises 2 to 5 ----

    private void ofTexts() {
        CHECK.says("Promise 3", "IllegalArgumentException: the tape has not so many, n below 0 (nothing changes).");
        for (int n : new int[] {-1, 21, 40, 701, Integer.MIN_VALUE, Integer.MAX_VALUE}) {
            refused("hall " + n, ILLEGAL, x -> x.hall(n));
        }
        CHECK.says("Promise 3", "or the FAULT (all stays but the tape, which is empty then, too, and STATUS)");
        String lines = "chairs 3;costs 3;evening 3 3;people 3 comes 3 worth 3 3 3 3;seats 3 adds 3;year 3;ten 3 3;set 3 of 0;cheap 3;";
        refusedText("oh", 1, 0);
        refusedText("chairs 5", 1, 8);
        refusedText("chairs 0;", 2, 7);
        refusedText("set 1 of 9;", 3, 9);
        refusedText("evening 0 0;set 1 of 0 0;", 4, 23);
        refusedText("chairs 5;chairs 5;", 5, 9);
        refusedText(lines + "oh", 1, lines.length());
        refusedText("evening 3 3;".repeat(16) + "evening 3 3;", 2, 192);
        CHECK.says("Promise 2", "NONE, and none come, if it would have more than 700");
        SeatHall full = rich();
        for (int size = 40; size <= 700; size += 20) {
            full.feed(0x20202020, 0x20202020, 0x20202020, 0x20202020, 0x20202020);
        }
        CHECK.is("one more", -1, () -> full.feed(0, 0, 0, 0, 0));
        List<Long> after = answers(full);
        after.set(7, 20L);
        CHECK.is("all else is as before", 1, () -> Check.bit(after.equals(before)));
    }

    private void refusedText(String text, int fault, int place) {
        SeatHall x = richWithoutTape();
        Check.feed(x, text);
        CHECK.is("hall [" + text + "]", fault, () -> x.hall(text.length()));
        CHECK.is("the tape is empty behind [" + text + "]", 0, () -> x.count(7));
        Check.feed(x, "chairs 9;           ");
        List<Long> after = answers(x);
        CHECK.is("STATUS 0 behind [" + text + "]", 2, () -> after.set(8, 1L));
        CHECK.is("the place of [" + text + "]", place, () -> after.set(10, 6L));
        CHECK.is("all else is as before [" + text + "]", 1, () -> Check.bit(after.equals(before)));
    }

    private void ofNumbers() {
        CHECK.says("Promise 5", "NoSuchElementException: another what.");
        for (int what : new int[] {-1, 10, Integer.MIN_VALUE, Integer.MAX_VALUE}) {
            refused("count " + what, NO_SUCH, x -> x.count(what));
        }
        CHECK.says("Promise 6", "NoSuchElementException: no such EVENING (as everywhere), what.");
        for (int evening : NO_EVENING) {
            refused("evening " + evening, NO_SUCH, x -> x.evening(evening, 0));
        }
        refused("what -1", NO_SUCH, x -> x.evening(0, -1));
        refused("what 4", NO_SUCH, x -> x.evening(2, 4));
        CHECK.says("Promise 7", "NoSuchElementException: no such KIND (as everywhere), what.");
        for (int kind : NO_KIND) {
            refused("kind " + kind, NO_SUCH, x -> x.kind(kind, 0));
        }
        refused("what -1", NO_SUCH, x -> x.kind(0, -1));
        refused("what 11", NO_SUCH, x -> x.kind(2, 11));
        CHECK.says("Promise 8", "NoSuchElementException: no such TICKET (0 to 4; as everywhere).");
        for (int ticket : NO_TICKET) {
            refused("price " + ticket, NO_SUCH, x -> x.price(ticket));
        }
    }

    // ---- promises 9 to 16 ----

    private void ofPeople() {
        CHECK.says("Promise 7", "no such KIND (as everywhere)");
        for (int kind : NO_KIND) {
            refused("chance of kind " + kind, NO_SUCH, x -> x.chance(kind, 0, true));
            refused("good of kind " + kind, NO_SUCH, x -> x.good(kind, 0));
            refused("buys of kind " + kind, NO_SUCH, x -> x.buys(kind));
            refused("goes of kind " + kind, NO_SUCH, x -> Check.bit(x.goes(kind, 0, 0, 0)));
            refused("coming of kind " + kind, NO_SUCH, x -> x.coming(kind, 0));
            refused("often of kind " + kind, NO_SUCH, x -> x.often(kind, 4));
            refused("owed of kind " + kind, NO_SUCH, x -> x.owed(kind, 0));
        }
        CHECK.says("Promise 6", "no such EVENING (as everywhere)");
        for (int evening : NO_EVENING) {
            refused("chance on evening " + evening, NO_SUCH, x -> x.chance(0, evening, false));
            refused("goes on evening " + evening, NO_SUCH, x -> Check.bit(x.goes(0, evening, 0, 0)));
            refused("coming on evening " + evening, NO_SUCH, x -> x.coming(0, evening));
            refused("owed behind evening " + evening, NO_SUCH, x -> x.owed(0, evening));
            refused("full on evening " + evening, NO_SUCH, x -> x.full(evening, 1));
        }
        CHECK.says("Promise 8", "no such TICKET (0 to 4; as everywhere)");
        for (int ticket : NO_TICKET) {
            refused("good of ticket " + ticket, NO_SUCH, x -> x.good(0, ticket));
        }
        CHECK.says("Promise 12", "NoSuchElementException: also k is not 0 to 12, n not 0 to 16.");
        refused("k -1", NO_SUCH, x -> Check.bit(x.goes(0, 0, -1, 0)));
        refused("k 13", NO_SUCH, x -> Check.bit(x.goes(0, 0, 13, 0)));
        refused("n -1", NO_SUCH, x -> Check.bit(x.goes(0, 0, 0, -1)));
        refused("n 17", NO_SUCH, x -> Check.bit(x.goes(0, 0, 0, 17)));
        CHECK.says("Promise 14", "NoSuchElementException: also another what.");
        refused("often -1", NO_SUCH, x -> x.often(0, -1));
        refused("often 5", NO_SUCH, x -> x.often(0, 5));
        CHECK.says("Promise 15", "NoSuchElementException: also another what.");
        refused("full -1", NO_SUCH, x -> x.full(0, -1));
        refused("full 2", NO_SUCH, x -> x.full(0, 2));
    }

    // ---- promises 17 to 26 ----

    private void ofPrices() {
        CHECK.says("Promise 17", "NoSuchElementException: the TICKET is the DOOR, or isn't told.");
        refused("the DOOR", NO_SUCH, x -> x.prices(0, 0, 9, 1));
        for (int ticket : NO_TICKET) {
            refused("prices of ticket " + ticket, NO_SUCH, x -> x.prices(ticket, 0, 9, 1));
        }
        CHECK.says("Promise 17", "IllegalArgumentException (behind that): from, to not 0 to 9999, from above to, step below 1, more than 60.");
        for (int ticket = 1; ticket < 5; ticket++) {
            int t = ticket;
            refused("from -1 of " + t, ILLEGAL, x -> x.prices(t, -1, 9, 1));
            refused("to 10000 of " + t, ILLEGAL, x -> x.prices(t, 9999, 10000, 1));
            refused("from above to of " + t, ILLEGAL, x -> x.prices(t, 9, 8, 1));
            refused("step 0 of " + t, ILLEGAL, x -> x.prices(t, 8, 9, 0));
            refused("the least step of " + t, ILLEGAL, x -> x.prices(t, 8, 9, Integer.MIN_VALUE));
            refused("61 of " + t, ILLEGAL, x -> x.prices(t, 0, 60, 1));
        }
        CHECK.says("Promise 18", "NoSuchElementException: none is kept, another what.");
        refused("found -1", NO_SUCH, x -> x.found(-1));
        refused("found 5", NO_SUCH, x -> x.found(5));
    }

    private void ofCoins() {
        CHECK.says("Promise 19", "IllegalArgumentException (behind NoSuchElementException): the doubt.");
        for (int doubt : new int[] {-1, 1000000001, Integer.MIN_VALUE, Integer.MAX_VALUE}) {
            refused("doubt " + doubt, ILLEGAL, x -> x.over(0, doubt));
            refused("kind 3 ahead of doubt " + doubt, NO_SUCH, x -> x.over(3, doubt));
        }
        for (int kind : NO_KIND) {
            refused("over of kind " + kind, NO_SUCH, x -> x.over(kind, 0));
        }
        CHECK.says("Promise 20", "NoSuchElementException: also another what. IllegalArgumentException (behind that): b.");
        for (int b : new int[] {-1, 1000, Integer.MIN_VALUE, Integer.MAX_VALUE}) {
            refused("b " + b, ILLEGAL, x -> x.again(0, b, 0));
            refused("what 4 ahead of b " + b, NO_SUCH, x -> x.again(0, b, 4));
            refused("evening 3 ahead of b " + b, NO_SUCH, x -> x.again(3, b, 0));
        }
        for (int evening : NO_EVENING) {
            refused("again on evening " + evening, NO_SUCH, x -> x.again(evening, 0, 0));
        }
        refused("again -1", NO_SUCH, x -> x.again(0, 0, -1));
        refused("again 4", NO_SUCH, x -> x.again(0, 0, 4));
    }

    private void ofPairsAndYears() {
        CHECK.says("Promise 21", "IllegalArgumentException: the PRICE.");
        for (int price : new int[] {-1, 10000, Integer.MIN_VALUE, Integer.MAX_VALUE}) {
            refused("pair " + price, ILLEGAL, x -> x.pair(price));
        }
        CHECK.says("Promise 22", "NoSuchElementException: none is, another what.");
        refused("paired -1", NO_SUCH, x -> x.paired(-1));
        refused("paired 2", NO_SUCH, x -> x.paired(2));
        CHECK.says("Promise 23", "NoSuchElementException: another what. IllegalArgumentException (behind that): years, the share.");
        refused("what -1", NO_SUCH, x -> x.years(1, 0, -1));
        refused("what 5", NO_SUCH, x -> x.years(1, 0, 5));
        refused("what 5 ahead of years", NO_SUCH, x -> x.years(0, 0, 5));
        refused("what 5 ahead of the share", NO_SUCH, x -> x.years(1, 1001, 5));
        refused("years 0", ILLEGAL, x -> x.years(0, 0, 4));
        refused("years 61", ILLEGAL, x -> x.years(61, 0, 4));
        refused("share -1", ILLEGAL, x -> x.years(1, -1, 4));
        refused("share 1001", ILLEGAL, x -> x.years(1, 1001, 4));
        CHECK.says("Promise 25", "NoSuchElementException: none is kept, there is none.");
        refused("ordered -1", NO_SUCH, x -> x.ordered(-1));
        refused("ordered 5", NO_SUCH, x -> x.ordered(5));
    }

    // ---- promises 28 to 31 ----

    private void ofRuns() {
        CHECK.says("Promise 28", "IllegalArgumentException: how many.");
        for (int evenings : new int[] {-1, 17, Integer.MIN_VALUE, Integer.MAX_VALUE}) {
            refused("on " + evenings, ILLEGAL, x -> x.on(evenings));
        }
        CHECK.says("Promise 28", "NONE (STATUS 1): they would be beyond the last (it stays)");
        for (int evenings : new int[] {2, 3, 16}) {
            SeatHall x = rich();
            CHECK.is("on " + evenings, -1, () -> x.on(evenings));
            List<Long> after = answers(x);
            CHECK.is("STATUS 1 by on " + evenings, 2, () -> after.set(9, 1L));
            CHECK.is("all else is as before on " + evenings, 1, () -> Check.bit(after.equals(before)));
        }
        CHECK.says("Promise 29", "NoSuchElementException: also it hasn't, another what.");
        refused("it hasn't", NO_SUCH, x -> x.seen(2, 0));
        for (int evening : NO_EVENING) {
            refused("seen of evening " + evening, NO_SUCH, x -> x.seen(evening, 0));
        }
        refused("seen -1", NO_SUCH, x -> x.seen(0, -1));
        refused("seen 7", NO_SUCH, x -> x.seen(0, 7));
    }
}

import java.util.ArrayList;
import java.util.List;
import java.util.function.ToLongFunction;

/** Section 1 of 'Terms' and promises 1 to 8: the sentences that name a boundary, on both of its sides. */
public final class TextBoundaryTests {
    private static final long NO_SUCH = Check.NO_SUCH;
    private static final long ILLEGAL = Check.ILLEGAL;
    private static final int MOST = Integer.MAX_VALUE;
    private static final int LEAST = Integer.MIN_VALUE;
    private static final String EVENING = "evening 0 0;";
    private static final String PEOPLE = "people 1 comes 1000 worth 1 0 0 0;";
    private static final String SEATS = "seats 1 adds 1;";
    private static final String[] ALL_TOKENS = ("chairs 5 ; costs 6 ; evening 1 2 rain 3 ; evening 0 0 ; people 4 comes 5 thinks 6 wet 7 habit 8"
            + " falls 9 worth 10 11 12 13 young ; seats 14 adds 15 ; year 16 ; ten 7 18 ; set 19 of 1 0 ; cheap 20 ;").split(" ");

    private static final Check CHECK = new Check();

    private TextBoundaryTests() {
    }

    public static void main(String[] args) {
        hallNumbers();
        eveningNumbers();
        peopleNumbers();
        seatNumbers();
        ticketNumbers();
        setsOfEvenings();
        longestText();
        words();
        numbers();
        signsAndBlanks();
        lines();
        perhaps();
        firstAndLeast();
        cannotStand();
        endsTooSoon();
        tooMuch();
        notToldAhead();
        hasItAlready();
        toldAlready();
        everyLine();
        newObject();
        tape();
        firstBytes();
        allAnew();
        gone();
        places();
        whats();
        CHECK.end();
    }

    private static SeatHall reads(String text) {
        SeatHall x = new SeatHall();
        Check.feed(x, text);
        CHECK.is("reads [" + text + "]", 0, () -> x.hall(text.length()));
        return x;
    }

    private static void faulty(String text, int number, int place) {
        SeatHall x = new SeatHall();
        Check.feed(x, text);
        CHECK.is("fault of [" + text + "]", number, () -> x.hall(text.length()));
        CHECK.is("its place in [" + text + "]", place, x::fault);
    }

    /** The least and the greatest are read and told; one less and one more are fault 2, at the number. */
    private static void bounds(String ahead, String behind, int least, int most, ToLongFunction<SeatHall> told) {
        for (int number : new int[] {least, most}) {
            SeatHall x = reads(ahead + number + behind);
            CHECK.is("told of [" + ahead + number + behind + "]", number, () -> told.applyAsLong(x));
        }
        if (least > 0) {
            faulty(ahead + (least - 1) + behind, 2, ahead.length());
        }
        faulty(ahead + (most + 1) + behind, 2, ahead.length());
    }

    // ---- Terms 1: how many, how much ----

    private static void hallNumbers() {
        CHECK.says("Terms 1", "CHAIRS (1 to 400; 1 at first)");
        bounds("chairs ", ";", 1, 400, x -> x.count(0));
        CHECK.is("at first", 1, () -> reads("").count(0));
        CHECK.is("of another line", 1, () -> reads("costs 7;").count(0));
        CHECK.says("Terms 1", "COSTS (0 to 9999; 0)");
        bounds("costs ", ";", 0, 9999, x -> x.count(1));
        CHECK.is("at first", 0, () -> reads("").count(1));
        CHECK.is("of another line", 0, () -> reads("chairs 7;").count(1));
    }

    private static void eveningNumbers() {
        CHECK.says("Terms 1", "EVENINGS 0, 1 .. (at most 16)");
        CHECK.is("none", 0, () -> reads("chairs 1;").count(2));
        CHECK.is("one", 1, () -> reads(EVENING).count(2));
        CHECK.is("fifteen", 15, () -> reads(EVENING.repeat(15)).count(2));
        CHECK.is("sixteen", 16, () -> reads(EVENING.repeat(16)).count(2));
        faulty(EVENING.repeat(17), 2, 16 * EVENING.length());
        CHECK.says("Terms 1", "a SORT (0 to 3), a PRICE at the door (0 to 999), RAIN (0 to 1000)");
        bounds("evening ", " 5;", 0, 3, x -> x.evening(0, 0));
        bounds("evening 2 ", ";", 0, 999, x -> x.evening(0, 1));
        bounds("evening 2 5 rain ", ";", 0, 1000, x -> x.evening(0, 2));
        bounds(EVENING.repeat(15) + "evening ", " 5;", 0, 3, x -> x.evening(15, 0));
        bounds(EVENING.repeat(15) + "evening 2 ", " ;", 0, 999, x -> x.evening(15, 1));
        bounds(EVENING.repeat(15) + "evening 2 5 rain ", ";", 0, 1000, x -> x.evening(15, 2));
    }

    private static void peopleNumbers() {
        CHECK.says("Terms 1", "PEOPLE by KINDS 0, 1 .. (at most 6)");
        CHECK.is("none", 0, () -> reads(EVENING).count(3));
        CHECK.is("one", 1, () -> reads(PEOPLE).count(3));
        CHECK.is("five", 5, () -> reads(PEOPLE.repeat(5)).count(3));
        CHECK.is("six", 6, () -> reads(PEOPLE.repeat(6)).count(3));
        faulty(PEOPLE.repeat(7), 2, 6 * PEOPLE.length());
        CHECK.says("Terms 1", "MANY (0 to 60), COMES, THINKS, WET, HABIT (0 to 1000 each), FALLS (0 to 500), WORTH of each SORT of EVENINGS"
                + " (0 to 999), YOUNG or not");
        String worth = " worth 1 2 3 4;";
        for (int kinds : new int[] {0, 5}) {
            String ahead = PEOPLE.repeat(kinds) + "people ";
            bounds(ahead, " comes 5" + worth, 0, 60, x -> x.kind(kinds, 0));
            bounds(ahead + "9 comes ", worth, 0, 1000, x -> x.kind(kinds, 1));
            bounds(ahead + "9 comes 5 thinks ", worth, 0, 1000, x -> x.kind(kinds, 2));
            bounds(ahead + "9 comes 5 wet ", worth, 0, 1000, x -> x.kind(kinds, 3));
            bounds(ahead + "9 comes 5 habit ", worth, 0, 1000, x -> x.kind(kinds, 4));
            bounds(ahead + "9 comes 5 falls ", worth, 0, 500, x -> x.kind(kinds, 5));
            bounds(ahead + "9 comes 5 worth ", " 2 3 4;", 0, 999, x -> x.kind(kinds, 6));
            bounds(ahead + "9 comes 5 worth 1 ", " 3 4;", 0, 999, x -> x.kind(kinds, 7));
            bounds(ahead + "9 comes 5 worth 1 2 ", " 4;", 0, 999, x -> x.kind(kinds, 8));
            bounds(ahead + "9 comes 5 worth 1 2 3 ", ";", 0, 999, x -> x.kind(kinds, 9));
            bounds(ahead + "9 comes 5 worth 1 2 3 ", "young;", 0, 999, x -> x.kind(kinds, 9));
            CHECK.is("young", 1, () -> reads(ahead + "9 comes 5 worth 1 2 3 4 young;").kind(kinds, 10));
            CHECK.is("not young", 0, () -> reads(ahead + "9 comes 5 worth 1 2 3 4;").kind(kinds, 10));
        }
    }

    private static void seatNumbers() {
        CHECK.says("Terms 1", "SEATS in ROWS 0, 1 .. (at most 4)");
        CHECK.is("none", 0, () -> reads(EVENING).count(5));
        CHECK.is("one", 1, () -> reads(SEATS).count(5));
        CHECK.is("three", 3, () -> reads(SEATS.repeat(3)).count(5));
        CHECK.is("four", 4, () -> reads(SEATS.repeat(4)).count(5));
        faulty(SEATS.repeat(5), 2, 4 * SEATS.length());
        CHECK.says("Terms 1", "how many (1 to 400), ADDS (0 to 99)");
        // Each of 360 comes once for sure: of each seat that is taken ADDS thousandths are gained, by a thousand.
        String all = EVENING + "people 60 comes 1000 worth 9 0 0 0;".repeat(6);
        CHECK.is("one seat", 1000, () -> reads(all + "seats 1 adds 1;").order());
        CHECK.is("of 400 seats 360 are taken", 360000, () -> reads(all + "seats 400 adds 1;").order());
        CHECK.is("of four rows by 400", 360000, () -> reads(all + "seats 400 adds 1;".repeat(4)).order());
        faulty("seats 0 adds 1;", 2, 6);
        faulty("seats 401 adds 1;", 2, 6);
        faulty(SEATS.repeat(3) + "seats 401 adds 1;", 2, 51);
        bounds(EVENING + PEOPLE + "seats 1 adds ", ";", 0, 99, x -> x.order() / 1000);
    }

    private static void ticketNumbers() {
        CHECK.says("Terms 1", "0 DOOR (there always is)");
        CHECK.is("of a text of no bytes", 1, () -> reads("").count(6));
        CHECK.is("ahead of others", 3, () -> reads("year 0;").count(6));
        CHECK.is("good of it", 0, () -> reads(PEOPLE).good(0, 0));
        CHECK.says("Terms 1", "those that are told have a PRICE (0 to 9999)");
        bounds("year ", ";", 0, 9999, x -> x.price(1));
        bounds("ten 5 ", ";", 0, 9999, x -> x.price(2));
        bounds(EVENING + "set ", " of 0;", 0, 9999, x -> x.price(3));
        bounds("cheap ", ";", 0, 9999, x -> x.price(4));
        for (int ticket = 1; ticket <= 4; ticket++) {
            int t = ticket;
            CHECK.is("ticket " + t + " isn't told", -1, () -> reads(EVENING).price(t));
        }
        CHECK.says("Terms 1", "'ten' T ahead of its PRICE; 'cheap' is the YOUNG one.");
        SeatHall both = reads("ten 12 0;cheap 13;");
        CHECK.row("T and two PRICES", new long[] {-1, -1, 0, -1, 13}, i -> (long) both.price(i));
        CHECK.is("the tickets that there are", 1 + 4 + 16, () -> both.count(6));
        faulty("ten 0 12;", 2, 4);
        faulty("ten 5;", 1, 5);
        CHECK.says("Terms 1", "a TEN is for T EVENINGS (1 to 12)");
        // Thirteen sure evenings, each worth one coin: with k of T the first T gain a thousand thousandths each.
        bounds(EVENING.repeat(13) + PEOPLE + "ten ", " 0;", 1, 12, x -> x.good(0, 2) / 1000);
    }

    private static void setsOfEvenings() {
        CHECK.says("Terms 1", "a SET for told EVENINGS (one at least)");
        faulty(EVENING + "set 5 of;", 1, 20);
        faulty(EVENING + "set 5 of", 1, 20);
        faulty(EVENING + "set 5;", 1, 17);
        SeatHall one = reads(EVENING.repeat(2) + "set 5 of 1;");
        CHECK.row("one", new long[] {0, 1}, i -> (long) one.evening(i, 3));
        SeatHall all = reads(EVENING.repeat(16) + "set 5 of 15 0 1 2 3 4 5 6 7 8 9 10 11 12 13 14;");
        CHECK.row("all of sixteen", new long[] {1, 1, 1, 1, 1, 1, 1, 1, 1, 1, 1, 1, 1, 1, 1, 1, NO_SUCH}, i -> (long) all.evening(i, 3));
        SeatHall none = reads(EVENING);
        CHECK.is("no set is told", 0, () -> none.evening(0, 3));
    }

    private static void longestText() {
        CHECK.says("Terms 1", "TEXTS of at most 700 bytes");
        String line = "chairs 7;";
        SeatHall x = reads(" ".repeat(700 - line.length()) + line);
        CHECK.is("its last byte is read", 7, () -> x.count(0));
        faulty(" ".repeat(700 - line.length()) + "chairs 7,", 1, 699);
        faulty(" ".repeat(699) + "c", 1, 699);
        faulty("a".repeat(700), 1, 0);
        faulty("chairs " + "1".repeat(693), 2, 7);
        faulty("chairs 5" + " ".repeat(692), 1, 700);
        SeatHall full = new SeatHall();
        Check.feed(full, " ".repeat(700));
        CHECK.is("one more byte", ILLEGAL, () -> full.hall(701));
        CHECK.is("all of them", 0, () -> full.hall(700));
    }

    // ---- Terms 1: tokens and lines ----

    private static void words() {
        CHECK.says("Terms 1", "TOKENS: words (a .. z, the longest row)");
        for (String word : new String[] {"chairs", "costs", "evening", "people", "seats", "year", "ten", "set", "cheap"}) {
            faulty(word + "a 1;", 1, 0);
            faulty(word + "z 1;", 1, 0);
            faulty("a" + word + " 1;", 1, 0);
            faulty("z" + word + " 1;", 1, 0);
            faulty(word + word + " 1;", 1, 0);
            faulty(word.substring(0, word.length() - 1) + " 1;", 1, 0);
            faulty(word.substring(1) + " 1;", 1, 0);
            for (int i = 0; i < word.length(); i++) {
                char other = word.charAt(i) == 'k' ? 'l' : 'k';
                faulty(word.substring(0, i) + other + word.substring(i + 1) + " 1;", 1, 0);
            }
            // 96 and 123 stand beside a and z, 64 and 91 beside the capitals.
            faulty(word + "` 1;", 1, word.length());
            faulty(word + "{ 1;", 1, word.length());
            faulty((char) 96 + word + " 1;", 1, 0);
            faulty((char) 123 + word + " 1;", 1, 0);
            faulty(word.toUpperCase() + " 1;", 1, 0);
        }
        faulty("evening 0 1 raina 5;", 1, 12);
        faulty("people 1 comesz 5 worth 1 1 1 1;", 1, 9);
        faulty("people 1 comes 5 worthworth 1 1 1 1;", 1, 17);
        faulty("people 1 comes 5 worth 1 1 1 1 youngyoung;", 1, 31);
        faulty("people 1 comes 5 worth 1 1 1 1 youn g;", 1, 31);
        faulty("seats 1 add s 1;", 1, 8);
        faulty(EVENING + "set 5 o f 0;", 1, 18);
    }

    private static void numbers() {
        CHECK.says("Terms 1", "NUMBERS (1 to 4 digits)");
        CHECK.is("one digit", 8, () -> reads("costs 8;").count(1));
        CHECK.is("two digits", 8, () -> reads("costs 08;").count(1));
        CHECK.is("four digits", 8, () -> reads("costs 0008;").count(1));
        CHECK.is("four of 0", 0, () -> reads("costs 0000;").count(1));
        CHECK.is("the greatest of four", 9999, () -> reads("costs 9999;").count(1));
        faulty("costs 00008;", 2, 6);
        faulty("costs 00000;", 2, 6);
        faulty("costs 000000000000000000000000000008;", 2, 6);
        // 4294967297 would be 1 and 2147483648 the least int, were it counted in an int.
        faulty("costs 4294967297;", 2, 6);
        faulty("costs 2147483648;", 2, 6);
        faulty("chairs ;", 1, 7);
        // 47 and 58 stand beside 0 and 9.
        faulty("costs 1/;", 1, 7);
        faulty("costs 1:;", 1, 7);
        faulty("costs /1;", 1, 6);
        faulty("costs :1;", 1, 6);
        faulty("costs -1;", 1, 6);
        faulty("costs +1;", 1, 6);
        faulty("costs 1 0;", 1, 8);
    }

    private static void signsAndBlanks() {
        CHECK.says("Terms 1", "the sign ; and blanks (32, 10) between them, which count for nothing");
        for (int sign = 0; sign < 256; sign++) {
            String text = "chairs" + (char) sign + "5;";
            if (sign == 32 || sign == 10) {
                CHECK.is("chairs behind a blank of " + sign, 5, () -> reads(text).count(0));
            } else if (sign >= '0' && sign <= '9') {
                int digit = sign - '0';
                CHECK.is("chairs of two digits", 10 * digit + 5, () -> reads(text).count(0));
            } else {
                faulty(text, 1, sign >= 'a' && sign <= 'z' ? 0 : 6);
            }
            if (sign != 32 && sign != 10 && sign != ';') {
                boolean number = sign >= '0' && sign <= '9';
                faulty("chairs 5 " + (char) sign, 1, 9);
                faulty("chairs 5;" + (char) sign, 1, 9);
                faulty((char) sign + ";", 1, 0);
                faulty("chairs 5" + (char) sign, 1, number ? 9 : 8);
            }
        }
        CHECK.is("at both ends", 9, () -> reads("\n \n chairs 9; \n ").count(0));
        CHECK.is("between all", 9, () -> reads("chairs\n\n 9 \n;").count(0));
        SeatHall x = reads("chairs9;costs3;evening1 2rain3;people4comes5thinks6wet7habit8falls9worth10 11 12 13young;seats5adds6;"
                + "year7;ten8 9;set10of0;cheap11;");
        CHECK.row("none where tokens differ: count", new long[] {9, 3, 1, 1, 4, 1, 31}, i -> (long) x.count(i));
        CHECK.row("none where tokens differ: kind", new long[] {4, 5, 6, 7, 8, 9, 10, 11, 12, 13, 1}, i -> (long) x.kind(0, i));
        CHECK.row("none where tokens differ: price", new long[] {-1, 7, 9, 10, 11}, i -> (long) x.price(i));
    }

    private static void lines() {
        CHECK.says("Terms 1", "HALL: LINE*.");
        CHECK.is("no line", 1, () -> reads("").count(0));
        CHECK.is("blanks alone", 1, () -> reads(" \n").count(0));
        CHECK.is("two lines", 3, () -> reads("costs 2;chairs 3;").count(0));
        faulty(";", 1, 0);
        faulty(" ;", 1, 1);
        faulty("chairs 5;;", 1, 9);
        faulty("chairs 5;7", 1, 9);
        faulty("rain 5;", 1, 0);
        faulty("adds 5;", 1, 0);
        faulty("of 5;", 1, 0);
        faulty("young;", 1, 0);
    }

    private static void perhaps() {
        CHECK.says("Terms 1", "Without: RAIN, WET, HABIT, FALLS 0, THINKS as COMES.");
        CHECK.is("rain", 0, () -> reads("evening 3 999;").evening(0, 2));
        String[] parts = {" thinks 11", " wet 22", " habit 33", " falls 44"};
        for (int told = 0; told < 16; told++) {
            StringBuilder text = new StringBuilder("people 1 comes 987");
            long[] want = {1, 987, 987, 0, 0, 0, 1, 2, 3, 4, 0};
            for (int part = 0; part < 4; part++) {
                if ((told >> part & 1) == 1) {
                    text.append(parts[part]);
                    want[2 + part] = 11 * (part + 1);
                }
            }
            SeatHall x = reads(text.append(" worth 1 2 3 4;").toString());
            CHECK.row("told " + told, want, i -> (long) x.kind(0, i));
        }
        CHECK.says("Terms 1", "[ ] perhaps");
        for (int first = 0; first < 4; first++) {
            for (int second = 0; second <= first; second++) {
                // Out of its place, or a second time.
                String ahead = "people 1 comes 987" + parts[first];
                faulty(ahead + parts[second] + " worth 1 2 3 4;", 1, ahead.length() + 1);
            }
        }
        faulty("evening 0 1 rain 5 rain 5;", 1, 19);
        faulty("people 1 comes 5 worth 1 1 1 1 young young;", 1, 37);
    }

    // ---- Terms 1: faults ----

    private static void firstAndLeast() {
        CHECK.says("Terms 1", "FAULTS, the first along the text, at a TOKEN's first byte, of one TOKEN the least");
        faulty("chairs 0;costs oh;", 2, 7);
        faulty("chairs oh;costs 10000;", 1, 7);
        faulty("year 1;year 2;oh;", 5, 7);
        faulty("oh;year 1;year 2;", 1, 0);
        faulty("set 1 of 0;chairs 0;", 3, 9);
        faulty(EVENING + "set 1 of 0 0 1;", 4, 23);
        faulty(EVENING + "set 1 of 1 0 0;", 3, 21);
        // A number of five digits that can't stand there is 1, an evening of five digits 2 of 2, 3 and 4.
        faulty("chairs 5 12345;", 1, 9);
        faulty("12345 5;", 1, 0);
        faulty("set 5 of 12345;", 2, 9);
        faulty(EVENING + "set 5 of 0 00000;", 2, 23);
        faulty("costs   99999;", 2, 8);
    }

    private static String join(List<String> tokens) {
        return String.join(" ", tokens);
    }

    /** The text of all tokens with another one at i: number is the fault, at that token. */
    private static void replaced(int i, String token, int number) {
        List<String> tokens = new ArrayList<>(List.of(ALL_TOKENS));
        String ahead = join(tokens.subList(0, i));
        tokens.set(i, token);
        faulty(join(tokens), number, i == 0 ? 0 : ahead.length() + 1);
    }

    private static void cannotStand() {
        CHECK.says("Terms 1", "1 a TOKEN that can't stand there, or is none");
        reads(join(List.of(ALL_TOKENS)));
        for (int i = 0; i < ALL_TOKENS.length; i++) {
            String token = ALL_TOKENS[i];
            replaced(i, "oh", 1);
            replaced(i, "?", 1);
            replaced(i, "of" + token, 1);
            boolean isNumber = token.charAt(0) >= '0' && token.charAt(0) <= '9';
            boolean mayBeEvening = token.equals(";") && i >= 3 && ALL_TOKENS[i - 3].equals("of");
            replaced(i, "12345", isNumber || mayBeEvening ? 2 : 1);
            if (isNumber) {
                replaced(i, "chairs", 1);
            }
        }
    }

    private static void endsTooSoon() {
        CHECK.says("Terms 1", "(the text's length where it ends too soon)");
        List<String> all = List.of(ALL_TOKENS);
        for (int many = 1; many <= ALL_TOKENS.length; many++) {
            String text = join(all.subList(0, many));
            if (ALL_TOKENS[many - 1].equals(";")) {
                reads(text);
            } else {
                faulty(text, 1, text.length());
                faulty(text + " ", 1, text.length() + 1);
                faulty(text + "\n\n", 1, text.length() + 2);
            }
        }
        // The text ends by n, whatever the tape has behind it.
        SeatHall x = new SeatHall();
        Check.feed(x, "costs 1234;         ");
        CHECK.is("by n", 1, () -> x.hall(9));
        CHECK.is("at n", 9, x::fault);
        Check.feed(x, "costs 12345;        ");
        CHECK.is("a number cut by n", 1, () -> x.hall(10));
        CHECK.is("behind its fourth digit", 10, x::fault);
        Check.feed(x, "chairs 5;           ");
        CHECK.is("a word cut by n", 1, () -> x.hall(5));
        CHECK.is("is another word", 0, x::fault);
        Check.feed(x, "chairs 5;oh         ");
        CHECK.is("just one line", 0, () -> x.hall(9));
    }

    private static void tooMuch() {
        CHECK.says("Terms 1", "2 one that can, but is too much: a NUMBER of 5 digits or more, or not as told,"
                + " the first TOKEN of the 17th EVENING, the 7th KIND, the 5th ROW");
        faulty("chairs 10000;", 2, 7);
        faulty("chairs 9999;", 2, 7);
        faulty("evening 00000 0;", 2, 8);
        String[] lines = {EVENING.repeat(16), PEOPLE.repeat(6), SEATS.repeat(4)};
        String[] words = {"evening", "people", "seats"};
        for (int i = 0; i < 3; i++) {
            int place = lines[i].length();
            reads(lines[i]);
            faulty(lines[i] + words[i], 2, place);
            faulty(lines[i] + words[i] + " oh", 2, place);
            faulty(lines[i] + " \n" + words[i] + " 12345;", 2, place + 2);
            faulty(lines[i] + words[i] + "z", 1, place);
            faulty(lines[i] + "chairs 5;" + words[i] + " 1 1;", 2, place + 9);
            reads(lines[i] + lines[(i + 1) % 3]);
        }
    }

    private static void notToldAhead() {
        CHECK.says("Terms 1", "3 an EVENING of a 'set' that isn't told ahead");
        faulty("set 5 of 0;", 3, 9);
        faulty("set 5 of 0;" + EVENING, 3, 9);
        faulty(EVENING + "set 5 of 1;" + EVENING, 3, 21);
        reads(EVENING + "set 5 of 0;" + EVENING);
        faulty(EVENING.repeat(2) + "set 5 of 0 1 2;", 3, 37);
        reads(EVENING.repeat(16) + "set 5 of 15;");
        faulty(EVENING.repeat(15) + "set 5 of 15;" + EVENING, 3, 189);
        faulty(EVENING.repeat(16) + "set 5 of 16;", 3, 201);
        faulty(EVENING.repeat(16) + "set 5 of 9999;", 3, 201);
        faulty(EVENING.repeat(16) + "set 5 of 0 1 2 3 4 5 6 7 8 9 10 11 12 13 14 15 16;", 3, 239);
    }

    private static void hasItAlready() {
        CHECK.says("Terms 1", "4 one that it has already");
        faulty(EVENING + "set 5 of 0 0;", 4, 23);
        faulty(EVENING + "set 5 of 0 0000;", 4, 23);
        faulty(EVENING.repeat(2) + "set 5 of 0 1 0;", 4, 37);
        faulty(EVENING.repeat(2) + "set 5 of 1 0 01;", 4, 37);
        faulty(EVENING.repeat(16) + "set 5 of 0 1 2 3 4 5 6 7 8 9 10 11 12 13 14 15 15;", 4, 239);
        // A set that was refused leaves none of its evenings to the next one.
        SeatHall x = new SeatHall();
        Check.feed(x, EVENING + "set 5 of 0 0;       ");
        CHECK.is("refused", 4, () -> x.hall(EVENING.length() + 13));
        Check.feed(x, EVENING + "set 5 of 0;         ");
        CHECK.is("another text's set", 0, () -> x.hall(EVENING.length() + 11));
    }

    private static void toldAlready() {
        CHECK.says("Terms 1", "5 a LINE (but 'evening', 'people', 'seats') that was told already");
        String[] once = {"chairs 5;", "costs 5;", "year 5;", "ten 5 5;", "set 5 of 0;", "cheap 5;"};
        for (String line : once) {
            String word = line.substring(0, line.indexOf(' '));
            faulty(EVENING + line + line, 5, EVENING.length() + line.length());
            faulty(EVENING + line + word, 5, EVENING.length() + line.length());
            faulty(EVENING + line + word + " 12345", 5, EVENING.length() + line.length());
            faulty(EVENING + line + PEOPLE + SEATS + " " + line, 5, EVENING.length() + line.length() + PEOPLE.length() + SEATS.length() + 1);
            faulty(EVENING + line + word + "s 5;", 1, EVENING.length() + line.length());
        }
        reads(EVENING + once[0] + once[1] + once[2] + once[3] + once[4] + once[5]);
        reads(once[5] + EVENING + once[4] + once[3] + once[2] + once[1] + once[0]);
        CHECK.is("evenings", 2, () -> reads(EVENING + EVENING).count(2));
        CHECK.is("people", 2, () -> reads(PEOPLE + PEOPLE).count(3));
        CHECK.is("seats", 2, () -> reads(SEATS + SEATS).count(5));
        faulty("chairs 5;costs chairs", 1, 15);
        // That a line was told by a text that was refused counts for nothing.
        SeatHall x = new SeatHall();
        Check.feed(x, "chairs 5;oh         ");
        CHECK.is("refused", 1, () -> x.hall(11));
        Check.feed(x, "chairs 6;           ");
        CHECK.is("told anew", 0, () -> x.hall(9));
    }

    private static void everyLine() {
        CHECK.says("Terms 1", "LINE*. LINE:");
        String all = "chairs 400;costs 9999;" + "evening 3 999;".repeat(15) + "evening 3 999 rain 1000;"
                + "people 60 comes 999worth 999 999 999 999;".repeat(5)
                + "people 60 comes 1000 thinks 1000 wet 1000 habit 1000 falls 500 worth 999 999 999 999 young;"
                + "seats 400 adds 99;".repeat(4);
        CHECK.is("its length", 22 + 15 * 14 + 24 + 5 * 41 + 91 + 72, () -> all.length());
        String tickets = "year 9;ten 1 9;set 9 of 15 0;cheap 9;";
        SeatHall x = reads(all + tickets);
        CHECK.row("as many of all", new long[] {400, 9999, 16, 6, 360, 4, 31, 0, 0, 0}, i -> (long) x.count(i));
        CHECK.row("the last evening", new long[] {3, 999, 1000, 1}, i -> (long) x.evening(15, i));
        CHECK.row("the last kind", new long[] {60, 1000, 1000, 1000, 1000, 500, 999, 999, 999, 999, 1}, i -> (long) x.kind(5, i));
        String[] more = {"evening", "people", "seats", "chairs", "costs", "year", "ten", "set", "cheap"};
        for (int i = 0; i < more.length; i++) {
            faulty(all + tickets + more[i], i < 3 ? 2 : 5, all.length() + tickets.length());
        }
    }

    // ---- promises 1 to 8 ----

    private static void newObject() {
        CHECK.says("Promise 1", "One chair, no EVENINGS, no PEOPLE.");
        SeatHall x = new SeatHall();
        CHECK.row("count", new long[] {1, 0, 0, 0, 0, 0, 1, 0, 0, 0}, i -> (long) x.count(i));
        CHECK.is("fault", -1, x::fault);
        CHECK.row("price", new long[] {-1, -1, -1, -1, -1}, i -> (long) x.price(i));
        CHECK.is("evening", NO_SUCH, () -> x.evening(0, 0));
        CHECK.is("kind", NO_SUCH, () -> x.kind(0, 0));
        CHECK.is("chance", NO_SUCH, () -> x.chance(0, 0, false));
        CHECK.is("good", NO_SUCH, () -> x.good(0, 0));
        CHECK.is("buys", NO_SUCH, () -> x.buys(0));
        CHECK.is("goes", NO_SUCH, () -> Check.bit(x.goes(0, 0, 0, 0)));
        CHECK.is("coming", NO_SUCH, () -> x.coming(0, 0));
        CHECK.is("often", NO_SUCH, () -> x.often(0, 0));
        CHECK.is("full", NO_SUCH, () -> x.full(0, 0));
        CHECK.is("earns", 0, x::earns);
        CHECK.is("prices", NO_SUCH, () -> x.prices(1, 0, 0, 1));
        CHECK.is("found", NO_SUCH, () -> x.found(0));
        CHECK.is("over", NO_SUCH, () -> x.over(0, 0));
        CHECK.is("again", NO_SUCH, () -> x.again(0, 0, 0));
        CHECK.is("pair", -1, () -> x.pair(0));
        CHECK.is("paired", NO_SUCH, () -> x.paired(0));
        CHECK.is("years", 0, () -> x.years(1, 0, 0));
        CHECK.is("years of no kind", NO_SUCH, () -> x.years(1, 0, 2));
        CHECK.is("ordered", NO_SUCH, () -> x.ordered(0));
        CHECK.is("order", 0, x::order);
        CHECK.is("owed", NO_SUCH, () -> x.owed(0, 0));
        CHECK.is("seen", NO_SUCH, () -> x.seen(0, 0));
        CHECK.is("image", 0, () -> Check.bit(x.image()));
        CHECK.is("restore", 0, () -> Check.bit(x.restore()));
        CHECK.is("on", -1, () -> x.on(0));
        CHECK.is("hall of none", 0, () -> x.hall(0));
    }

    private static void tape() {
        CHECK.says("Promise 2", "Twenty bytes come behind the tape, of each number the highest first");
        SeatHall x = new SeatHall();
        CHECK.is("how many", 20, () -> x.feed(0x63686169, 0x72732031, 0x3b636f73, 0x74732032, 0x3b202020));
        CHECK.is("behind it", 40, () -> x.feed(0x79656172, 0x20333b63, 0x68656170, 0x20343b20, 0x20202020));
        CHECK.is("read", 0, () -> x.hall(40));
        CHECK.row("chairs and costs", new long[] {1, 2}, i -> (long) x.count(i));
        CHECK.row("year and cheap", new long[] {-1, 3, -1, -1, 4}, i -> (long) x.price(i));
        // A byte above 127 is the highest of its number, one by one in each place.
        for (int place = 0; place < 20; place++) {
            int[] fives = {0x20202020, 0x20202020, 0x20202020, 0x20202020, 0x20202020};
            fives[place / 4] = 0x20202020 ^ (0xdf << (24 - 8 * (place % 4)));
            SeatHall y = new SeatHall();
            y.feed(fives[0], fives[1], fives[2], fives[3], fives[4]);
            int at = place;
            CHECK.is("a byte of 255 at " + at, 1, () -> y.hall(20));
            CHECK.is("the place of 255 at " + at, at, y::fault);
        }
        CHECK.says("Promise 2", "NONE, and none come, if it would have more than 700");
        SeatHall z = new SeatHall();
        for (int size = 20; size <= 700; size += 20) {
            int s = size;
            CHECK.is("size " + s, s, () -> z.feed(0x20202020, 0x20202020, 0x20202020, 0x20202020, 0x20202020));
        }
        CHECK.is("beyond", -1, () -> z.feed(0, 0, 0, 0, 0));
        CHECK.is("once more", -1, () -> z.feed(-1, -1, -1, -1, -1));
        CHECK.is("none came", 700, () -> z.count(7));
        CHECK.is("none of its bytes is there", 0, () -> z.hall(700));
        CHECK.is("room again", 20, () -> z.feed(0, 0, 0, 0, 0));
        CHECK.is("which is a fault", 1, () -> z.hall(20));
        CHECK.is("room behind a fault", 20, () -> z.feed(0, 0, 0, 0, 0));
    }

    private static void firstBytes() {
        CHECK.says("Promise 3", "The tape's first n bytes (it is empty then) are a HALL");
        for (int n = 0; n <= 20; n++) {
            SeatHall x = new SeatHall();
            Check.feed(x, "chairs 5;costs 6; oh");
            int bytes = n;
            // Whole are nothing, one line, two lines; behind the first and the second one a blank may stand.
            long want = n == 0 || n == 9 || n == 17 || n == 18 ? 0 : 1;
            CHECK.is("first " + bytes, want, () -> x.hall(bytes));
            CHECK.is("empty behind the first " + bytes, 0, () -> x.count(7));
            CHECK.is("no byte is left behind the first " + bytes, ILLEGAL, () -> x.hall(1));
        }
        CHECK.says("Promise 3", "IllegalArgumentException: the tape has not so many, n below 0 (nothing changes)");
        SeatHall y = new SeatHall();
        CHECK.is("none of an empty tape", 0, () -> y.hall(0));
        CHECK.is("one of an empty tape", ILLEGAL, () -> y.hall(1));
        Check.feed(y, "chairs 5;costs 6; oh");
        for (int n : new int[] {-1, LEAST, 21, 700, 701, MOST}) {
            CHECK.is("n " + n, ILLEGAL, () -> y.hall(n));
            CHECK.row("nothing changes by n " + n, new long[] {1, 0, 0, 0, 0, 0, 1, 20, 0, 0}, i -> (long) y.count(i));
            CHECK.is("no place by n " + n, -1, y::fault);
        }
        CHECK.is("all of it", 1, () -> y.hall(20));
        CHECK.is("its place", 18, y::fault);
    }

    private static void allAnew() {
        CHECK.says("Promise 3", "all anew: 0, or the FAULT (all stays but the tape, which is empty then, too, and STATUS)");
        SeatHall x = reads("chairs 9;costs 8;evening 1 7 rain 6;people 5 comes 400 wet 300 habit 200 falls 100 worth 1 2 3 4 young;"
                + "seats 5 adds 6;year 7;ten 8 9;set 10 of 0;cheap 11;");
        // Each line of this text is told, then comes the fault.
        String bad = "chairs 3;costs 3;evening 3 3;evening 2 2;people 3 comes 3 worth 3 3 3 3;seats 3 adds 3;seats 3 adds 3;"
                + "year 3;ten 3 3;set 3 of 1;cheap 3;oh";
        Check.feed(x, bad);
        CHECK.is("a fault at the end", 1, () -> x.hall(bad.length()));
        CHECK.row("count stays", new long[] {9, 8, 1, 1, 5, 1, 31, 0, 1, 0}, i -> (long) x.count(i));
        CHECK.row("evening stays", new long[] {1, 7, 6, 1}, i -> (long) x.evening(0, i));
        CHECK.row("kind stays", new long[] {5, 400, 400, 300, 200, 100, 1, 2, 3, 4, 1}, i -> (long) x.kind(0, i));
        CHECK.row("price stays", new long[] {-1, 7, 9, 10, 11}, i -> (long) x.price(i));
        CHECK.is("no second evening", NO_SUCH, () -> x.evening(1, 0));
        CHECK.is("the empty text", 0, () -> x.hall(0));
        CHECK.row("all anew: count", new long[] {1, 0, 0, 0, 0, 0, 1, 0, 1, 0}, i -> (long) x.count(i));
        CHECK.row("all anew: price", new long[] {-1, -1, -1, -1, -1}, i -> (long) x.price(i));
        CHECK.is("all anew: evening", NO_SUCH, () -> x.evening(0, 0));
        CHECK.is("all anew: kind", NO_SUCH, () -> x.kind(0, 0));
        // Texts take turns: of each the SET alone that it tells has the evening to which its people go.
        String set = EVENING.replace("0 0", "0 9").repeat(2) + "people 1 comes 1000 worth 9 0 0 0;set 0 of ";
        for (int turn = 0; turn < 6; turn++) {
            int told = turn / 2 % 2;
            Check.feed(x, set + told + ";");
            x.hall(set.length() + 2);
            CHECK.row("whether the SET has it " + turn, new long[] {1 - told, told}, i -> (long) x.evening(i, 3));
            CHECK.row("whether it goes " + turn, new long[] {1 - told, told}, i -> Check.bit(x.goes(0, i, 0, 0)));
        }
    }

    private static void gone() {
        CHECK.says("Promise 3", "A RUN, its image, PRICES, a PAIR, an ORDER that are kept are gone (STATUS stays).");
        String text = EVENING.repeat(2) + PEOPLE + "year 0;";
        for (String next : new String[] {text, "", " "}) {
            SeatHall x = reads(text);
            x.on(0);
            Check.feed(x, "oh");
            x.hall(2);
            x.begin(1);
            x.on(2);
            x.image();
            x.prices(1, 0, 5, 1);
            x.pair(0);
            x.order();
            String name = " behind [" + next + "]";
            CHECK.is("a RUN ahead" + name, 1, () -> x.seen(1, 0));
            CHECK.is("PRICES ahead" + name, 0, () -> x.found(0));
            CHECK.is("a PAIR ahead" + name, 1, () -> x.paired(1));
            CHECK.is("an ORDER ahead" + name, 0, () -> x.ordered(0));
            Check.feed(x, next);
            CHECK.is("another hall" + name, 0, () -> x.hall(next.length()));
            CHECK.is("no RUN" + name, -1, () -> x.on(0));
            CHECK.is("nothing seen" + name, NO_SUCH, () -> x.seen(0, 0));
            CHECK.is("no RUN to keep" + name, 0, () -> Check.bit(x.image()));
            CHECK.is("no image" + name, 0, () -> Check.bit(x.restore()));
            CHECK.is("no PRICES" + name, NO_SUCH, () -> x.found(0));
            CHECK.is("no PAIR" + name, NO_SUCH, () -> x.paired(0));
            CHECK.is("no ORDER" + name, NO_SUCH, () -> x.ordered(0));
            CHECK.row("STATUS stays" + name, new long[] {1, 2}, i -> (long) x.count(8 + i));
        }
    }

    private static void places() {
        CHECK.says("Promise 4", "The place of the latest hall()'s FAULT; NONE without.");
        SeatHall x = new SeatHall();
        CHECK.is("ahead of any", -1, x::fault);
        Check.feed(x, "     oh             ");
        x.hall(20);
        CHECK.is("of the first", 5, x::fault);
        Check.feed(x, "?                   ");
        x.hall(20);
        CHECK.is("of the latest, at 0", 0, x::fault);
        CHECK.is("one that throws", ILLEGAL, () -> x.hall(1));
        CHECK.is("has none of its own", 0, x::fault);
        x.hall(0);
        CHECK.is("without", -1, x::fault);
    }

    private static void whats() {
        SeatHall x = reads("evening 1 2 rain 3;evening 3 2;people 5 comes 6 worth 11 12 13 14 young;people 0 comes 6 worth 1 1 1 1;year 0;"
                + "set 4 of 1;");
        SeatHall none = reads("chairs 2;");
        CHECK.says("Promise 5", "0 CHAIRS, 1 COSTS, 2 EVENINGS, 3 KINDS, 4 PEOPLE, 5 ROWS, 6 TICKETS that there are (bits), 7 bytes of the tape,"
                + " 8, 9 STATUS 0, 1. NoSuchElementException: another what.");
        CHECK.row("what", new long[] {1, 0, 2, 2, 5, 0, 11, 0, 0, 0, NO_SUCH, NO_SUCH}, i -> (long) x.count(i));
        CHECK.is("what -1", NO_SUCH, () -> x.count(-1));
        CHECK.is("the least what", NO_SUCH, () -> x.count(LEAST));
        CHECK.is("the greatest what", NO_SUCH, () -> x.count(MOST));
        CHECK.says("Promise 6", "0 SORT, 1 PRICE, 2 RAIN, 3 whether the SET has it (1). NoSuchElementException: no such EVENING"
                + " (as everywhere), what.");
        CHECK.row("of the first", new long[] {1, 2, 3, 0, NO_SUCH}, i -> (long) x.evening(0, i));
        CHECK.row("of the last", new long[] {3, 2, 0, 1, NO_SUCH}, i -> (long) x.evening(1, i));
        CHECK.row("behind the last", new long[] {NO_SUCH, NO_SUCH, NO_SUCH, NO_SUCH, NO_SUCH}, i -> (long) x.evening(2, i));
        CHECK.row("ahead of the first", new long[] {NO_SUCH, NO_SUCH, NO_SUCH, NO_SUCH, NO_SUCH}, i -> (long) x.evening(-1, i));
        CHECK.is("what -1", NO_SUCH, () -> x.evening(0, -1));
        CHECK.is("the greatest of both", NO_SUCH, () -> x.evening(MOST, MOST));
        CHECK.is("the least of both", NO_SUCH, () -> x.evening(LEAST, LEAST));
        CHECK.is("a hall without evenings", NO_SUCH, () -> none.evening(0, 0));
        CHECK.says("Promise 7", "0 MANY, 1 COMES, 2 THINKS, 3 WET, 4 HABIT, 5 FALLS, 6 to 9 WORTH, 10 YOUNG (1). NoSuchElementException:"
                + " no such KIND (as everywhere), what.");
        CHECK.row("of the first", new long[] {5, 6, 6, 0, 0, 0, 11, 12, 13, 14, 1, NO_SUCH}, i -> (long) x.kind(0, i));
        CHECK.row("of the last", new long[] {0, 6, 6, 0, 0, 0, 1, 1, 1, 1, 0, NO_SUCH}, i -> (long) x.kind(1, i));
        CHECK.is("behind the last", NO_SUCH, () -> x.kind(2, 0));
        CHECK.is("ahead of the first", NO_SUCH, () -> x.kind(-1, 0));
        CHECK.is("what -1", NO_SUCH, () -> x.kind(0, -1));
        CHECK.is("the greatest of both", NO_SUCH, () -> x.kind(MOST, MOST));
        CHECK.is("the least of both", NO_SUCH, () -> x.kind(LEAST, LEAST));
        CHECK.is("a hall without kinds", NO_SUCH, () -> none.kind(0, 0));
        CHECK.says("Promise 8", "PRICE of a TICKET (NONE: of the DOOR, or it isn't told). NoSuchElementException: no such TICKET"
                + " (0 to 4; as everywhere).");
        CHECK.row("ticket", new long[] {-1, 0, -1, 4, -1, NO_SUCH}, i -> (long) x.price(i));
        CHECK.is("ticket -1", NO_SUCH, () -> x.price(-1));
        CHECK.is("the least ticket", NO_SUCH, () -> x.price(LEAST));
        CHECK.is("the greatest ticket", NO_SUCH, () -> x.price(MOST));
    }
}

import java.util.NoSuchElementException;

/** A hall that is sold for the year or by the evening; README.md says how it is used. */
public final class SeatHall {
    public static final int NONE = -1;

    private static final int DOOR = 0;
    private static final int YEAR = 1;
    private static final int TEN = 2;
    private static final int SET = 3;
    private static final int YOUNG = 4;
    private static final int TICKETS = 5;

    private static final int MANY = 0;
    private static final int COMES = 1;
    private static final int THINKS = 2;
    private static final int WET = 3;
    private static final int HABIT = 4;
    private static final int FALLS = 5;
    private static final int WORTH = 6;
    private static final int IS_YOUNG = 10;
    private static final int KIND_NUMBERS = 11;

    private static final int SORT = 0;
    private static final int PRICE = 1;
    private static final int RAIN = 2;
    private static final int IN_SET = 3;
    private static final int EVENING_NUMBERS = 3;

    private static final int SORTS = 4;
    private static final int MOST_BYTES = 700;
    private static final int MOST_EVENINGS = 16;
    private static final int MOST_KINDS = 6;
    private static final int MOST_ROWS = 4;
    private static final int MOST_OF_A_KIND = 60;
    private static final int MOST_OF_A_TEN = 12;
    private static final int MOST_SEATS = 400;
    private static final int MOST_COSTS = 9999;
    private static final int MOST_FALLS = 500;
    private static final int MOST_WORTH = 999;
    private static final int MOST_ADDS = 99;
    private static final int MOST_DIGITS = 4;
    private static final int MOST_PRICE = 9999;
    private static final int MOST_DOOR_PRICE = 999;
    private static final int MOST_PRICES = 60;
    private static final int MOST_YEARS = 60;

    private static final int THOUSAND = 1000;
    private static final int MILLION = 1000000;
    private static final int BILLION = 1000000000;

    private final Reader reader = new Reader();
    private final Tape tape = reader.tape;
    private final Books books = new Books();
    private final Crowd crowd = new Crowd();
    private final Search search = new Search();
    private final Seating seating = new Seating();
    private final Run run = new Run();
    private final Run kept = new Run();
    private Told told = books.told;
    private Told spareTold = new Told();
    private int faultPlace = NONE;
    private int refusedTexts;
    private int refusedRuns;

    public SeatHall() {
    }

    // ---- the hall ----

    public int feed(int a, int b, int c, int d, int e) {
        if (tape.size + 20 > MOST_BYTES) {
            return NONE;
        }
        tape.add(a);
        tape.add(b);
        tape.add(c);
        tape.add(d);
        tape.add(e);
        return tape.size;
    }

    public int hall(int n) throws IllegalArgumentException {
        if (n < 0 || n > tape.size) {
            throw new IllegalArgumentException();
        }
        int fault = reader.read(spareTold, n);
        tape.size = 0;
        if (fault != 0) {
            faultPlace = reader.place();
            refusedTexts++;
            return fault;
        }
        faultPlace = NONE;
        Told before = told;
        told = spareTold;
        spareTold = before;
        books.open(told);
        crowd.forget();
        search.forget();
        seating.forget();
        run.there = false;
        kept.there = false;
        return 0;
    }

    public int fault() {
        return faultPlace;
    }

    public int count(int what) throws NoSuchElementException {
        switch (what) {
            case 0:
                return told.chairs;
            case 1:
                return told.costs;
            case 2:
                return told.evenings;
            case 3:
                return told.kinds;
            case 4:
                return told.people();
            case 5:
                return told.rows;
            case 6:
                return told.ticketBits();
            case 7:
                return tape.size;
            case 8:
                return refusedTexts;
            case 9:
                return refusedRuns;
            default:
                throw new NoSuchElementException();
        }
    }

    public int evening(int evening, int what) throws NoSuchElementException {
        needEvening(evening);
        needWhat(what, IN_SET);
        return what == IN_SET ? at(told.inSet, evening) : told.ofEvening(evening, what);
    }

    public int kind(int kind, int what) throws NoSuchElementException {
        needKind(kind);
        needWhat(what, IS_YOUNG);
        return told.ofKind(kind, what);
    }

    public int price(int ticket) throws NoSuchElementException {
        needTicket(ticket);
        return at(told.prices, ticket);
    }

    // ---- the people ----

    public int chance(int kind, int evening, boolean thinks) throws NoSuchElementException {
        needKind(kind);
        needEvening(evening);
        return told.likely(kind, evening, thinks);
    }

    public int good(int kind, int ticket) throws NoSuchElementException, IllegalArgumentException {
        needKind(kind);
        needTicket(ticket);
        if (ticket == DOOR) {
            return (int) books.planOf(kind, DOOR).value();
        }
        int paid = at(told.prices, ticket);
        if (paid == NONE) {
            throw new IllegalArgumentException();
        }
        return (int) (books.planOf(kind, ticket).value() - (long) THOUSAND * paid);
    }

    public int buys(int kind) throws NoSuchElementException {
        needKind(kind);
        return at(books.bought, kind);
    }

    public boolean goes(int kind, int evening, int k, int n) throws NoSuchElementException {
        needKind(kind);
        needEvening(evening);
        needWhat(k, MOST_OF_A_TEN);
        needWhat(n, MOST_EVENINGS);
        return books.planBoughtBy(kind).takes(evening, k, n);
    }

    public int coming(int kind, int evening) throws NoSuchElementException {
        needKind(kind);
        needEvening(evening);
        return books.planBoughtBy(kind).comingOn(evening);
    }

    public long often(int kind, int what) throws NoSuchElementException {
        needKind(kind);
        needWhat(what, 4);
        Plan plan = books.planBoughtBy(kind);
        switch (what) {
            case 0:
                return plan.gone();
            case 1:
                return plan.sunk();
            case 2:
                return plan.thoughtGone();
            case 3:
                return books.pays(kind);
            default:
                return books.kinder(kind);
        }
    }

    // ---- how full it is, and what it earns ----

    public int full(int evening, int what) throws NoSuchElementException {
        needEvening(evening);
        needWhat(what, 1);
        return what == 0 ? (int) books.fullOn(evening, books.bought) : crowd.standing(books, told, evening);
    }

    public long earns() {
        return books.takings(books.bought, told.prices, told.many);
    }

    public int prices(int ticket, int from, int to, int step)
            throws NoSuchElementException, IllegalArgumentException {
        needTicket(ticket);
        if (at(told.prices, ticket) == NONE) {
            throw new NoSuchElementException();
        }
        if (from < 0 || to > MOST_PRICE || from > to || step < 1 || (to - from) / step >= MOST_PRICES) {
            throw new IllegalArgumentException();
        }
        return search.throughPrices(books, ticket, from, to, step);
    }

    public long found(int what) throws NoSuchElementException {
        needWhat(what, 4);
        if (!search.hasPrices) {
            throw new NoSuchElementException();
        }
        return atWide(search.best, what);
    }

    public int over(int kind, int doubt) throws NoSuchElementException, IllegalArgumentException {
        needKind(kind);
        if (doubt < 0 || doubt > BILLION) {
            throw new IllegalArgumentException();
        }
        return crowd.mostBelow(books, told, kind, doubt);
    }

    public int again(int evening, int b, int what) throws NoSuchElementException, IllegalArgumentException {
        needEvening(evening);
        needWhat(what, 3);
        if (b < 0 || b > MOST_DOOR_PRICE) {
            throw new IllegalArgumentException();
        }
        long turned = books.turnedAway(evening);
        long empty = books.emptySeats(evening);
        long sold = Math.min(turned, empty);
        switch (what) {
            case 0:
                return (int) sold;
            case 1:
                return (int) Math.floorDiv(sold * (told.ofEvening(evening, PRICE) - b), (long) THOUSAND);
            case 2:
                return (int) turned;
            default:
                return (int) empty;
        }
    }

    public long pair(int price) throws IllegalArgumentException {
        if (price < 0 || price > MOST_PRICE) {
            throw new IllegalArgumentException();
        }
        return told.evenings < 2 ? NONE : search.throughPairs(books, price);
    }

    public int paired(int what) throws NoSuchElementException {
        needWhat(what, 1);
        if (!search.hasPair) {
            throw new NoSuchElementException();
        }
        return what == 0 ? search.pairFirst : search.pairSecond;
    }

    public long years(int years, int share, int what) throws NoSuchElementException, IllegalArgumentException {
        if (what < 0 || what - 2 >= told.kinds) {
            throw new NoSuchElementException();
        }
        if (years < 1 || years > MOST_YEARS || share < 0 || share > THOUSAND) {
            throw new IllegalArgumentException();
        }
        return books.throughYears(years, share, what);
    }

    public long order() {
        return seating.arrange(books, told);
    }

    public int ordered(int i) throws NoSuchElementException {
        if (!seating.there || i < 0 || i >= seating.size) {
            throw new NoSuchElementException();
        }
        return at(seating.best, i);
    }

    public int owed(int kind, int evening) throws NoSuchElementException {
        needKind(kind);
        needEvening(evening);
        return (int) books.owing(kind, evening);
    }

    // ---- a run by a seed ----

    public void begin(int seed) {
        run.start(seed);
    }

    public int on(int evenings) throws IllegalArgumentException {
        if (evenings < 0 || evenings > MOST_EVENINGS) {
            throw new IllegalArgumentException();
        }
        if (!run.there || run.next + evenings > told.evenings) {
            refusedRuns++;
            return NONE;
        }
        run.goOn(books, told, evenings);
        return run.next;
    }

    public int seen(int evening, int what) throws NoSuchElementException {
        needEvening(evening);
        if (what < 0 || what - 4 >= told.kinds || !run.there || evening >= run.next) {
            throw new NoSuchElementException();
        }
        switch (what) {
            case 0:
                return run.cameOn(evening);
            case 1:
                return Math.max(0, run.cameOn(evening) - told.chairs);
            case 2:
                return run.coinsOn(books, told, evening);
            case 3:
                return at(run.wet, evening);
            default:
                return run.cameOf(evening, what - 4);
        }
    }

    public boolean image() {
        if (!run.there) {
            return false;
        }
        kept.copy(run);
        return true;
    }

    public boolean restore() {
        if (!kept.there) {
            return false;
        }
        run.copy(kept);
        return true;
    }

    // ---- what every call needs ----

    private void needEvening(int evening) {
        if (evening < 0 || evening >= told.evenings) {
            throw new NoSuchElementException();
        }
    }

    private void needKind(int kind) {
        if (kind < 0 || kind >= told.kinds) {
            throw new NoSuchElementException();
        }
    }

    private void needTicket(int ticket) {
        if (ticket < 0 || ticket >= TICKETS) {
            throw new NoSuchElementException();
        }
    }

    private void needWhat(int what, int last) {
        if (what < 0 || what > last) {
            throw new NoSuchElementException();
        }
    }

    // Every row is read and written here alone, so that no index goes beyond it.

    private static int at(int[] row, int i) {
        return row != null && i >= 0 && i < row.length ? row[i] : 0;
    }

    private static void put(int[] row, int i, int number) {
        if (row != null && i >= 0 && i < row.length) {
            row[i] = number;
        }
    }

    private static long atWide(long[] row, int i) {
        return row != null && i >= 0 && i < row.length ? row[i] : 0;
    }

    private static void putWide(long[] row, int i, long number) {
        if (row != null && i >= 0 && i < row.length) {
            row[i] = number;
        }
    }

    private static void copyRow(int[] from, int[] to) {
        for (int i = 0; from != null && to != null && i < from.length && i < to.length; i++) {
            to[i] = from[i];
        }
    }

    private static void fillRow(int[] row, int number) {
        for (int i = 0; row != null && i < row.length; i++) {
            row[i] = number;
        }
    }

    private static void fillWide(long[] row, long number) {
        for (int i = 0; row != null && i < row.length; i++) {
            row[i] = number;
        }
    }

    /** The bytes that were fed and not yet taken. */
    private static final class Tape {
        final int[] bytes = new int[MOST_BYTES];
        int size;

        void add(int number) {
            for (int shift = 24; shift >= 0; shift -= 8) {
                if (size < MOST_BYTES) {
                    put(bytes, size, (number >>> shift) & 255);
                    size++;
                }
            }
        }
    }

    /** A hall's numbers as a text tells them. */
    private static final class Told {
        int chairs = 1;
        int costs;
        int evenings;
        int kinds;
        int rows;
        int tenLasts;
        final int[] eveningNumbers = new int[MOST_EVENINGS * EVENING_NUMBERS];
        final int[] inSet = new int[MOST_EVENINGS];
        final int[] kindNumbers = new int[MOST_KINDS * KIND_NUMBERS];
        final int[] many = new int[MOST_KINDS];
        final int[] seats = new int[MOST_ROWS];
        final int[] adds = new int[MOST_ROWS];
        final int[] prices = new int[TICKETS];

        Told() {
            fillRow(prices, NONE);
        }

        void clear() {
            chairs = 1;
            costs = 0;
            evenings = 0;
            kinds = 0;
            rows = 0;
            tenLasts = 0;
            fillRow(eveningNumbers, 0);
            fillRow(inSet, 0);
            fillRow(kindNumbers, 0);
            fillRow(many, 0);
            fillRow(seats, 0);
            fillRow(adds, 0);
            fillRow(prices, NONE);
        }

        int ofEvening(int evening, int what) {
            return at(eveningNumbers, evening * EVENING_NUMBERS + what);
        }

        int ofKind(int kind, int what) {
            return at(kindNumbers, kind * KIND_NUMBERS + what);
        }

        boolean isYoung(int kind) {
            return ofKind(kind, IS_YOUNG) == 1;
        }

        int people() {
            int sum = 0;
            for (int kind = 0; kind < kinds; kind++) {
                sum += at(many, kind);
            }
            return sum;
        }

        int ticketBits() {
            int bits = 1;
            for (int ticket = YEAR; ticket < TICKETS; ticket++) {
                if (at(prices, ticket) != NONE) {
                    bits |= 1 << ticket;
                }
            }
            return bits;
        }

        int setFrom(int evening) {
            int sum = 0;
            for (int i = evening; i < evenings; i++) {
                sum += at(inSet, i);
            }
            return sum;
        }

        /** CHANCE of a kind on an evening, or, when it thinks, THOUGHT, in millionths. */
        int likely(int kind, int evening, boolean thinks) {
            long comes = ofKind(kind, thinks ? THINKS : COMES);
            long dry = (long) MILLION - (long) ofEvening(evening, RAIN) * ofKind(kind, WET);
            return (int) (comes * dry / THOUSAND);
        }
    }

    /** Reads a text into a hall's numbers, up to its first fault. */
    private static final class Reader {
        private static final int END = 0;
        private static final int WORD = 1;
        private static final int NUMBER = 2;
        private static final int STOP = 3;
        private static final int BLANK = 4;
        private static final int OTHER = 5;
        private static final int CHAIRS_LINE = 1 << TICKETS;
        private static final int COSTS_LINE = 2 << TICKETS;

        final Tape tape = new Tape();
        private final int[] types = new int[MOST_BYTES];
        private Told into = new Told();
        private int length;
        private int type;
        private int start;
        private int stop;
        private int toldLines;
        private int fault;
        private int faultPlace;

        int place() {
            return faultPlace;
        }

        int read(Told told, int bytes) {
            into = told;
            into.clear();
            length = bytes;
            stop = 0;
            toldLines = 0;
            fault = 0;
            faultPlace = NONE;
            for (int i = 0; i < bytes; i++) {
                put(types, i, typeOf(at(tape.bytes, i)));
            }
            advance();
            for (int lines = 0; lines < bytes && fault == 0 && type != END; lines++) {
                readLine();
            }
            return fault;
        }

        private void readLine() {
            if (isWord("chairs")) {
                tellOnce(CHAIRS_LINE);
                into.chairs = takeNumber(1, MOST_SEATS);
            } else if (isWord("costs")) {
                tellOnce(COSTS_LINE);
                into.costs = takeNumber(0, MOST_COSTS);
            } else if (isWord("evening")) {
                readEvening();
            } else if (isWord("people")) {
                readPeople();
            } else if (isWord("seats")) {
                readSeats();
            } else if (isWord("year")) {
                tellOnce(1 << YEAR);
                put(into.prices, YEAR, takeNumber(0, MOST_PRICE));
            } else if (isWord("ten")) {
                tellOnce(1 << TEN);
                into.tenLasts = takeNumber(1, MOST_OF_A_TEN);
                put(into.prices, TEN, takeNumber(0, MOST_PRICE));
            } else if (isWord("set")) {
                readSet();
            } else if (isWord("cheap")) {
                tellOnce(1 << YOUNG);
                put(into.prices, YOUNG, takeNumber(0, MOST_PRICE));
            } else {
                refuse(1);
            }
            needStop();
        }

        private void readEvening() {
            tellNext(into.evenings, MOST_EVENINGS);
            int base = into.evenings * EVENING_NUMBERS;
            put(into.eveningNumbers, base + SORT, takeNumber(0, SORTS - 1));
            put(into.eveningNumbers, base + PRICE, takeNumber(0, MOST_DOOR_PRICE));
            put(into.eveningNumbers, base + RAIN, takesWord("rain") ? takeNumber(0, THOUSAND) : 0);
            into.evenings++;
        }

        private void readPeople() {
            tellNext(into.kinds, MOST_KINDS);
            int base = into.kinds * KIND_NUMBERS;
            int many = takeNumber(0, MOST_OF_A_KIND);
            put(into.many, into.kinds, many);
            put(into.kindNumbers, base + MANY, many);
            needWord("comes");
            int comes = takeNumber(0, THOUSAND);
            put(into.kindNumbers, base + COMES, comes);
            put(into.kindNumbers, base + THINKS, takesWord("thinks") ? takeNumber(0, THOUSAND) : comes);
            put(into.kindNumbers, base + WET, takesWord("wet") ? takeNumber(0, THOUSAND) : 0);
            put(into.kindNumbers, base + HABIT, takesWord("habit") ? takeNumber(0, THOUSAND) : 0);
            put(into.kindNumbers, base + FALLS, takesWord("falls") ? takeNumber(0, MOST_FALLS) : 0);
            needWord("worth");
            for (int sort = 0; sort < SORTS; sort++) {
                put(into.kindNumbers, base + WORTH + sort, takeNumber(0, MOST_WORTH));
            }
            put(into.kindNumbers, base + IS_YOUNG, takesWord("young") ? 1 : 0);
            into.kinds++;
        }

        private void readSeats() {
            tellNext(into.rows, MOST_ROWS);
            put(into.seats, into.rows, takeNumber(1, MOST_SEATS));
            needWord("adds");
            put(into.adds, into.rows, takeNumber(0, MOST_ADDS));
            into.rows++;
        }

        private void readSet() {
            tellOnce(1 << SET);
            put(into.prices, SET, takeNumber(0, MOST_PRICE));
            needWord("of");
            // No more than every evening and one that is a fault can stand here.
            for (int i = 0; i <= MOST_EVENINGS && (i == 0 || type == NUMBER); i++) {
                takeSetEvening();
            }
        }

        private void takeSetEvening() {
            int evening = number();
            if (type != NUMBER) {
                refuse(1);
            } else if (evening == NONE) {
                refuse(2);
            } else if (evening >= into.evenings) {
                refuse(3);
            } else if (at(into.inSet, evening) == 1) {
                refuse(4);
            } else {
                put(into.inSet, evening, 1);
                advance();
            }
        }

        private void tellOnce(int line) {
            if ((toldLines & line) != 0) {
                refuse(5);
            }
            toldLines |= line;
            advance();
        }

        private void tellNext(int before, int most) {
            if (before >= most) {
                refuse(2);
            }
            advance();
        }

        private int takeNumber(int least, int most) {
            int taken = number();
            if (type != NUMBER) {
                refuse(1);
            } else if (taken < least || taken > most) {
                refuse(2);
            } else {
                advance();
            }
            return taken;
        }

        /** The token as a number; NONE if it is none or has too many digits. */
        private int number() {
            if (type != NUMBER || stop - start > MOST_DIGITS) {
                return NONE;
            }
            int value = 0;
            for (int i = start; i < stop; i++) {
                value = value * 10 + at(tape.bytes, i) - '0';
            }
            return value;
        }

        private boolean takesWord(String word) {
            boolean there = isWord(word);
            if (there) {
                advance();
            }
            return there;
        }

        private void needWord(String word) {
            if (isWord(word)) {
                advance();
            } else {
                refuse(1);
            }
        }

        private void needStop() {
            if (type == STOP) {
                advance();
            } else {
                refuse(1);
            }
        }

        // What follows the first fault is neither read nor told.
        private void refuse(int number) {
            if (fault == 0) {
                fault = number;
                faultPlace = start;
            }
        }

        private void advance() {
            if (fault != 0) {
                return;
            }
            start = stop;
            while (start < length && at(types, start) == BLANK) {
                start++;
            }
            type = start < length ? at(types, start) : END;
            stop = Math.min(length, start + 1);
            boolean isRow = type == WORD || type == NUMBER;
            while (isRow && stop < length && at(types, stop) == type) {
                stop++;
            }
        }

        private static int typeOf(int sign) {
            if (sign == ' ' || sign == 10) {
                return BLANK;
            }
            if (sign >= 'a' && sign <= 'z') {
                return WORD;
            }
            if (sign >= '0' && sign <= '9') {
                return NUMBER;
            }
            return sign == ';' ? STOP : OTHER;
        }

        private boolean isWord(String word) {
            if (type != WORD || stop - start != word.length()) {
                return false;
            }
            for (int i = 0; i < word.length(); i++) {
                if (at(tape.bytes, start + i) != word.charAt(i)) {
                    return false;
                }
            }
            return true;
        }
    }

    /** What a kind does with a ticket: when it goes, what that is worth to it, how often it comes. */
    private static final class Plan {
        // goes() asks of 16 evenings had ahead of any evening: 16 more may follow.
        private static final int HAD = 2 * MOST_EVENINGS + 1;

        private final int ticket;
        private final int cases;
        private final long[] going;
        private final int[] comings = new int[MOST_EVENINGS];
        private final long[] lefts = new long[MOST_EVENINGS];
        // The next evening's values by k and n.
        private final long[] ahead;
        // The cases by n, in billionths: a ten's k follows from it.
        private final long[] shares = new long[MOST_EVENINGS + 1];
        private int lasts;
        private long value;
        private long gone;
        private long sunk;
        private long thoughtGone;

        Plan(int ticket) {
            this.ticket = ticket;
            this.cases = ticket == TEN ? MOST_OF_A_TEN + 1 : 1;
            this.going = new long[ticket == TEN ? MOST_EVENINGS * (MOST_OF_A_TEN + 1) : MOST_EVENINGS];
            this.ahead = new long[ticket == TEN ? HAD * (MOST_OF_A_TEN + 1) : HAD];
        }

        long value() {
            return value;
        }

        long gone() {
            return gone;
        }

        long sunk() {
            return sunk;
        }

        long thoughtGone() {
            return thoughtGone;
        }

        int comingOn(int evening) {
            return at(comings, evening);
        }

        long leftBehind(int evening) {
            return atWide(lefts, evening);
        }

        boolean isOfHabit() {
            return ticket == YEAR || ticket == YOUNG;
        }

        boolean takes(int evening, int k, int n) {
            int left = ticket == TEN ? k : 0;
            if (left < 0 || left >= cases || n < 0 || n >= HAD) {
                return false;
            }
            return ((atWide(going, evening * cases + left) >>> n) & 1L) != 0;
        }

        /** The k of who has had n evenings by this plan. */
        int leftOfTen(int n) {
            return ticket == TEN ? lasts - n : 0;
        }

        /** From the last evening back; by THOUGHT or, if it doesn't think, by CHANCE. */
        void make(Told told, int kind, boolean thinks, int[] set) {
            lasts = told.tenLasts;
            fillWide(ahead, 0);
            fillWide(going, 0);
            for (int evening = told.evenings - 1; evening >= 0; evening--) {
                boolean opens = ticket != SET || at(set, evening) == 1;
                int thought = told.likely(kind, evening, thinks);
                // A case looks at those with less left and more had: these must still be the next evening's.
                for (int k = cases - 1; k >= 0 && opens; k--) {
                    weigh(told, kind, evening, k, thought);
                }
            }
            value = atWide(ahead, leftOfTen(0) * HAD);
        }

        private void weigh(Told told, int kind, int evening, int k, int thought) {
            if (ticket == TEN && k == 0) {
                return;
            }
            long worth = told.ofKind(kind, WORTH + told.ofEvening(evening, SORT));
            int falls = told.ofKind(kind, FALLS);
            long pays = ticket == DOOR ? (long) THOUSAND * told.ofEvening(evening, PRICE) : 0;
            int row = k * HAD;
            int rowBehind = ticket == TEN ? row - HAD : row;
            long mask = 0;
            for (int n = 0; n <= MOST_EVENINGS + evening; n++) {
                long stay = atWide(ahead, row + n);
                long gain = worth * Math.max(0, THOUSAND - falls * n);
                long go = gain - pays + atWide(ahead, rowBehind + n + 1);
                if (go > stay) {
                    mask |= 1L << n;
                    putWide(ahead, row + n, stay + (go - stay) * thought / MILLION);
                }
            }
            putWide(going, evening * cases + k, mask);
        }

        /** How the kind comes by this plan, as it is and as it thinks. */
        void use(Told told, int kind) {
            flow(told, kind, true);
            thoughtGone = gone;
            flow(told, kind, false);
        }

        private void flow(Told told, int kind, boolean thinks) {
            fillWide(shares, 0);
            putWide(shares, 0, BILLION);
            gone = 0;
            sunk = 0;
            int habit = isOfHabit() && !thinks ? told.ofKind(kind, HABIT) : 0;
            for (int evening = 0; evening < told.evenings; evening++) {
                int chance = told.likely(kind, evening, thinks);
                long come = 0;
                // From the most had down, so that who comes is not looked at again.
                for (int n = evening; n >= 0; n--) {
                    come += move(evening, n, chance, habit);
                }
                gone += come;
                put(comings, evening, (int) come);
                putWide(lefts, evening, left());
            }
        }

        private long move(int evening, int n, int chance, int habit) {
            long share = atWide(shares, n);
            long come = share * chance / MILLION;
            if (!takes(evening, leftOfTen(n), n)) {
                come = come * habit / THOUSAND;
                sunk += come;
            }
            putWide(shares, n, share - come);
            putWide(shares, n + 1, atWide(shares, n + 1) + come);
            return come;
        }

        private long left() {
            long sum = 0;
            for (int n = 0; n < shares.length; n++) {
                sum += leftOfTen(n) * atWide(shares, n);
            }
            return sum / THOUSAND;
        }
    }

    /** All plans of a hall, what each kind buys by them, and what follows from that. */
    private static final class Books {
        final int[] bought = new int[MOST_KINDS];
        Told told = new Told();
        final Plan spare = new Plan(SET);
        private final Plan[] plans = new Plan[MOST_KINDS * TICKETS];
        private final int[] later = new int[MOST_KINDS];

        Books() {
            for (int i = 0; i < plans.length; i++) {
                plans[i] = new Plan(i % TICKETS);
            }
        }

        void open(Told opened) {
            told = opened;
            for (int kind = 0; kind < told.kinds; kind++) {
                for (int ticket = DOOR; ticket < TICKETS; ticket++) {
                    Plan plan = planOf(kind, ticket);
                    plan.make(told, kind, true, told.inSet);
                    plan.use(told, kind);
                }
                put(bought, kind, choose(kind, told.prices, planOf(kind, SET).value()));
            }
        }

        Plan planOf(int kind, int ticket) {
            int i = kind * TICKETS + ticket;
            Plan plan = i >= 0 && i < plans.length ? plans[i] : spare;
            return plan == null ? spare : plan;
        }

        Plan planBoughtBy(int kind) {
            return planOf(kind, at(bought, kind));
        }

        /** What a kind buys by these prices, were a set's plan worth so much. */
        int choose(int kind, int[] prices, long setValue) {
            int best = DOOR;
            long most = planOf(kind, DOOR).value();
            for (int ticket = YEAR; ticket < TICKETS; ticket++) {
                int paid = at(prices, ticket);
                boolean sold = paid != NONE && (ticket != YOUNG || told.isYoung(kind));
                long worth = ticket == SET ? setValue : planOf(kind, ticket).value();
                long good = worth - (long) THOUSAND * paid;
                if (sold && good > most) {
                    best = ticket;
                    most = good;
                }
            }
            return best;
        }

        long takings(int[] tickets, int[] prices, int[] people) {
            long sum = 0;
            for (int kind = 0; kind < told.kinds; kind++) {
                long many = at(people, kind);
                int ticket = at(tickets, kind);
                sum += ticket == DOOR ? doorTakings(kind, many) : many * THOUSAND * at(prices, ticket);
            }
            return sum;
        }

        private long doorTakings(int kind, long many) {
            Plan plan = planOf(kind, DOOR);
            long sum = 0;
            for (int evening = 0; evening < told.evenings; evening++) {
                sum += many * plan.comingOn(evening) * told.ofEvening(evening, PRICE) / MILLION;
            }
            return sum;
        }

        private long fullOf(int kind, int ticket, int evening) {
            return (long) at(told.many, kind) * planOf(kind, ticket).comingOn(evening) / THOUSAND;
        }

        long fullOn(int evening, int[] tickets) {
            long sum = 0;
            for (int kind = 0; kind < told.kinds; kind++) {
                sum += fullOf(kind, at(tickets, kind), evening);
            }
            return sum;
        }

        long fullOfAll(int[] tickets) {
            long sum = 0;
            for (int evening = 0; evening < told.evenings; evening++) {
                for (int kind = 0; kind < told.kinds; kind++) {
                    sum += fullOf(kind, at(tickets, kind), evening);
                }
            }
            return sum;
        }

        private boolean hasSeat(int kind) {
            return planBoughtBy(kind).isOfHabit();
        }

        private int seatHolders() {
            int sum = 0;
            for (int kind = 0; kind < told.kinds; kind++) {
                sum += hasSeat(kind) ? at(told.many, kind) : 0;
            }
            return sum;
        }

        long turnedAway(int evening) {
            long free = (long) Math.max(0, told.chairs - seatHolders()) * MILLION;
            long wanted = 0;
            for (int kind = 0; kind < told.kinds; kind++) {
                wanted += at(bought, kind) == DOOR ? fullOf(kind, DOOR, evening) : 0;
            }
            return Math.max(0, wanted - free);
        }

        long emptySeats(int evening) {
            long sum = (long) seatHolders() * MILLION;
            for (int kind = 0; kind < told.kinds; kind++) {
                sum -= hasSeat(kind) ? fullOf(kind, at(bought, kind), evening) : 0;
            }
            return sum;
        }

        long pays(int kind) {
            long gone = planBoughtBy(kind).gone();
            int ticket = at(bought, kind);
            if (ticket == DOOR || gone <= 0) {
                return NONE;
            }
            return (long) THOUSAND * at(told.prices, ticket) * BILLION / gone;
        }

        long kinder(int kind) {
            long year = valueByChance(kind, YEAR);
            long more = year - valueByChance(kind, DOOR);
            return more < 0 ? NONE : Math.min(MOST_PRICE, more / THOUSAND);
        }

        private long valueByChance(int kind, int ticket) {
            Plan plan = planOf(kind, ticket);
            plan.make(told, kind, false, told.inSet);
            long value = plan.value();
            plan.make(told, kind, true, told.inSet);
            return value;
        }

        long throughYears(int years, int share, int what) {
            copyRow(told.many, later);
            long last = 0;
            long sum = 0;
            for (int year = 0; year < years; year++) {
                last = takings(bought, told.prices, later);
                sum += last;
                for (int kind = 0; kind < told.kinds; kind++) {
                    growUp(kind, share);
                }
            }
            if (what == 0) {
                return last;
            }
            return what == 1 ? sum : at(later, what - 2);
        }

        // Who goes over is no longer of a young kind, so that none goes twice in a year.
        private void growUp(int kind, int share) {
            if (!told.isYoung(kind)) {
                return;
            }
            int next = kind + 1;
            while (next < told.kinds && told.isYoung(next)) {
                next++;
            }
            if (next < told.kinds) {
                int go = at(later, kind) * share / THOUSAND;
                put(later, kind, at(later, kind) - go);
                put(later, next, at(later, next) + go);
            }
        }

        long owing(int kind, int evening) {
            int ticket = at(bought, kind);
            long paid = at(told.prices, ticket);
            int rest = told.evenings - 1 - evening;
            int all = told.evenings;
            if (ticket == DOOR) {
                return 0;
            }
            if (ticket == TEN) {
                int lasts = told.tenLasts;
                long left = planOf(kind, TEN).leftBehind(evening);
                return lasts <= 0 ? 0 : paid * left / ((long) THOUSAND * lasts);
            }
            if (ticket == SET) {
                rest = told.setFrom(evening + 1);
                all = told.setFrom(0);
            }
            return all <= 0 ? 0 : THOUSAND * paid * rest / all;
        }
    }

    /** How likely people stand: numbers by how many come, in billionths. */
    private static final class Crowd {
        private final long[] numbers = new long[MOST_SEATS + 1];
        private int low;
        private int high;
        private final int[] worst = new int[MOST_KINDS * (MOST_SEATS + 1)];
        private final int[] looked = new int[MOST_KINDS];

        void forget() {
            fillRow(looked, 0);
            fillRow(worst, 0);
        }

        int standing(Books books, Told told, int evening) {
            clear();
            for (int kind = 0; kind < told.kinds; kind++) {
                int q = books.planBoughtBy(kind).comingOn(evening) / THOUSAND;
                int many = at(told.many, kind);
                for (int i = 0; i < many; i++) {
                    add(q);
                }
            }
            return above(told.chairs);
        }

        /** The most people of a kind with a year by whom standing is no more than a doubt. */
        int mostBelow(Books books, Told told, int kind, int doubt) {
            if (at(looked, kind) == 0) {
                lookAt(books, told, kind);
            }
            // From the most down: what is cut down may let standing fall again.
            int many = MOST_SEATS;
            while (many > 1 && at(worst, kind * (MOST_SEATS + 1) + many) > doubt) {
                many--;
            }
            return many;
        }

        private void lookAt(Books books, Told told, int kind) {
            put(looked, kind, 1);
            Plan plan = books.planOf(kind, YEAR);
            int base = kind * (MOST_SEATS + 1);
            for (int evening = 0; evening < told.evenings; evening++) {
                int q = plan.comingOn(evening) / THOUSAND;
                clear();
                for (int many = 1; many <= MOST_SEATS && q > 0; many++) {
                    add(q);
                    put(worst, base + many, Math.max(at(worst, base + many), above(told.chairs)));
                }
            }
        }

        private void clear() {
            fillWide(numbers, 0);
            putWide(numbers, 0, BILLION);
            low = 0;
            high = 0;
        }

        // Outside of low to high all numbers are 0 and need no look.
        private void add(int q) {
            high = Math.min(high + 1, MOST_SEATS);
            for (int i = high; i >= low; i--) {
                long stays = atWide(numbers, i) * (MILLION - q);
                long joins = atWide(numbers, i - 1) * q;
                putWide(numbers, i, (stays + joins) / MILLION);
            }
            while (high > low && atWide(numbers, high) == 0) {
                high--;
            }
            while (low < high && atWide(numbers, low) == 0) {
                low++;
            }
        }

        private int above(int chairs) {
            long sum = 0;
            for (int i = Math.max(low, chairs + 1); i <= high; i++) {
                sum += atWide(numbers, i);
            }
            return (int) sum;
        }
    }

    /** Looks for prices and for pairs of evenings, and keeps the latest of each that it found. */
    private static final class Search {
        private final int[] prices = new int[TICKETS];
        private final int[] tickets = new int[MOST_KINDS];
        private final int[] set = new int[MOST_EVENINGS];
        final long[] best = new long[5];
        boolean hasPrices;
        boolean hasPair;
        int pairFirst;
        int pairSecond;

        void forget() {
            hasPrices = false;
            hasPair = false;
        }

        int throughPrices(Books books, int ticket, int from, int to, int step) {
            copyRow(books.told.prices, prices);
            putWide(best, 1, NONE);
            putWide(best, 3, NONE);
            putWide(best, 4, NONE);
            int looked = 0;
            // No price is above 9999, nor a step that is taken: this does not wrap.
            for (int price = from; price <= to && looked < MOST_PRICES; price += Math.min(step, MOST_PRICE + 1)) {
                put(prices, ticket, price);
                weigh(books, price);
                looked++;
            }
            hasPrices = true;
            return looked;
        }

        private void weigh(Books books, int price) {
            Told told = books.told;
            for (int kind = 0; kind < told.kinds; kind++) {
                put(tickets, kind, books.choose(kind, prices, books.planOf(kind, SET).value()));
            }
            long earned = books.takings(tickets, prices, told.many);
            long full = books.fullOfAll(tickets);
            keepBetter(0, price, earned);
            keepBetter(2, price, full);
            if (atWide(best, 4) == NONE && earned >= (long) THOUSAND * told.costs) {
                putWide(best, 4, price);
            }
        }

        private void keepBetter(int place, int price, long number) {
            if (number > atWide(best, place + 1)) {
                putWide(best, place, price);
                putWide(best, place + 1, number);
            }
        }

        long throughPairs(Books books, int price) {
            copyRow(books.told.prices, prices);
            put(prices, SET, price);
            fillRow(set, 0);
            long most = NONE;
            for (int first = 0; first < books.told.evenings; first++) {
                put(set, first, 1);
                for (int second = first + 1; second < books.told.evenings; second++) {
                    put(set, second, 1);
                    long earned = earnedBySet(books);
                    put(set, second, 0);
                    if (earned > most) {
                        most = earned;
                        pairFirst = first;
                        pairSecond = second;
                    }
                }
                put(set, first, 0);
            }
            hasPair = true;
            return most;
        }

        private long earnedBySet(Books books) {
            Told told = books.told;
            for (int kind = 0; kind < told.kinds; kind++) {
                books.spare.make(told, kind, true, set);
                put(tickets, kind, books.choose(kind, prices, books.spare.value()));
            }
            return books.takings(tickets, prices, told.many);
        }
    }

    /** Which ticket chooses its seats first: tries every row of tickets, keeps the best. */
    private static final class Seating {
        boolean there;
        int size;
        final int[] best = new int[TICKETS];
        private final int[] row = new int[TICKETS];
        private final int[] ranks = new int[MOST_ROWS];
        private int rank;
        private int free;

        void forget() {
            there = false;
        }

        long arrange(Books books, Told told) {
            collect(books, told);
            rankRows(told);
            long most = NONE;
            boolean more = true;
            // No more rows of five tickets than 120.
            for (int i = 0; i < 120 && more; i++) {
                long gained = gain(books, told);
                if (gained > most) {
                    most = gained;
                    copyRow(row, best);
                }
                more = nextRow();
            }
            there = true;
            return most;
        }

        private void collect(Books books, Told told) {
            size = 0;
            for (int ticket = DOOR; ticket < TICKETS; ticket++) {
                boolean wanted = false;
                for (int kind = 0; kind < told.kinds; kind++) {
                    wanted = wanted || (at(books.bought, kind) == ticket && at(told.many, kind) > 0);
                }
                if (wanted) {
                    put(row, size, ticket);
                    size++;
                }
            }
        }

        private void rankRows(Told told) {
            for (int i = 0; i < told.rows; i++) {
                int place = 0;
                for (int other = 0; other < told.rows; other++) {
                    int more = at(told.adds, other) - at(told.adds, i);
                    place += more > 0 || (more == 0 && other < i) ? 1 : 0;
                }
                put(ranks, place, i);
            }
        }

        private long gain(Books books, Told told) {
            rank = 0;
            free = at(told.seats, at(ranks, 0));
            long gained = 0;
            for (int i = 0; i < size; i++) {
                for (int kind = 0; kind < told.kinds; kind++) {
                    if (at(books.bought, kind) == at(row, i)) {
                        gained += seat(told, at(told.many, kind), books.planBoughtBy(kind).gone());
                    }
                }
            }
            return gained;
        }

        private long seat(Told told, int many, long gone) {
            long gained = 0;
            int left = many;
            // Each turn seats all that are left or fills a row.
            for (int turn = 0; turn <= MOST_ROWS && left > 0 && rank < told.rows; turn++) {
                int taken = Math.min(left, free);
                gained += taken * (at(told.adds, at(ranks, rank)) * gone / MILLION);
                left -= taken;
                free -= taken;
                if (free == 0) {
                    rank++;
                    free = at(told.seats, at(ranks, rank));
                }
            }
            return gained;
        }

        private boolean nextRow() {
            int i = size - 2;
            while (i >= 0 && at(row, i) >= at(row, i + 1)) {
                i--;
            }
            if (i < 0) {
                return false;
            }
            int j = size - 1;
            while (j > i && at(row, j) <= at(row, i)) {
                j--;
            }
            swap(i, j);
            for (int a = i + 1, b = size - 1; a < b; a++, b--) {
                swap(a, b);
            }
            return true;
        }

        private void swap(int i, int j) {
            int number = at(row, i);
            put(row, i, at(row, j));
            put(row, j, number);
        }
    }

    /** A year played by a seed, evening by evening. */
    private static final class Run {
        boolean there;
        int next;
        private int seed;
        private final int[] had = new int[MOST_KINDS * MOST_OF_A_KIND];
        private final int[] came = new int[MOST_EVENINGS * MOST_KINDS];
        final int[] wet = new int[MOST_EVENINGS];

        void start(int first) {
            there = true;
            next = 0;
            seed = first;
            fillRow(had, 0);
            fillRow(came, 0);
            fillRow(wet, 0);
        }

        void copy(Run other) {
            there = other.there;
            next = other.next;
            seed = other.seed;
            copyRow(other.had, had);
            copyRow(other.came, came);
            copyRow(other.wet, wet);
        }

        void goOn(Books books, Told told, int evenings) {
            for (int i = 0; i < evenings; i++) {
                play(books, told, next);
                next++;
            }
        }

        private void play(Books books, Told told, int evening) {
            boolean rains = draw() < told.ofEvening(evening, RAIN);
            put(wet, evening, rains ? 1 : 0);
            int person = 0;
            for (int kind = 0; kind < told.kinds; kind++) {
                Plan plan = books.planBoughtBy(kind);
                int many = at(told.many, kind);
                int sum = 0;
                for (int i = 0; i < many; i++) {
                    if (canCome(told, kind, rains) && comes(told, kind, plan, evening, at(had, person))) {
                        put(had, person, at(had, person) + 1);
                        sum++;
                    }
                    person++;
                }
                put(came, evening * MOST_KINDS + kind, sum);
            }
        }

        private boolean canCome(Told told, int kind, boolean rains) {
            int likely = told.ofKind(kind, COMES);
            if (rains) {
                likely = likely * (THOUSAND - told.ofKind(kind, WET)) / THOUSAND;
            }
            return draw() < likely;
        }

        private boolean comes(Told told, int kind, Plan plan, int evening, int n) {
            if (plan.takes(evening, plan.leftOfTen(n), n)) {
                return true;
            }
            return plan.isOfHabit() && draw() < told.ofKind(kind, HABIT);
        }

        // A DRAW of 1000.
        private int draw() {
            seed = seed * 1103515245 + 12345;
            return ((seed >>> 16) & 32767) % THOUSAND;
        }

        int cameOf(int evening, int kind) {
            return at(came, evening * MOST_KINDS + kind);
        }

        int cameOn(int evening) {
            int sum = 0;
            for (int kind = 0; kind < MOST_KINDS; kind++) {
                sum += cameOf(evening, kind);
            }
            return sum;
        }

        int coinsOn(Books books, Told told, int evening) {
            int sum = 0;
            for (int kind = 0; kind < told.kinds; kind++) {
                sum += at(books.bought, kind) == DOOR ? cameOf(evening, kind) : 0;
            }
            return sum * told.ofEvening(evening, PRICE);
        }
    }
}

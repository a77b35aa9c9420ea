import java.util.Random;

/** Random halls and calls, by fixed seeds: the class and the model must answer alike. A run is one test. */
public final class ModelTests {
    private static final int[] EDGES = {-1, 0, 1, 2, 3, 4, 5, 6, 9, 10, 11, 12, 13, 15, 16, 17, 60, 400, 999, 1000, 1001, 9999, 10000,
        1000000000, 1000000001, Integer.MAX_VALUE, Integer.MIN_VALUE};

    private final Random random;
    private final SeatHall x = new SeatHall();
    private final Model m = new Model();
    private final StringBuilder log = new StringBuilder();
    private int calls;
    private int dear;

    private ModelTests(long seed) {
        random = new Random(seed);
    }

    public static void main(String[] args) {
        int runs = args.length > 0 ? Integer.parseInt(args[0]) : 150;
        int from = args.length > 1 ? Integer.parseInt(args[1]) : 0;
        int passed = 0;
        for (int seed = from; seed < from + runs; seed++) {
            passed += new ModelTests(seed).run(seed) ? 1 : 0;
        }
        System.out.println(passed + " passed, " + (runs - passed) + " failed");
        if (passed < runs) {
            System.exit(1);
        }
    }

    private boolean run(int seed) {
        boolean same = true;
        while (same && calls < 440) {
            same = random.nextInt(40) == 0 || calls == 0 ? tell() : call();
        }
        if (!same) {
            System.out.println("seed " + seed + ": " + log);
        }
        return same;
    }

    private boolean same(String name, Check.Call got, Check.Call want) {
        calls++;
        long a = Check.ask(got);
        long b = Check.ask(want);
        if (a != b) {
            log.append(name).append(" answered ").append(Check.told(a)).append(", due is ").append(Check.told(b));
        }
        return a == b;
    }

    // ---- texts ----

    private int upTo(int most) {
        return random.nextInt(most + 1);
    }

    private int often(int most) {
        int pick = random.nextInt(8);
        return pick == 0 ? 0 : pick == 1 ? most : upTo(most);
    }

    private String number(int least, int most) {
        int pick = random.nextInt(400);
        if (pick == 0) {
            return Integer.toString(most + 1);
        }
        if (pick == 1) {
            return least == 0 ? "00000" : Integer.toString(least - 1);
        }
        String s = Integer.toString(least + often(most - least));
        return pick < 10 && s.length() < 4 ? "0" + s : s;
    }

    private String blank() {
        int pick = random.nextInt(300);
        return pick == 0 ? "\n" : pick == 1 ? "  " : " ";
    }

    private String text() {
        StringBuilder s = new StringBuilder();
        int evenings = random.nextInt(6) == 0 ? 14 + upTo(2) : 1 + upTo(5);
        int kinds = random.nextInt(8) == 0 ? 6 : upTo(3) + upTo(1);
        int worth = random.nextInt(3) == 0 ? 999 : 8 + upTo(40);
        if (random.nextInt(4) > 0) {
            s.append("chairs").append(blank()).append(number(1, random.nextInt(4) > 0 ? 20 : 400)).append(";");
        }
        if (random.nextInt(4) > 0) {
            s.append("costs ").append(number(0, random.nextBoolean() ? 300 : 9999)).append(" ;");
        }
        for (int i = 0; i < evenings; i++) {
            s.append("evening ").append(number(0, 3)).append(blank()).append(number(0, Math.min(999, worth / (1 + upTo(1)))));
            s.append(random.nextInt(3) == 0 ? " rain" + number(0, 1000) + ";" : ";");
        }
        for (int i = 0; i < kinds; i++) {
            people(s, worth);
        }
        tickets(s, evenings, worth);
        int rows = upTo(4);
        for (int i = 0; i < rows; i++) {
            s.append("seats ").append(number(1, random.nextBoolean() ? 15 : 400)).append(" adds ").append(number(0, random.nextBoolean() ? 4 : 99)).append(";");
        }
        if (random.nextInt(8) == 0) {
            spoil(s);
        }
        return s.toString();
    }

    private void people(StringBuilder s, int worth) {
        s.append("people ").append(number(0, random.nextInt(3) == 0 ? 60 : 12)).append(" comes ").append(number(0, 1000));
        String[] words = {"thinks", "wet", "habit", "falls"};
        for (String word : words) {
            if (random.nextInt(word.equals("habit") ? 2 : 3) == 0) {
                s.append(blank()).append(word).append(blank()).append(number(0, word.equals("falls") ? 500 : 1000));
            }
        }
        s.append(" worth");
        for (int i = 0; i < 4; i++) {
            s.append(blank()).append(random.nextInt(4) == 0 ? "0" : number(0, worth));
        }
        s.append(random.nextInt(3) == 0 ? " young;" : ";");
    }

    private void tickets(StringBuilder s, int evenings, int worth) {
        int dear = Math.min(9999, worth * Math.max(1, evenings) / (2 << upTo(2)));
        if (random.nextInt(3) > 0) {
            s.append("year ").append(number(0, dear)).append(";");
        }
        if (random.nextInt(3) > 0) {
            s.append("ten ").append(number(1, 12)).append(blank()).append(number(0, dear)).append(";");
        }
        if (random.nextInt(3) > 0 && evenings > 0) {
            s.append("set ").append(number(0, dear)).append(" of");
            int first = random.nextInt(evenings);
            for (int e = first; e < evenings && (e == first || random.nextInt(3) > 0); e++) {
                s.append(blank()).append(e);
            }
            s.append(";");
        }
        if (random.nextInt(3) > 0) {
            s.append("cheap ").append(number(0, dear)).append(";");
        }
    }

    private void spoil(StringBuilder s) {
        if (s.length() == 0) {
            return;
        }
        int i = random.nextInt(s.length());
        switch (random.nextInt(6)) {
            case 0 -> s.setLength(i);
            case 1 -> s.setCharAt(i, (char) random.nextInt(256));
            case 2 -> s.deleteCharAt(i);
            case 3 -> s.append("set 3 of 0 1 0;");
            case 4 -> s.append("cheap 4;cheap 5;");
            default -> s.insert(i, random.nextBoolean() ? "9" : ";");
        }
    }

    private boolean tell() {
        String text = text();
        if (text.length() > 700) {
            text = random.nextInt(4) == 0 ? text.substring(0, 700) : "";
        }
        boolean same = true;
        for (int i = 0; same && i < text.length(); i += 20) {
            same = feed(Check.word(text, i), Check.word(text, i + 4), Check.word(text, i + 8), Check.word(text, i + 12),
                    Check.word(text, i + 16));
        }
        int n = text.length();
        log.append("[").append(text).append("] ");
        same = same && same("hall", () -> x.hall(n), () -> m.hall(n)) && same("fault", x::fault, () -> m.fault);
        for (int what = 0; same && what <= 9; what++) {
            int w = what;
            same = same("count " + w, () -> x.count(w), () -> m.count(w));
        }
        return same;
    }

    private boolean feed(int a, int b, int c, int d, int e) {
        return same("feed", () -> x.feed(a, b, c, d, e), () -> m.feed(a, b, c, d, e));
    }

    // ---- calls ----

    private int arg(int most) {
        if (random.nextInt(25) == 0) {
            return EDGES[random.nextInt(EDGES.length)];
        }
        return upTo(most);
    }

    private int kindArg() {
        return arg(Math.max(0, m.hall.kinds.size() - 1));
    }

    private int eveningArg() {
        return arg(Math.max(0, m.hall.evenings.size() - 1));
    }

    private boolean call() {
        switch (random.nextInt(4)) {
            case 0:
                return callOfNumbers();
            case 1:
                return callOfPlans();
            case 2:
                return callOfCoins();
            default:
                return callOfRuns();
        }
    }

    private boolean callOfNumbers() {
        int kind = kindArg();
        int evening = eveningArg();
        int what = arg(10);
        int few = arg(4);
        switch (random.nextInt(8)) {
            case 0:
                return same("count " + what, () -> x.count(what), () -> m.count(what));
            case 1:
                return same("evening " + evening + " " + few, () -> x.evening(evening, few), () -> m.evening(evening, few));
            case 2:
                return same("kind " + kind + " " + what, () -> x.kind(kind, what), () -> m.kind(kind, what));
            case 3:
                return same("price " + few, () -> x.price(few), () -> m.price(few));
            case 4:
                return same("fault", x::fault, () -> m.fault);
            case 5:
                return random.nextInt(10) > 0 || feed(random.nextInt(), random.nextInt(), 0x63686169, 0x72732035, 0x3b202020);
            case 6:
                int n = random.nextInt(20) == 0 ? arg(700) : 1 << 20;
                return same("hall " + n, () -> x.hall(n), () -> m.hall(n));
            default:
                boolean thinks = random.nextBoolean();
                return same("chance", () -> x.chance(kind, evening, thinks), () -> m.chance(kind, evening, thinks));
        }
    }

    private boolean callOfPlans() {
        int kind = kindArg();
        int evening = eveningArg();
        int few = arg(4);
        int k = arg(12);
        int n = arg(16);
        switch (random.nextInt(7)) {
            case 0:
                return same("good " + kind + " " + few, () -> x.good(kind, few), () -> m.good(kind, few));
            case 1:
                return same("buys " + kind, () -> x.buys(kind), () -> m.buys(kind));
            case 2:
            case 3:
                return same("goes " + kind + " " + evening + " " + k + " " + n, () -> Check.bit(x.goes(kind, evening, k, n)),
                        () -> Check.bit(m.goes(kind, evening, k, n)));
            case 4:
                return same("coming " + kind + " " + evening, () -> x.coming(kind, evening), () -> m.coming(kind, evening));
            case 5:
                return same("owed " + kind + " " + evening, () -> x.owed(kind, evening), () -> m.owed(kind, evening));
            default:
                return same("often " + kind + " " + few, () -> x.often(kind, few), () -> m.often(kind, few));
        }
    }

    private boolean callOfCoins() {
        int evening = eveningArg();
        int few = arg(3);
        int i = arg(5);
        int b = random.nextBoolean() ? arg(30) : arg(999);
        int price = random.nextBoolean() ? arg(60) : arg(9999);
        switch (random.nextInt(12)) {
            case 0:
            case 1:
                return same("full " + evening + " " + few, () -> x.full(evening, few), () -> m.full(evening, few));
            case 2:
                return same("earns", x::earns, m::earns);
            case 3:
                return prices();
            case 4:
                return same("found " + i, () -> x.found(i), () -> m.found(i));
            case 5:
                return over();
            case 6:
                return same("again " + evening + " " + b + " " + few, () -> x.again(evening, b, few), () -> m.again(evening, b, few));
            case 7:
                dear += m.hall.evenings.size() * m.hall.kinds.size();
                return dear > 100 || same("pair " + price, () -> x.pair(price), () -> m.pair(price));
            case 8:
                return same("paired " + few, () -> x.paired(few), () -> m.paired(few));
            case 9:
                int years = arg(8);
                int share = arg(1000);
                int what = arg(1 + m.hall.kinds.size());
                return same("years " + years + " " + share + " " + what, () -> x.years(years, share, what),
                        () -> m.years(years, share, what));
            case 10:
                return same("order", x::order, m::order);
            default:
                return same("ordered " + i, () -> x.ordered(i), () -> m.ordered(i));
        }
    }

    private boolean prices() {
        int ticket = arg(4);
        int from = arg(random.nextBoolean() ? 30 : 9999);
        int to = random.nextInt(10) == 0 ? arg(9999) : from + upTo(60);
        int step = random.nextInt(3) == 0 ? arg(100) : 1 + upTo(8);
        return same("prices " + ticket + " " + from + " " + to + " " + step, () -> x.prices(ticket, from, to, step),
                () -> m.prices(ticket, from, to, step));
    }

    private boolean over() {
        int kind = kindArg();
        int doubt = random.nextBoolean() ? arg(1000000000) : 1 << random.nextInt(30);
        dear += 30;
        return dear > 100 || same("over " + kind + " " + doubt, () -> x.over(kind, doubt), () -> m.over(kind, doubt));
    }

    private boolean callOfRuns() {
        int evening = eveningArg();
        int what = arg(3 + m.hall.kinds.size());
        int seed = random.nextInt();
        int evenings = random.nextInt(3) == 0 ? arg(16) : upTo(2);
        switch (random.nextInt(10)) {
            case 0:
                x.begin(seed);
                m.begin(seed);
                return true;
            case 1:
            case 2:
            case 3:
                return same("on " + evenings, () -> x.on(evenings), () -> m.on(evenings));
            case 4:
                return random.nextInt(3) > 0 || same("image", () -> Check.bit(x.image()), () -> Check.bit(m.image()));
            case 5:
                return random.nextInt(3) > 0 || same("restore", () -> Check.bit(x.restore()), () -> Check.bit(m.restore()));
            default:
                return same("seen " + evening + " " + what, () -> x.seen(evening, what), () -> m.seen(evening, what));
        }
    }
}

import java.math.BigInteger;
import java.util.ArrayList;
import java.util.HashMap;
import java.util.List;
import java.util.Map;
import java.util.NoSuchElementException;
import java.util.TreeMap;
import java.util.regex.Matcher;
import java.util.regex.Pattern;

/**
 * The document once more, slow and in another form, so that a slip in one of both shows: recursion with a memory
 * for the plans, cases in maps, great numbers, a written grammar, nothing kept from one call to the next.
 */
final class Model {
    static final class Evening {
        int sort;
        int price;
        int rain;
    }

    static final class Kind {
        int many;
        int comes;
        int thinks;
        int wet;
        int habit;
        int falls;
        int[] worth = new int[4];
        boolean young;
    }

    static final class Fault extends Exception {
        final int number;
        final int place;

        Fault(int number, int place) {
            this.number = number;
            this.place = place;
        }
    }

    static final class Hall {
        int chairs = 1;
        int costs;
        List<Evening> evenings = new ArrayList<>();
        List<Kind> kinds = new ArrayList<>();
        List<int[]> rows = new ArrayList<>();
        Map<Integer, Integer> price = new TreeMap<>();
        int lasts;
        List<Integer> set = new ArrayList<>();

        Hall with(int ticket, int amount, List<Integer> otherSet) {
            Hall h = new Hall();
            h.chairs = chairs;
            h.costs = costs;
            h.evenings = evenings;
            h.kinds = kinds;
            h.rows = rows;
            h.price = new TreeMap<>(price);
            h.price.put(ticket, amount);
            h.lasts = lasts;
            h.set = otherSet == null ? set : otherSet;
            return h;
        }
    }

    // ---- reading ----

    static final Pattern TOKEN = Pattern.compile("[a-z]+|[0-9]+|[\\x00-\\xff]", Pattern.DOTALL);

    static final class Tokens {
        final List<String> tokens = new ArrayList<>();
        final List<Integer> places = new ArrayList<>();
        int i;

        Tokens(String text) {
            Matcher m = TOKEN.matcher(text);
            while (m.find()) {
                if (!m.group().equals(" ") && !m.group().equals("\n")) {
                    tokens.add(m.group());
                    places.add(m.start());
                }
            }
            tokens.add("");
            places.add(text.length());
        }

        String see() {
            return tokens.get(i);
        }

        Fault fault(int number) {
            return new Fault(number, places.get(i));
        }

        void take(String what) throws Fault {
            if (!see().equals(what)) {
                throw fault(1);
            }
            i++;
        }

        boolean maybe(String what) {
            if (see().equals(what)) {
                i++;
                return true;
            }
            return false;
        }

        int number(int least, int most) throws Fault {
            String s = see();
            if (!s.matches("[0-9]+")) {
                throw fault(1);
            }
            if (s.length() > 4) {
                throw fault(2);
            }
            int n = Integer.parseInt(s);
            if (n < least || n > most) {
                throw fault(2);
            }
            i++;
            return n;
        }
    }

    static Hall read(String text) throws Fault {
        Tokens t = new Tokens(text);
        Hall h = new Hall();
        List<String> once = new ArrayList<>();
        while (!t.see().isEmpty()) {
            String word = t.see();
            if (!List.of("chairs", "costs", "evening", "people", "seats", "year", "ten", "set", "cheap").contains(word)) {
                throw t.fault(1);
            }
            if (word.equals("evening") && h.evenings.size() == 16 || word.equals("people") && h.kinds.size() == 6
                    || word.equals("seats") && h.rows.size() == 4) {
                throw t.fault(2);
            }
            if (once.contains(word)) {
                throw t.fault(5);
            }
            t.i++;
            switch (word) {
                case "chairs" -> h.chairs = t.number(1, 400);
                case "costs" -> h.costs = t.number(0, 9999);
                case "evening" -> h.evenings.add(evening(t));
                case "people" -> h.kinds.add(people(t));
                case "seats" -> h.rows.add(seats(t));
                case "year" -> h.price.put(1, t.number(0, 9999));
                case "ten" -> {
                    h.lasts = t.number(1, 12);
                    h.price.put(2, t.number(0, 9999));
                }
                case "set" -> set(t, h);
                default -> h.price.put(4, t.number(0, 9999));
            }
            if (!List.of("evening", "people", "seats").contains(word)) {
                once.add(word);
            }
            t.take(";");
        }
        return h;
    }

    private static Evening evening(Tokens t) throws Fault {
        Evening e = new Evening();
        e.sort = t.number(0, 3);
        e.price = t.number(0, 999);
        if (t.maybe("rain")) {
            e.rain = t.number(0, 1000);
        }
        return e;
    }

    private static Kind people(Tokens t) throws Fault {
        Kind k = new Kind();
        k.many = t.number(0, 60);
        t.take("comes");
        k.comes = t.number(0, 1000);
        k.thinks = k.comes;
        if (t.maybe("thinks")) {
            k.thinks = t.number(0, 1000);
        }
        if (t.maybe("wet")) {
            k.wet = t.number(0, 1000);
        }
        if (t.maybe("habit")) {
            k.habit = t.number(0, 1000);
        }
        if (t.maybe("falls")) {
            k.falls = t.number(0, 500);
        }
        t.take("worth");
        for (int i = 0; i < 4; i++) {
            k.worth[i] = t.number(0, 999);
        }
        k.young = t.maybe("young");
        return k;
    }

    private static int[] seats(Tokens t) throws Fault {
        int many = t.number(1, 400);
        t.take("adds");
        return new int[] {many, t.number(0, 99)};
    }

    private static void set(Tokens t, Hall h) throws Fault {
        h.price.put(3, t.number(0, 9999));
        t.take("of");
        do {
            int e = t.number(0, 9999);
            t.i--;
            if (e >= h.evenings.size()) {
                throw t.fault(3);
            }
            if (h.set.contains(e)) {
                throw t.fault(4);
            }
            h.set.add(e);
            t.i++;
        } while (t.see().matches("[0-9]+"));
    }

    // ---- plans ----

    static long big(long... factors) {
        BigInteger product = BigInteger.ONE;
        for (long f : factors) {
            product = product.multiply(BigInteger.valueOf(f));
        }
        return product.longValueExact();
    }

    static long chance(Hall h, int kind, int evening, boolean thinks) {
        Kind k = h.kinds.get(kind);
        int comes = thinks ? k.thinks : k.comes;
        return big(comes, 1000000L - big(h.evenings.get(evening).rain, k.wet)) / 1000;
    }

    static final class Plan {
        final Hall h;
        final int kind;
        final int ticket;
        final boolean thinks;
        final Map<Integer, Long> known = new HashMap<>();

        Plan(Hall h, int kind, int ticket, boolean thinks) {
            this.h = h;
            this.kind = kind;
            this.ticket = ticket;
            this.thinks = thinks;
        }

        int first() {
            return ticket == 2 ? h.lasts : 0;
        }

        long stay(int e, int k, int n) {
            return value(e + 1, k, n);
        }

        long go(int e, int k, int n) {
            Kind who = h.kinds.get(kind);
            Evening evening = h.evenings.get(e);
            long gain = (long) who.worth[evening.sort] * Math.max(0, 1000 - who.falls * n);
            if (ticket == 0) {
                gain -= 1000L * evening.price;
            }
            return gain + value(e + 1, ticket == 2 ? k - 1 : k, n + 1);
        }

        boolean goes(int e, int k, int n) {
            if (ticket == 2 && k == 0 || ticket == 3 && !h.set.contains(e)) {
                return false;
            }
            return go(e, k, n) > stay(e, k, n);
        }

        long value(int e, int k, int n) {
            if (e >= h.evenings.size()) {
                return 0;
            }
            int key = (e * 20 + k) * 50 + n;
            Long old = known.get(key);
            if (old != null) {
                return old;
            }
            long v = stay(e, k, n);
            if (goes(e, k, n)) {
                v += big(go(e, k, n) - v, chance(h, kind, e, thinks)) / 1000000;
            }
            known.put(key, v);
            return v;
        }

        long start() {
            return value(0, first(), 0);
        }

        long good() {
            return start() - (ticket == 0 ? 0 : 1000L * h.price.get(ticket));
        }
    }

    static int buys(Hall h, int kind) {
        int best = 0;
        long most = new Plan(h, kind, 0, true).good();
        for (int ticket : h.price.keySet()) {
            if (ticket == 4 && !h.kinds.get(kind).young) {
                continue;
            }
            long good = new Plan(h, kind, ticket, true).good();
            if (good > most) {
                best = ticket;
                most = good;
            }
        }
        return best;
    }

    static final class Use {
        final List<Long> coming = new ArrayList<>();
        final List<Long> left = new ArrayList<>();
        long gone;
        long sunk;
    }

    static Use use(Hall h, int kind, int ticket, boolean thought) {
        Plan plan = new Plan(h, kind, ticket, true);
        Map<List<Integer>, Long> cases = new HashMap<>();
        cases.put(List.of(plan.first(), 0), 1000000000L);
        Use use = new Use();
        for (int e = 0; e < h.evenings.size(); e++) {
            Map<List<Integer>, Long> next = new HashMap<>();
            long chance = chance(h, kind, e, thought);
            long all = 0;
            for (Map.Entry<List<Integer>, Long> c : cases.entrySet()) {
                int k = c.getKey().get(0);
                int n = c.getKey().get(1);
                long can = big(c.getValue(), chance) / 1000000;
                long come = 0;
                if (plan.goes(e, k, n)) {
                    come = can;
                } else if ((ticket == 1 || ticket == 4) && !thought) {
                    come = can * h.kinds.get(kind).habit / 1000;
                    use.sunk += come;
                }
                all += come;
                next.merge(List.of(ticket == 2 && come > 0 ? k - 1 : k, n + 1), come, Long::sum);
                next.merge(List.of(k, n), c.getValue() - come, Long::sum);
            }
            cases = next;
            use.coming.add(all);
            use.gone += all;
            long left = 0;
            for (Map.Entry<List<Integer>, Long> c : cases.entrySet()) {
                left += c.getKey().get(0) * c.getValue();
            }
            use.left.add(left / 1000);
        }
        return use;
    }

    // ---- the hall's answers ----

    static long[] standing(List<Long> chances, int chairs) {
        long[] numbers = new long[chances.size() + 1];
        numbers[0] = 1000000000L;
        for (long q : chances) {
            long[] next = new long[numbers.length];
            for (int i = 0; i < numbers.length; i++) {
                next[i] = (numbers[i] * (1000000 - q) + (i == 0 ? 0 : numbers[i - 1] * q)) / 1000000;
            }
            numbers = next;
        }
        long sum = 0;
        for (int i = chairs + 1; i < numbers.length; i++) {
            sum += numbers[i];
        }
        return new long[] {sum};
    }

    static long earns(Hall h, int[] many) {
        long sum = 0;
        for (int kind = 0; kind < h.kinds.size(); kind++) {
            int ticket = buys(h, kind);
            if (ticket != 0) {
                sum += many[kind] * 1000L * h.price.get(ticket);
                continue;
            }
            Use use = use(h, kind, 0, false);
            for (int e = 0; e < h.evenings.size(); e++) {
                sum += big(many[kind], use.coming.get(e), h.evenings.get(e).price) / 1000000;
            }
        }
        return sum;
    }

    static int[] many(Hall h) {
        int[] many = new int[h.kinds.size()];
        for (int i = 0; i < many.length; i++) {
            many[i] = h.kinds.get(i).many;
        }
        return many;
    }

    static long full(Hall h, int evening, int... tickets) {
        long sum = 0;
        for (int kind = 0; kind < h.kinds.size(); kind++) {
            int ticket = buys(h, kind);
            boolean counts = tickets.length == 0;
            for (int t : tickets) {
                counts |= t == ticket;
            }
            if (counts) {
                sum += big(h.kinds.get(kind).many, use(h, kind, ticket, false).coming.get(evening)) / 1000;
            }
        }
        return sum;
    }

    static long people(Hall h, int... tickets) {
        long sum = 0;
        for (int kind = 0; kind < h.kinds.size(); kind++) {
            for (int t : tickets) {
                sum += buys(h, kind) == t ? h.kinds.get(kind).many : 0;
            }
        }
        return sum;
    }

    // ---- the object ----

    StringBuilder tape = new StringBuilder();
    Hall hall = new Hall();
    int fault = -1;
    int texts;
    int runs;
    long[] found;
    int[] pair;
    List<Integer> order;
    Run run;
    Run kept;

    static final class Run {
        int seed;
        int next;
        List<int[]> people = new ArrayList<>();
        List<int[]> came = new ArrayList<>();
        List<Boolean> wet = new ArrayList<>();

        Run copy() {
            Run r = new Run();
            r.seed = seed;
            r.next = next;
            for (int[] p : people) {
                r.people.add(p.clone());
            }
            r.came.addAll(came);
            r.wet.addAll(wet);
            return r;
        }

        int draw(int n) {
            seed = seed * 1103515245 + 12345;
            return ((seed >> 16) & 0x7fff) % n;
        }
    }

    void needKind(int kind) {
        need(kind, 0, hall.kinds.size() - 1);
    }

    void needEvening(int evening) {
        need(evening, 0, hall.evenings.size() - 1);
    }

    static void need(int what, int least, int most) {
        if (what < least || what > most) {
            throw new NoSuchElementException();
        }
    }

    static void want(int what, int least, int most) {
        if (what < least || what > most) {
            throw new IllegalArgumentException();
        }
    }

    int feed(int... words) {
        if (tape.length() + 20 > 700) {
            return -1;
        }
        for (int w : words) {
            tape.append((char) (w >>> 24)).append((char) (w >> 16 & 255)).append((char) (w >> 8 & 255)).append((char) (w & 255));
        }
        return tape.length();
    }

    int hall(int n) {
        want(n, 0, tape.length());
        String text = tape.substring(0, n);
        tape.setLength(0);
        try {
            hall = read(text);
        } catch (Fault f) {
            texts++;
            fault = f.place;
            return f.number;
        }
        fault = -1;
        found = null;
        pair = null;
        order = null;
        run = null;
        kept = null;
        return 0;
    }

    int count(int what) {
        need(what, 0, 9);
        int people = 0;
        for (int m : many(hall)) {
            people += m;
        }
        int bits = 1;
        for (int ticket : hall.price.keySet()) {
            bits += 1 << ticket;
        }
        int[] answers = {hall.chairs, hall.costs, hall.evenings.size(), hall.kinds.size(), people, hall.rows.size(), bits,
            tape.length(), texts, runs};
        return answers[what];
    }

    int evening(int evening, int what) {
        needEvening(evening);
        need(what, 0, 3);
        Evening e = hall.evenings.get(evening);
        return new int[] {e.sort, e.price, e.rain, hall.set.contains(evening) ? 1 : 0}[what];
    }

    int kind(int kind, int what) {
        needKind(kind);
        need(what, 0, 10);
        Kind k = hall.kinds.get(kind);
        return new int[] {k.many, k.comes, k.thinks, k.wet, k.habit, k.falls, k.worth[0], k.worth[1], k.worth[2], k.worth[3],
            k.young ? 1 : 0}[what];
    }

    int price(int ticket) {
        need(ticket, 0, 4);
        return hall.price.getOrDefault(ticket, -1);
    }

    long chance(int kind, int evening, boolean thinks) {
        needKind(kind);
        needEvening(evening);
        return chance(hall, kind, evening, thinks);
    }

    long good(int kind, int ticket) {
        needKind(kind);
        need(ticket, 0, 4);
        if (ticket != 0 && !hall.price.containsKey(ticket)) {
            throw new IllegalArgumentException();
        }
        return new Plan(hall, kind, ticket, true).good();
    }

    int buys(int kind) {
        needKind(kind);
        return buys(hall, kind);
    }

    boolean goes(int kind, int evening, int k, int n) {
        needKind(kind);
        needEvening(evening);
        need(k, 0, 12);
        need(n, 0, 16);
        return new Plan(hall, kind, buys(hall, kind), true).goes(evening, k, n);
    }

    long coming(int kind, int evening) {
        needKind(kind);
        needEvening(evening);
        return use(hall, kind, buys(hall, kind), false).coming.get(evening);
    }

    long often(int kind, int what) {
        needKind(kind);
        need(what, 0, 4);
        int ticket = buys(hall, kind);
        Use use = use(hall, kind, ticket, false);
        if (what < 2) {
            return what == 0 ? use.gone : use.sunk;
        }
        if (what == 2) {
            return use(hall, kind, ticket, true).gone;
        }
        if (what == 3) {
            return ticket == 0 || use.gone == 0 ? -1 : big(1000, hall.price.get(ticket), 1000000000L) / use.gone;
        }
        int most = -1;
        for (int price = 0; price <= 9999; price++) {
            Hall h = price == 0 ? hall.with(1, 0, null) : null;
            if (h != null) {
                yearValue = new Plan(h, kind, 1, false).start();
                doorValue = new Plan(h, kind, 0, false).start();
            }
            if (yearValue - 1000L * price >= doorValue) {
                most = price;
            }
        }
        return most;
    }

    private long yearValue;
    private long doorValue;

    long full(int evening, int what) {
        needEvening(evening);
        need(what, 0, 1);
        if (what == 0) {
            return full(hall, evening);
        }
        List<Long> chances = new ArrayList<>();
        for (int kind = 0; kind < hall.kinds.size(); kind++) {
            for (int i = 0; i < hall.kinds.get(kind).many; i++) {
                chances.add(use(hall, kind, buys(hall, kind), false).coming.get(evening) / 1000);
            }
        }
        return standing(chances, hall.chairs)[0];
    }

    long earns() {
        return earns(hall, many(hall));
    }

    int prices(int ticket, int from, int to, int step) {
        need(ticket, 1, 4);
        if (!hall.price.containsKey(ticket)) {
            throw new NoSuchElementException();
        }
        want(from, 0, 9999);
        want(to, from, 9999);
        want(step, 1, Integer.MAX_VALUE);
        List<Integer> all = new ArrayList<>();
        for (long p = from; p <= to; p += step) {
            all.add((int) p);
        }
        want(all.size(), 0, 60);
        found = new long[] {-1, -1, -1, -1, -1};
        for (int p : all) {
            Hall h = hall.with(ticket, p, null);
            long earned = earns(h, many(h));
            long full = 0;
            for (int e = 0; e < h.evenings.size(); e++) {
                full += full(h, e);
            }
            if (earned > found[1]) {
                found[0] = p;
                found[1] = earned;
            }
            if (full > found[3]) {
                found[2] = p;
                found[3] = full;
            }
            if (found[4] < 0 && earned >= 1000L * h.costs) {
                found[4] = p;
            }
        }
        return all.size();
    }

    long found(int what) {
        need(what, 0, 4);
        if (found == null) {
            throw new NoSuchElementException();
        }
        return found[what];
    }

    int over(int kind, int doubt) {
        needKind(kind);
        want(doubt, 0, 1000000000);
        Use use = use(hall.with(1, 0, null), kind, 1, false);
        int most = -1;
        List<Long> chances = new ArrayList<>();
        for (int many = 1; many <= 400; many++) {
            boolean all = true;
            for (long coming : new java.util.HashSet<>(use.coming)) {
                chances.clear();
                for (int i = 0; i < many; i++) {
                    chances.add(coming / 1000);
                }
                all = all && standing(chances, hall.chairs)[0] <= doubt;
            }
            most = all ? many : most;
        }
        return most;
    }

    long again(int evening, int b, int what) {
        needEvening(evening);
        need(what, 0, 3);
        want(b, 0, 999);
        long free = Math.max(0, hall.chairs - people(hall, 1, 4)) * 1000000;
        long turned = Math.max(0, full(hall, evening, 0) - free);
        long empty = 1000000 * people(hall, 1, 4) - full(hall, evening, 1, 4);
        long sold = Math.min(turned, empty);
        long brings = Math.floorDiv(sold * (hall.evenings.get(evening).price - b), 1000L);
        return new long[] {sold, brings, turned, empty}[what];
    }

    long pair(int price) {
        want(price, 0, 9999);
        long most = -1;
        for (int a = 0; a < hall.evenings.size(); a++) {
            for (int b = a + 1; b < hall.evenings.size(); b++) {
                long earned = earns(hall.with(3, price, List.of(a, b)), many(hall));
                if (earned > most) {
                    most = earned;
                    pair = new int[] {a, b};
                }
            }
        }
        return most;
    }

    int paired(int what) {
        need(what, 0, 1);
        if (pair == null) {
            throw new NoSuchElementException();
        }
        return pair[what];
    }

    long years(int years, int share, int what) {
        need(what, 0, 1 + hall.kinds.size());
        want(years, 1, 60);
        want(share, 0, 1000);
        int[] many = many(hall);
        long last = 0;
        long all = 0;
        for (int y = 0; y < years; y++) {
            last = earns(hall, many);
            all += last;
            int[] was = many.clone();
            for (int kind = 0; kind < was.length; kind++) {
                int older = -1;
                for (int other = was.length - 1; other > kind; other--) {
                    older = hall.kinds.get(other).young ? older : other;
                }
                if (hall.kinds.get(kind).young && older >= 0) {
                    many[kind] -= was[kind] * share / 1000;
                    many[older] += was[kind] * share / 1000;
                }
            }
        }
        return what == 0 ? last : what == 1 ? all : many[what - 2];
    }

    long order() {
        List<Integer> tickets = new ArrayList<>();
        for (int ticket = 0; ticket < 5; ticket++) {
            if (people(hall, ticket) > 0) {
                tickets.add(ticket);
            }
        }
        best = -1;
        permute(new ArrayList<>(), tickets);
        return best;
    }

    private long best;

    private void permute(List<Integer> row, List<Integer> rest) {
        if (rest.isEmpty()) {
            long gained = gained(row);
            if (gained > best) {
                best = gained;
                order = new ArrayList<>(row);
            }
        }
        for (Integer ticket : rest) {
            List<Integer> longer = new ArrayList<>(row);
            longer.add(ticket);
            List<Integer> fewer = new ArrayList<>(rest);
            fewer.remove(ticket);
            permute(longer, fewer);
        }
    }

    private long gained(List<Integer> row) {
        List<Integer> seats = new ArrayList<>();
        for (int[] r : hall.rows) {
            for (int i = 0; i < r[0]; i++) {
                seats.add(r[1]);
            }
        }
        seats.sort((a, b) -> b - a);
        long sum = 0;
        int taken = 0;
        for (int ticket : row) {
            for (int kind = 0; kind < hall.kinds.size(); kind++) {
                if (buys(hall, kind) != ticket) {
                    continue;
                }
                long gone = use(hall, kind, ticket, false).gone;
                for (int i = 0; i < hall.kinds.get(kind).many && taken < seats.size(); i++) {
                    sum += seats.get(taken) * gone / 1000000;
                    taken++;
                }
            }
        }
        return sum;
    }

    int ordered(int i) {
        if (order == null) {
            throw new NoSuchElementException();
        }
        need(i, 0, order.size() - 1);
        return order.get(i);
    }

    long owed(int kind, int evening) {
        needKind(kind);
        needEvening(evening);
        int ticket = buys(hall, kind);
        if (ticket == 0) {
            return 0;
        }
        long price = hall.price.get(ticket);
        if (ticket == 2) {
            return big(price, use(hall, kind, 2, false).left.get(evening)) / (1000L * hall.lasts);
        }
        if (ticket == 3) {
            int rest = 0;
            for (int e : hall.set) {
                rest += e > evening ? 1 : 0;
            }
            return 1000 * price * rest / hall.set.size();
        }
        return 1000 * price * (hall.evenings.size() - evening - 1) / hall.evenings.size();
    }

    void begin(int seed) {
        run = new Run();
        run.seed = seed;
        for (int kind = 0; kind < hall.kinds.size(); kind++) {
            int ticket = buys(hall, kind);
            for (int i = 0; i < hall.kinds.get(kind).many; i++) {
                run.people.add(new int[] {kind, ticket, ticket == 2 ? hall.lasts : 0, 0});
            }
        }
    }

    int on(int evenings) {
        want(evenings, 0, 16);
        if (run == null || run.next + evenings > hall.evenings.size()) {
            runs++;
            return -1;
        }
        for (int i = 0; i < evenings; i++) {
            play(run.next++);
        }
        return run.next;
    }

    private void play(int e) {
        boolean wet = run.draw(1000) < hall.evenings.get(e).rain;
        int[] came = new int[hall.kinds.size()];
        for (int[] p : run.people) {
            Kind kind = hall.kinds.get(p[0]);
            int likely = wet ? kind.comes * (1000 - kind.wet) / 1000 : kind.comes;
            if (run.draw(1000) >= likely) {
                continue;
            }
            boolean comes = new Plan(hall, p[0], p[1], true).goes(e, p[2], p[3]);
            if (!comes && (p[1] == 1 || p[1] == 4)) {
                comes = run.draw(1000) < kind.habit;
            }
            if (comes) {
                came[p[0]]++;
                p[2] -= p[1] == 2 ? 1 : 0;
                p[3]++;
            }
        }
        run.came.add(came);
        run.wet.add(wet);
    }

    int seen(int evening, int what) {
        needEvening(evening);
        need(what, 0, 3 + hall.kinds.size());
        if (run == null || evening >= run.next) {
            throw new NoSuchElementException();
        }
        int[] came = run.came.get(evening);
        int all = 0;
        int coins = 0;
        for (int kind = 0; kind < came.length; kind++) {
            all += came[kind];
            coins += buys(hall, kind) == 0 ? came[kind] * hall.evenings.get(evening).price : 0;
        }
        if (what > 3) {
            return came[what - 4];
        }
        return new int[] {all, Math.max(0, all - hall.chairs), coins, run.wet.get(evening) ? 1 : 0}[what];
    }

    boolean image() {
        kept = run == null ? kept : run.copy();
        return run != null;
    }

    boolean restore() {
        run = kept == null ? run : kept.copy();
        return kept != null;
    }
}

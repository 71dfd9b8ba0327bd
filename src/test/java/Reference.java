import java.math.BigInteger;
import java.util.ArrayDeque;
import java.util.ArrayList;
import java.util.Collections;
import java.util.Deque;
import java.util.List;
import java.util.TreeSet;
import java.util.function.IntPredicate;
import java.util.function.IntToLongFunction;
import java.util.regex.Matcher;
import java.util.regex.Pattern;

/**
 * The document once more, in the slowest and most literal form that could be found: kinds are classes under one
 * another, sets are sets, every order, limit and throw is tried. Compared with WhichWayRound by ReferenceTest.
 */
final class Reference {
    private static class Street {
        final int kind;
        final int figure;
        final int minutes;

        Street(int kind, int figure, int minutes) {
            this.kind = kind;
            this.figure = figure;
            this.minutes = minutes;
        }

        int hard(int hour) {
            return figure;
        }

        int ballFaults() {
            return 1;
        }
    }

    private static class Hill extends Street {
        Hill(int kind, int figure, int minutes) {
            super(kind, figure, minutes);
        }

        @Override int hard(int hour) {
            return super.hard(hour) + 2;
        }
    }

    private static class Ring extends Street {
        Ring(int kind, int figure, int minutes) {
            super(kind, figure, minutes);
        }

        @Override int hard(int hour) {
            return super.hard(hour) + (List.of(15, 16, 17).contains(hour) ? 3 : 1);
        }

        @Override int ballFaults() {
            return super.ballFaults() + 2;
        }
    }

    private static final class School extends Hill {
        School(int figure, int minutes) {
            super(3, figure, minutes);
        }

        @Override int hard(int hour) {
            return List.of(8, 15).contains(hour) ? 2 * super.hard(hour) : super.hard(hour);
        }

        @Override int ballFaults() {
            return 4;
        }
    }

    private static final class Yard extends Street {
        Yard(int figure, int minutes) {
            super(4, figure, minutes);
        }

        @Override int hard(int hour) {
            return super.hard(hour) / 2;
        }

        @Override int ballFaults() {
            return 0;
        }
    }

    private static final class Crown extends Ring {
        Crown(int figure, int minutes) {
            super(5, figure, minutes);
        }

        @Override int hard(int hour) {
            return super.hard(hour) + 1;
        }
    }

    private record Learner(int skill, TreeSet<Integer> known) {
        Learner copy() {
            return new Learner(skill, new TreeSet<>(known));
        }

        Learner knowing(Iterable<Integer> more) {
            Learner other = copy();
            more.forEach(other.known::add);
            return other;
        }
    }

    private static final class Town {
        final List<Street> streets = new ArrayList<>();
        final List<TreeSet<Integer>> ways = new ArrayList<>();
        final List<Learner> learners = new ArrayList<>();
        int hour = 8;
        int limit = 11;
        int day = 0;

        Town copy() {
            Town other = new Town();
            other.streets.addAll(streets);
            other.ways.addAll(ways);
            learners.forEach(l -> other.learners.add(l.copy()));
            other.hour = hour;
            other.limit = limit;
            other.day = day;
            return other;
        }
    }

    private Town now = new Town();
    private Town kept = null;
    private final Deque<Town> past = new ArrayDeque<>();
    private final StringBuilder letters = new StringBuilder();
    private final List<Integer> numbers = new ArrayList<>();
    private final int[] refusals = new int[7];

    // ---- rules

    private static int bits(Iterable<Integer> set) {
        int all = 0;
        for (int i : set) {
            all |= 1 << i;
        }
        return all;
    }

    private static TreeSet<Integer> setOf(int bits) {
        TreeSet<Integer> set = new TreeSet<>();
        for (int i = 0; i < 31; i++) {
            if ((bits & 1 << i) != 0) {
                set.add(i);
            }
        }
        return set;
    }

    private static int bitsWhere(int many, IntPredicate holds) {
        int all = 0;
        for (int i = 0; i < many; i++) {
            if (holds.test(i)) {
                all |= 1 << i;
            }
        }
        return all;
    }

    private static int firstLeast(int many, IntToLongFunction of) {
        int best = -9;
        for (int i = many - 1; i >= 0; i--) {
            if (best == -9 || of.applyAsLong(i) <= of.applyAsLong(best)) {
                best = i;
            }
        }
        return best;
    }

    private int faultsIn(Learner l, int street, int hour) {
        int f = now.streets.get(street).hard(hour) - l.skill;
        f = f < 0 ? 0 : f;
        return l.known.contains(street) ? f / 2 : f;
    }

    private int faultsOn(Learner l, TreeSet<Integer> way, int hour) {
        return way.stream().mapToInt(s -> faultsIn(l, s, hour)).sum();
    }

    private boolean passes(Learner l, TreeSet<Integer> way, int hour, int limit) {
        return faultsOn(l, way, hour) <= limit && way.stream().allMatch(s -> faultsIn(l, s, hour) <= 5);
    }

    private boolean passes(Learner l, TreeSet<Integer> way, int hour) {
        return passes(l, way, hour, now.limit);
    }

    private int hardOn(Iterable<Integer> set, int hour) {
        int all = 0;
        for (int s : set) {
            all += now.streets.get(s).hard(hour);
        }
        return all;
    }

    private int minutesOn(TreeSet<Integer> set) {
        return set.stream().mapToInt(s -> now.streets.get(s).minutes).sum();
    }

    private TreeSet<Integer> kindsOn(Iterable<Integer> set) {
        TreeSet<Integer> kinds = new TreeSet<>();
        for (int s : set) {
            kinds.add(now.streets.get(s).kind);
        }
        return kinds;
    }

    private TreeSet<Integer> shared(int a, int b) {
        TreeSet<Integer> both = new TreeSet<>(now.ways.get(a));
        both.retainAll(now.ways.get(b));
        return both;
    }

    private int ways() {
        return now.ways.size();
    }

    private boolean noStreet(int i) {
        return i < 0 || i >= now.streets.size();
    }

    private boolean noWay(int i) {
        return i < 0 || i >= ways();
    }

    private boolean noLearner(int i) {
        return i < 0 || i >= now.learners.size();
    }

    private static boolean noHour(int hour) {
        return hour < 0 || hour > 23;
    }

    private int no(int why) {
        refusals[-why]++;
        return why;
    }

    private long noLong(int why) {
        return 4000000000000000000L - no(why);
    }

    private static long fraction(BigInteger above, BigInteger below, int part) {
        if (above.signum() == 0) {
            return part == 0 ? 0 : 1;
        }
        BigInteger g = above.gcd(below);
        return (part == 0 ? above : below).divide(g).longValueExact();
    }

    // ---- statements: done to a town, or refused

    private static int doStreet(Town t, int kind, int figure, int minutes) {
        if (kind < 0 || kind > 5) {
            return -2;
        }
        if (figure < 0 || minutes < 1) {
            return -4;
        }
        if (figure > 9 || minutes > 9 || t.streets.size() == 8) {
            return -6;
        }
        t.streets.add(switch (kind) {
            case 0 -> new Street(0, figure, minutes);
            case 1 -> new Hill(1, figure, minutes);
            case 2 -> new Ring(2, figure, minutes);
            case 3 -> new School(figure, minutes);
            case 4 -> new Yard(figure, minutes);
            default -> new Crown(figure, minutes);
        });
        return t.streets.size() - 1;
    }

    private static int doWay(Town t, int bits) {
        if (bits < 1) {
            return -4;
        }
        if (setOf(bits).last() >= t.streets.size() || t.ways.size() == 6) {
            return -6;
        }
        t.ways.add(setOf(bits));
        return t.ways.size() - 1;
    }

    private static int doLearner(Town t, int skill) {
        if (skill < 0) {
            return -4;
        }
        if (skill > 9 || t.learners.size() == 5) {
            return -6;
        }
        t.learners.add(new Learner(skill, new TreeSet<>()));
        return t.learners.size() - 1;
    }

    private static int doKnow(Town t, int learner, int street) {
        if (learner < 0 || learner >= t.learners.size() || street < 0 || street >= t.streets.size()) {
            return -1;
        }
        TreeSet<Integer> known = t.learners.get(learner).known;
        if (known.remove(street)) {
            return 0;
        }
        known.add(street);
        return 1;
    }

    private int doTest(Town t, int learner, int way) {
        if (learner < 0 || learner >= t.learners.size() || way < 0 || way >= t.ways.size()) {
            return -1;
        }
        Town was = now;
        now = t;
        boolean passed = passes(t.learners.get(learner), t.ways.get(way), t.hour, t.limit);
        now = was;
        t.learners.get(learner).known.addAll(t.ways.get(way));
        return passed ? 1 : 0;
    }

    private static int doSet(Town t, int what, int v) {
        if (what != 0 && what != 1) {
            return -2;
        }
        if (v < 0) {
            return -4;
        }
        if (v > (what == 0 ? 23 : 99)) {
            return -6;
        }
        int was = what == 0 ? t.hour : t.limit;
        if (what == 0) {
            t.hour = v;
        } else {
            t.limit = v;
        }
        return was;
    }

    private static int doDay(Town t) {
        if (t.day == 999) {
            return -6;
        }
        t.day++;
        t.hour = 8;
        t.learners.forEach(l -> l.known.pollLast());
        return t.day;
    }

    // ---- the face

    public int feed(int letter) {
        if (letter < 0) {
            return no(-4);
        }
        if (letter > 255 || letters.length() == 96) {
            return no(-6);
        }
        letters.append((char) letter);
        return letters.length();
    }

    private static final Pattern STATEMENT = Pattern.compile("([sw][0-9]{3}|[khtm][0-9]{2}|l[0-9]|d);");

    /** Whether some letters behind these make a town of them (how long it is then is not looked at). */
    private static boolean canGoOn(String text) {
        for (String behind : new String[] {"", ";", "0;", "00;", "000;", "d;"}) {
            if (Pattern.matches("(" + STATEMENT.pattern() + ")+", text + behind)) {
                return true;
            }
        }
        return false;
    }

    public int town() {
        String text = letters.toString();
        letters.setLength(0);
        for (int end = 1; end <= text.length(); end++) {
            if (!canGoOn(text.substring(0, end))) {
                return -1000 - (end - 1);
            }
        }
        if (!text.endsWith(";")) {
            return -1000 - text.length();
        }
        Town t = now.copy();
        int statements = 0;
        Matcher m = STATEMENT.matcher(text);
        while (m.find()) {
            String s = m.group(1);
            int all = s.length() > 1 ? Integer.parseInt(s.substring(1)) : 0;
            int one = all / 10;
            int two = all % 10;
            int answer = switch (s.charAt(0)) {
                case 's' -> doStreet(t, all / 100, one % 10, two);
                case 'w' -> doWay(t, all);
                case 'l' -> doLearner(t, all);
                case 'k' -> doKnow(t, one, two);
                case 'h' -> doSet(t, 0, all);
                case 't' -> doTest(t, one, two);
                case 'm' -> doSet(t, 1, all);
                default -> doDay(t);
            };
            if (answer < 0) {
                return -2000 - m.start();
            }
            statements++;
        }
        now = t;
        past.clear();
        return statements;
    }

    public int streetOf(int street, int what) {
        if (noStreet(street)) {
            return no(-1);
        }
        if (what < 0 || what > 4) {
            return no(-2);
        }
        Street s = now.streets.get(street);
        return List.of(s.kind, s.figure, s.minutes, s.hard(now.hour), s.ballFaults()).get(what);
    }

    public int learnerOf(int learner, int what) {
        if (noLearner(learner)) {
            return no(-1);
        }
        if (what < 0 || what > 1) {
            return no(-2);
        }
        Learner l = now.learners.get(learner);
        return what == 0 ? l.skill : bits(l.known);
    }

    private int grown(int answer) {
        if (answer < 0) {
            return no(answer);
        }
        past.clear();
        return answer;
    }

    public int street(int kind, int figure, int minutes) {
        return grown(doStreet(now, kind, figure, minutes));
    }

    public int way(int streets) {
        return grown(doWay(now, streets));
    }

    public int learner(int skill) {
        return grown(doLearner(now, skill));
    }

    private int changed(Town before, int answer) {
        if (answer < 0) {
            return no(answer);
        }
        past.addLast(before);
        while (past.size() > 8) {
            past.removeFirst();
        }
        return answer;
    }

    public int tests(int learner, int way) {
        return changed(now.copy(), doTest(now, learner, way));
    }

    public int knows(int learner, int street) {
        return changed(now.copy(), doKnow(now, learner, street));
    }

    public int sets(int what, int v) {
        return changed(now.copy(), doSet(now, what, v));
    }

    public int day() {
        return changed(now.copy(), doDay(now));
    }

    public int back() {
        if (past.isEmpty()) {
            return no(-3);
        }
        now = past.removeLast();
        return past.size();
    }

    public int wayOf(int way, int hour, int what) {
        if (noWay(way) || noHour(hour)) {
            return no(-1);
        }
        TreeSet<Integer> w = now.ways.get(way);
        return switch (what) {
            case 0 -> bits(w);
            case 1 -> minutesOn(w);
            case 2 -> hardOn(w, hour);
            case 3 -> bits(kindsOn(w));
            default -> no(-2);
        };
    }

    public int faults(int learner, int way, int hour, int what) {
        if (noLearner(learner) || noWay(way) || noHour(hour)) {
            return no(-1);
        }
        Learner l = now.learners.get(learner);
        TreeSet<Integer> w = now.ways.get(way);
        return switch (what) {
            case 0 -> faultsOn(l, w, hour);
            case 1 -> passes(l, w, hour) ? 1 : 0;
            case 2 -> {
                List<Integer> streets = new ArrayList<>(w);
                yield streets.get(firstLeast(streets.size(), i -> -faultsIn(l, streets.get(i), hour)));
            }
            default -> no(-2);
        };
    }

    public int bestHour(int learner, int way, int what) {
        if (noLearner(learner) || noWay(way)) {
            return no(-1);
        }
        Learner l = now.learners.get(learner);
        TreeSet<Integer> w = now.ways.get(way);
        return switch (what) {
            case 0 -> firstLeast(24, h -> faultsOn(l, w, h));
            case 1 -> bitsWhere(24, h -> passes(l, w, h));
            default -> no(-2);
        };
    }

    public int easiest(int learner, int hour, int what) {
        if (noLearner(learner) || noHour(hour)) {
            return no(-1);
        }
        Learner l = now.learners.get(learner);
        return switch (what) {
            case 0 -> firstLeast(ways(), w -> faultsOn(l, now.ways.get(w), hour));
            case 1 -> bitsWhere(ways(), w -> passes(l, now.ways.get(w), hour));
            default -> no(-2);
        };
    }

    public int learn(int learner, int way, int hour) {
        if (noLearner(learner) || way != -1 && noWay(way) || noHour(hour)) {
            return no(-1);
        }
        Learner l = now.learners.get(learner);
        List<TreeSet<Integer>> wanted = way == -1 ? now.ways : List.of(now.ways.get(way));
        for (int many = 0; many <= 8; many++) {
            for (int set = 0; set < 1 << now.streets.size(); set++) {
                Learner more = l.knowing(setOf(set));
                if (setOf(set).size() == many && Collections.disjoint(setOf(set), l.known)
                        && wanted.stream().allMatch(w -> passes(more, w, hour))) {
                    return set;
                }
            }
        }
        return -9;
    }

    public long drawnWay(int learner, int hour, int part) {
        if (noLearner(learner) || noHour(hour)) {
            return noLong(-1);
        }
        if (part != 0 && part != 1) {
            return noLong(-2);
        }
        long passed = now.ways.stream().filter(w -> passes(now.learners.get(learner), w, hour)).count();
        return fraction(BigInteger.valueOf(passed), BigInteger.valueOf(ways()), part);
    }

    public int alike(int one, int other) {
        return noWay(one) || noWay(other) || one == other ? no(-1) : shared(one, other).size();
    }

    public int mostAlike() {
        int most = -1;
        int two = -9;
        for (int i = 0; i < ways() * 10; i++) {
            if (i / 10 < i % 10 && i % 10 < ways() && shared(i / 10, i % 10).size() > most) {
                most = shared(i / 10, i % 10).size();
                two = i;
            }
        }
        return two;
    }

    private int apart(Iterable<Integer> set, int hour) {
        int most = 0;
        for (int a : set) {
            for (int b : set) {
                most = Math.max(most, hardOn(now.ways.get(a), hour) - hardOn(now.ways.get(b), hour));
            }
        }
        return most;
    }

    public int fair(int hour, int k) {
        if (noHour(hour)) {
            return no(-1);
        }
        if (k < 0) {
            return no(-4);
        }
        if (k > 6) {
            return no(-6);
        }
        if (k == 0) {
            return apart(setOf((1 << ways()) - 1), hour);
        }
        List<Integer> sets = new ArrayList<>();
        for (int set = 0; set < 1 << ways(); set++) {
            if (setOf(set).size() == k) {
                sets.add(set);
            }
        }
        int best = firstLeast(sets.size(), i -> apart(setOf(sets.get(i)), hour));
        return best < 0 ? -9 : sets.get(best);
    }

    private TreeSet<Integer> followed(int n) {
        TreeSet<Integer> known = new TreeSet<>();
        for (int i = 0; i < n && ways() > 0; i++) {
            known.addAll(now.ways.get(i % ways()));
        }
        return known;
    }

    public int moped(int n, int what) {
        if (n < 0) {
            return no(-4);
        }
        if (n > 60) {
            return no(-6);
        }
        if (what != 0 && what != 1) {
            return no(-2);
        }
        if (what == 0) {
            return bits(followed(n));
        }
        int fewest = 0;
        while (!followed(fewest).equals(followed(60))) {
            fewest++;
        }
        return fewest;
    }

    public int made(int kinds, int m, int v) {
        if (kinds < 0 || m < 1 || v < 0) {
            return no(-4);
        }
        if (kinds > 63 || m > 72 || v > 99) {
            return no(-6);
        }
        List<Integer> sets = new ArrayList<>();
        for (int set = 1; set < 1 << now.streets.size(); set++) {
            if (kindsOn(setOf(set)).containsAll(setOf(kinds)) && minutesOn(setOf(set)) <= m) {
                sets.add(set);
            }
        }
        int best = firstLeast(sets.size(), i -> Math.abs(hardOn(setOf(sets.get(i)), now.hour) - v));
        return best < 0 ? -9 : sets.get(best);
    }

    public int unlike() {
        TreeSet<Integer> all = kindsOn(setOf((1 << now.streets.size()) - 1));
        List<Integer> twos = new ArrayList<>();
        for (int i = 0; i < ways() * 10; i++) {
            if (i / 10 < i % 10 && i % 10 < ways()) {
                TreeSet<Integer> together = new TreeSet<>(now.ways.get(i / 10));
                together.addAll(now.ways.get(i % 10));
                if (kindsOn(together).equals(all)) {
                    twos.add(i);
                }
            }
        }
        int best = firstLeast(twos.size(), i -> shared(twos.get(i) / 10, twos.get(i) % 10).size());
        return best < 0 ? -9 : twos.get(best);
    }

    private boolean so(int way, int hour, int limit) {
        for (int i = 0; i < numbers.size(); i++) {
            boolean passed = passes(now.learners.get(i), now.ways.get(way), hour, limit);
            if (numbers.get(i) == 1 && !passed || numbers.get(i) == 0 && passed) {
                return false;
            }
        }
        return true;
    }

    public int strict(int way, int what) {
        if (noWay(way)) {
            return no(-1);
        }
        if (what < 0 || what > 2) {
            return no(-2);
        }
        if (numbers.size() > now.learners.size() || numbers.stream().anyMatch(v -> v > 2)) {
            return no(-3);
        }
        List<Integer> limits = new ArrayList<>();
        for (int limit = 0; limit <= 99; limit++) {
            if (so(way, now.hour, limit)) {
                limits.add(limit);
            }
        }
        return switch (what) {
            case 0 -> limits.size();
            case 1 -> limits.isEmpty() ? -9 : limits.get(0);
            default -> bitsWhere(24, h -> so(way, h, now.limit));
        };
    }

    /** All orders of 0 .. n - 1, the first in the dictionary's sense first. */
    private static List<List<Integer>> orders(int n) {
        List<List<Integer>> all = new ArrayList<>();
        all.add(List.of());
        for (int place = 0; place < n; place++) {
            List<List<Integer>> longer = new ArrayList<>();
            for (List<Integer> order : all) {
                for (int next = 0; next < n; next++) {
                    if (!order.contains(next)) {
                        List<Integer> more = new ArrayList<>(order);
                        more.add(next);
                        longer.add(more);
                    }
                }
            }
            all = longer;
        }
        return all;
    }

    private int passedInOrder(List<Integer> order, int way) {
        int passed = 0;
        for (int i = 0; i < order.size(); i++) {
            if (passes(now.learners.get(order.get(i)), now.ways.get(way), (now.hour + i) % 24)) {
                passed++;
            }
        }
        return passed;
    }

    public int queue(int way, int i) {
        if (noWay(way)) {
            return no(-1);
        }
        if (i < -1) {
            return no(-4);
        }
        List<List<Integer>> orders = orders(now.learners.size());
        List<Integer> best = orders.get(firstLeast(orders.size(), o -> -passedInOrder(orders.get(o), way)));
        return i == -1 ? passedInOrder(best, way) : i < best.size() ? best.get(i) : -9;
    }

    public int lessons(int learner, int way, int hour) {
        if (noLearner(learner) || noWay(way) || noHour(hour)) {
            return no(-1);
        }
        Learner l = now.learners.get(learner).copy();
        List<Integer> toShow = new ArrayList<>(now.ways.get(way));
        toShow.removeAll(l.known);
        for (int shown = 0; shown <= toShow.size(); shown++) {
            if (passes(l.knowing(toShow.subList(0, shown)), now.ways.get(way), hour)) {
                return shown;
            }
        }
        return -9;
    }

    /** How many of t to the power of the streets still to come pass, with faults so far. */
    private BigInteger passing(Learner l, List<Integer> streets, int i, int t, int faults) {
        if (i == streets.size()) {
            return faults <= now.limit ? BigInteger.ONE : BigInteger.ZERO;
        }
        int f = faultsIn(l, streets.get(i), now.hour);
        int g = f + now.streets.get(streets.get(i)).ballFaults();
        BigInteger all = BigInteger.ZERO;
        if (f <= 5) {
            all = all.add(passing(l, streets, i + 1, t, faults + f).multiply(BigInteger.valueOf(t - 1)));
        }
        if (g <= 5) {
            all = all.add(passing(l, streets, i + 1, t, faults + g));
        }
        return all;
    }

    public long ball(int learner, int way, int t, int part) {
        if (noLearner(learner) || noWay(way)) {
            return noLong(-1);
        }
        if (t < 2) {
            return noLong(-4);
        }
        if (t > 20) {
            return noLong(-6);
        }
        if (part != 0 && part != 1) {
            return noLong(-2);
        }
        List<Integer> streets = new ArrayList<>(now.ways.get(way));
        BigInteger above = passing(now.learners.get(learner), streets, 0, t, 0);
        return fraction(above, BigInteger.valueOf(t).pow(streets.size()), part);
    }

    public int crowded(int what) {
        int best = firstLeast(now.streets.size(), s -> -now.ways.stream().filter(w -> w.contains(s)).count());
        return switch (what) {
            case 0 -> best;
            case 1 -> (int) now.ways.stream().filter(w -> w.contains(best)).count();
            case 2 -> bitsWhere(now.streets.size(), s -> now.ways.stream().noneMatch(w -> w.contains(s)));
            default -> no(-2);
        };
    }

    public int rank(int way, int i) {
        if (noWay(way)) {
            return no(-1);
        }
        if (i < 0) {
            return no(-4);
        }
        List<Integer> order = new ArrayList<>(setOf((1 << now.learners.size()) - 1));
        order.sort((a, b) -> faultsOn(now.learners.get(a), now.ways.get(way), now.hour)
                - faultsOn(now.learners.get(b), now.ways.get(way), now.hour));
        return i < order.size() ? order.get(i) : -9;
    }

    public int skillWanted(int learner, int way, int hour) {
        if (noLearner(learner) || noWay(way) || noHour(hour)) {
            return no(-1);
        }
        for (int skill = 0; skill <= 9; skill++) {
            if (passes(new Learner(skill, now.learners.get(learner).known), now.ways.get(way), hour)) {
                return skill;
            }
        }
        return -9;
    }

    public int limitWanted() {
        for (int limit = 0; limit <= 99; limit++) {
            int tried = limit;
            if (now.learners.stream().allMatch(l -> now.ways.stream().allMatch(w -> passes(l, w, now.hour, tried)))) {
                return limit;
            }
        }
        return -9;
    }

    private int passers(int way, int hour) {
        return (int) now.learners.stream().filter(l -> passes(l, now.ways.get(way), hour)).count();
    }

    public int rush(int way, int what) {
        if (noWay(way)) {
            return no(-1);
        }
        if (what != 0 && what != 1) {
            return no(-2);
        }
        int best = firstLeast(24, h -> -passers(way, h));
        return what == 0 ? best : passers(way, best);
    }

    public int newcomer(int skill) {
        if (skill < 0) {
            return no(-4);
        }
        if (skill > 9) {
            return no(-6);
        }
        Learner l = new Learner(skill, new TreeSet<>());
        return bitsWhere(ways(), w -> passes(l, now.ways.get(w), now.hour));
    }

    private int gained(Learner l, int street) {
        if (l.known.contains(street)) {
            return 0;
        }
        Learner more = l.knowing(List.of(street));
        int gain = 0;
        for (TreeSet<Integer> way : now.ways) {
            for (int hour = 0; hour < 24; hour++) {
                if (passes(more, way, hour) && !passes(l, way, hour)) {
                    gain++;
                }
            }
        }
        return gain;
    }

    public int gain(int learner, int street) {
        if (noLearner(learner) || street != -1 && noStreet(street)) {
            return no(-1);
        }
        Learner l = now.learners.get(learner);
        if (street >= 0) {
            return gained(l, street);
        }
        List<Integer> unknown = new ArrayList<>(setOf((1 << now.streets.size()) - 1));
        unknown.removeAll(l.known);
        int best = firstLeast(unknown.size(), i -> -gained(l, unknown.get(i)));
        return best < 0 ? -9 : unknown.get(best);
    }

    public int career(int learner, int n) {
        if (noLearner(learner)) {
            return no(-1);
        }
        if (n < 0) {
            return no(-4);
        }
        if (n > 60) {
            return no(-6);
        }
        Town t = now.copy();
        int passed = 0;
        for (int i = 0; i < n && ways() > 0; i++) {
            passed += doTest(t, learner, i % ways());
        }
        return passed;
    }

    public int toughest(int way) {
        return noWay(way) ? no(-1) : firstLeast(24, h -> -hardOn(now.ways.get(way), h));
    }

    public int equal() {
        int twos = 0;
        for (Learner a : now.learners) {
            for (Learner b : now.learners) {
                if (a != b && now.ways.stream().allMatch(w -> passes(a, w, now.hour) == passes(b, w, now.hour))) {
                    twos++;
                }
            }
        }
        return twos / 2;
    }

    public int longest(int what) {
        if (what != 0 && what != 1) {
            return no(-2);
        }
        int best = firstLeast(ways(), w -> -minutesOn(now.ways.get(w)));
        return what == 0 || best < 0 ? best : minutesOn(now.ways.get(best));
    }

    public int row(int v) {
        if (v < 0) {
            return no(-4);
        }
        if (v > 99 || numbers.size() == 12) {
            return no(-6);
        }
        numbers.add(v);
        return numbers.size();
    }

    public int judge(int learner) {
        if (noLearner(learner)) {
            return no(-1);
        }
        int answer = -9;
        for (int i = numbers.size() - 1; i >= 0; i--) {
            if (noStreet(i) || faultsIn(now.learners.get(learner), i, now.hour) != numbers.get(i)) {
                answer = i;
            }
        }
        numbers.clear();
        return answer;
    }

    public int clear() {
        int had = numbers.size();
        numbers.clear();
        return had;
    }

    private int z;

    private int draw(int below) {
        z = (int) (z * 1103515245L + 12345L);
        return (z & Integer.MAX_VALUE) / 65536 % below;
    }

    public int lots(int n, int seed, int what) {
        if (n < 1) {
            return no(-4);
        }
        if (n > 20) {
            return no(-6);
        }
        if (what != 0 && what != 1) {
            return no(-2);
        }
        z = seed;
        int passed = 0;
        int faults = 0;
        for (int day = 0; day < n && ways() > 0; day++) {
            for (Learner l : now.learners) {
                int hour = draw(24);
                TreeSet<Integer> way = now.ways.get(draw(ways()));
                passed += passes(l, way, hour) ? 1 : 0;
                faults += faultsOn(l, way, hour);
            }
        }
        return what == 0 ? passed : faults;
    }

    public int image() {
        kept = now.copy();
        return kept.day;
    }

    public int restore() {
        if (kept == null) {
            return no(-3);
        }
        now = kept.copy();
        past.clear();
        return now.day;
    }

    public int count(int what) {
        return switch (what) {
            case 0 -> now.streets.size();
            case 1 -> ways();
            case 2 -> now.learners.size();
            case 3 -> now.hour;
            case 4 -> now.limit;
            case 5 -> now.day;
            case 6 -> now.learners.stream().mapToInt(l -> l.known.size()).sum();
            case 7 -> letters.length();
            case 8 -> numbers.size();
            case 9 -> past.size();
            case 11, 12, 13, 14, 15, 16 -> refusals[what - 10];
            default -> -9;
        };
    }
}

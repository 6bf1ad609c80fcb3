import java.math.BigInteger;
import java.util.ArrayDeque;
import java.util.ArrayList;
import java.util.Deque;
import java.util.HashSet;
import java.util.List;
import java.util.Set;
import java.util.TreeMap;
import java.util.function.Consumer;
import java.util.function.Predicate;
import java.util.function.ToIntFunction;
import java.util.regex.Matcher;
import java.util.regex.Pattern;

/**
 * The document once more, written apart from the class and with the whole Java library:
 * worlds are copied for every hour, ways are tried by recursion, odds are BigIntegers.
 */
final class PlainModel {
    static final class Bag {
        String kind;
        int figure;
        int habit;
        int friend = -9;
        int held;

        Bag copy() {
            Bag b = new Bag();
            b.kind = kind;
            b.figure = figure;
            b.habit = habit;
            b.friend = friend;
            b.held = held;
            return b;
        }
    }

    static final class Lady {
        int will;
        int want;
        int at;
        int bag = -9;
        int breath = 9;
        boolean led;
        boolean rested;

        Lady copy() {
            Lady l = new Lady();
            l.will = will;
            l.want = want;
            l.at = at;
            l.bag = bag;
            l.breath = breath;
            return l;
        }
    }

    static final List<String> KINDS = List.of("bag", "widow", "crocodile", "frame", "pair", "old");

    static final class World {
        List<Bag> bags = new ArrayList<>();
        List<Lady> ladies = new ArrayList<>();
        int colonel;
        int hour;
        int snaps;

        World copy() {
            World w = new World();
            bags.forEach(b -> w.bags.add(b.copy()));
            ladies.forEach(l -> w.ladies.add(l.copy()));
            w.colonel = colonel;
            w.hour = hour;
            return w;
        }

        World with(Consumer<World> change) {
            World w = copy();
            change.accept(w);
            return w;
        }

        int keeper(int bag) {
            for (int l = 0; l < ladies.size(); l++) {
                if (ladies.get(l).bag == bag) {
                    return l;
                }
            }
            return -9;
        }

        boolean friendHad(int bag) {
            int f = bags.get(bag).friend;
            return f != -9 && keeper(f) != -9;
        }

        int pull(int bag) {
            Bag b = bags.get(bag);
            return switch (b.kind) {
                case "widow" -> b.figure + b.held;
                case "old" -> 2 * (b.figure + b.held);
                case "crocodile" -> b.figure + 4;
                case "frame" -> b.figure / 2;
                case "pair" -> b.figure + (friendHad(bag) ? 2 : 0);
                default -> b.figure;
            };
        }

        int plainPull(int bag) {
            return with(w -> w.bags.forEach(b -> {
                b.held = 0;
                b.friend = -9;
            })).pull(bag);
        }

        int goal(int bag) {
            Bag b = bags.get(bag);
            if (b.kind.equals("crocodile")) {
                return (colonel + 5) % 10;
            }
            if (b.kind.equals("frame") && hour % 2 == 1) {
                return ladies.get(keeper(bag)).want;
            }
            if (b.kind.equals("pair") && friendHad(bag)) {
                return ladies.get(keeper(b.friend)).at;
            }
            return b.habit;
        }

        int pace(int bag) {
            return bags.get(bag).kind.equals("old") ? 2 : 1;
        }

        boolean led(int lady) {
            Lady l = ladies.get(lady);
            return l.bag != -9 && pull(l.bag) > l.will;
        }

        World next(Predicate<Integer> asleep) {
            World w = copy();
            w.hour++;
            for (int k = 0; k < w.ladies.size(); k++) {
                Lady l = w.ladies.get(k);
                if (l.breath == 0) {
                    l.rested = true;
                    l.breath = 3;
                } else if (w.led(k) && !asleep.test(k)) {
                    l.led = true;
                    int goal = w.goal(l.bag);
                    for (int s = 0; s < w.pace(l.bag) && l.at != goal; s++) {
                        l.at = stepped(l.at, goal);
                        l.breath = l.breath > 0 ? l.breath - 1 : 0;
                    }
                } else {
                    l.at = stepped(l.at, l.want);
                    l.breath = l.breath < 9 ? l.breath + 1 : 9;
                }
            }
            for (int b = 0; b < w.bags.size(); b++) {
                if (w.keeper(b) != -9 && w.bags.get(b).held < 99) {
                    w.bags.get(b).held++;
                }
            }
            for (Lady l : w.ladies) {
                if (l.bag != -9 && w.bags.get(l.bag).kind.equals("crocodile") && l.at == w.colonel) {
                    w.snaps++;
                }
            }
            return w;
        }

        /** The worlds behind 0, 1, .. n hours. */
        List<World> future(int n) {
            List<World> all = new ArrayList<>();
            all.add(copy());
            for (int k = 0; k < n; k++) {
                all.add(all.get(k).next(l -> false));
            }
            return all;
        }

        World behind(int n) {
            return future(n).get(n);
        }

        int snapsIn(int n) {
            return future(n).stream().mapToInt(w -> w.snaps).sum();
        }

        int ledIn(int lady, int n) {
            return (int) future(n).stream().filter(w -> w.ladies.get(lady).led).count();
        }

        int ledIn(int n) {
            int sum = 0;
            for (World w : future(n)) {
                for (Lady l : w.ladies) {
                    sum += l.led ? 1 : 0;
                }
            }
            return sum;
        }

        int first(int n, Predicate<World> so) {
            List<World> all = future(n);
            for (int k = 0; k <= n; k++) {
                if (so.test(all.get(k))) {
                    return k;
                }
            }
            return -9;
        }

        int at(int lady) {
            return ladies.get(lady).at;
        }

        void give(int bag, int lady) {
            int who = keeper(bag);
            if (who != -9) {
                ladies.get(who).bag = -9;
            }
            ladies.get(lady).bag = bag;
            bags.get(bag).held = 0;
        }

        void befriend(int one, int other) {
            for (Bag b : bags) {
                if (b.friend == one || b.friend == other) {
                    b.friend = -9;
                }
            }
            bags.get(one).friend = one == other ? -9 : other;
            bags.get(other).friend = one == other ? -9 : one;
        }
    }

    static int stepped(int from, int goal) {
        if (from == goal) {
            return from;
        }
        int up = 0;
        while ((from + up) % 10 != goal) {
            up++;
        }
        return up <= 5 ? (from + 1) % 10 : (from + 9) % 10;
    }

    static int apart(int v, int w) {
        int d = Math.abs(v - w);
        return d > 5 ? 10 - d : d;
    }

    World now = new World();
    World picture;
    Deque<World> past = new ArrayDeque<>();
    StringBuilder letters = new StringBuilder();
    List<Integer> row = new ArrayList<>();
    int[] refused = new int[7];

    int no(int number) {
        refused[-number]++;
        return number;
    }

    boolean bagThere(int b) {
        return b >= 0 && b < now.bags.size();
    }

    boolean ladyThere(int l) {
        return l >= 0 && l < now.ladies.size();
    }

    boolean placeThere(int v) {
        return v >= 0 && v <= 9;
    }

    boolean two(int i, int j) {
        return ladyThere(i) && ladyThere(j) && i != j;
    }

    /** Refusals -4, -6 of hours; 0 none. */
    int hoursNo(int n) {
        return n < 0 ? -4 : n > 60 ? -6 : 0;
    }

    int hoursNo(int n, int what, int most) {
        return hoursNo(n) != 0 ? hoursNo(n) : what < 0 || what > most ? -2 : 0;
    }

    int feed(int letter) {
        if (letter < 0) {
            return no(-4);
        }
        if (letter > 255 || letters.length() == 96) {
            return no(-6);
        }
        letters.append((char) letter);
        return letters.length();
    }

    static final Pattern STATEMENT = Pattern.compile("[bl][0-9]{3};|[gfh][0-9]{2};|c[0-9];");
    static final Pattern BEQUEST = Pattern.compile("(?:" + STATEMENT.pattern() + ")+");

    int bequest() {
        String text = letters.toString();
        letters.setLength(0);
        for (int k = 1; k <= text.length(); k++) {
            Matcher m = BEQUEST.matcher(text.substring(0, k));
            if (!m.matches() && !m.hitEnd()) {
                return -1000 - (k - 1);
            }
        }
        if (!BEQUEST.matcher(text).matches()) {
            return -1000 - text.length();
        }
        World w = now.copy();
        int n = 0;
        Matcher m = STATEMENT.matcher(text);
        while (m.find()) {
            w = said(w, m.group());
            if (w == null) {
                return -2000 - m.start();
            }
            n++;
        }
        now = w;
        past.clear();
        return n;
    }

    static World said(World w, String s) {
        int a = s.charAt(1) - '0';
        int b = s.length() > 3 ? s.charAt(2) - '0' : 0;
        int c = s.length() > 4 ? s.charAt(3) - '0' : 0;
        int bags = w.bags.size();
        int ladies = w.ladies.size();
        switch (s.charAt(0)) {
            case 'b':
                if (a > 5 || bags == 6) {
                    return null;
                }
                w.bags.add(newBag(a, b, c));
                return w;
            case 'l':
                if (ladies == 5) {
                    return null;
                }
                w.ladies.add(newLady(a, b, c));
                return w;
            case 'g':
                if (a >= bags || b >= ladies) {
                    return null;
                }
                w.give(a, b);
                return w;
            case 'f':
                if (a >= bags || b >= bags) {
                    return null;
                }
                w.befriend(a, b);
                return w;
            case 'c':
                w.colonel = a;
                return w;
            default:
                int n = Integer.parseInt(s.substring(1, 3));
                return n < 1 || n > 60 || w.hour + n > 999 ? null : w.behind(n);
        }
    }

    static Bag newBag(int kind, int figure, int habit) {
        Bag b = new Bag();
        b.kind = KINDS.get(kind);
        b.figure = figure;
        b.habit = habit;
        return b;
    }

    static Lady newLady(int will, int want, int at) {
        Lady l = new Lady();
        l.will = will;
        l.want = want;
        l.at = at;
        return l;
    }

    int bagOf(int bag, int what) {
        if (!bagThere(bag)) {
            return no(-1);
        }
        Bag b = now.bags.get(bag);
        return switch (what) {
            case 0 -> KINDS.indexOf(b.kind);
            case 1 -> b.figure;
            case 2 -> b.habit;
            case 3 -> b.friend;
            case 4 -> b.held;
            case 5 -> now.keeper(bag);
            case 6 -> now.pull(bag);
            default -> no(-2);
        };
    }

    int bearerOf(int bearer, int what) {
        if (!ladyThere(bearer)) {
            return no(-1);
        }
        Lady l = now.ladies.get(bearer);
        return switch (what) {
            case 0 -> l.will;
            case 1 -> l.want;
            case 2 -> l.at;
            case 3 -> l.bag;
            case 4 -> l.breath;
            case 5 -> now.led(bearer) ? 1 : 0;
            default -> no(-2);
        };
    }

    int bag(int kind, int figure, int habit) {
        if (kind < 0 || kind > 5) {
            return no(-2);
        }
        if (Math.min(figure, habit) < 0) {
            return no(-4);
        }
        if (Math.max(figure, habit) > 9 || now.bags.size() == 6) {
            return no(-6);
        }
        past.clear();
        now.bags.add(newBag(kind, figure, habit));
        return now.bags.size() - 1;
    }

    int bearer(int will, int want, int at) {
        if (Math.min(will, Math.min(want, at)) < 0) {
            return no(-4);
        }
        if (Math.max(will, Math.max(want, at)) > 9 || now.ladies.size() == 5) {
            return no(-6);
        }
        past.clear();
        now.ladies.add(newLady(will, want, at));
        return now.ladies.size() - 1;
    }

    void keepPast() {
        past.addLast(now.copy());
        if (past.size() > 8) {
            past.removeFirst();
        }
    }

    int gives(int bag, int bearer) {
        if (!bagThere(bag) || !ladyThere(bearer)) {
            return no(-1);
        }
        keepPast();
        int had = now.ladies.get(bearer).bag;
        now.give(bag, bearer);
        return had;
    }

    int friends(int bag, int other) {
        if (!bagThere(bag) || !bagThere(other)) {
            return no(-1);
        }
        past.clear();
        now.befriend(bag, other);
        return bag == other ? 0 : 1;
    }

    int wants(int bearer, int v) {
        if (!ladyThere(bearer) || !placeThere(v)) {
            return no(-1);
        }
        keepPast();
        int was = now.ladies.get(bearer).want;
        now.ladies.get(bearer).want = v;
        return was;
    }

    int put(int bearer, int v) {
        if (!ladyThere(bearer) || !placeThere(v)) {
            return no(-1);
        }
        keepPast();
        int was = now.at(bearer);
        now.ladies.get(bearer).at = v;
        return was;
    }

    int colonel(int v) {
        if (!placeThere(v)) {
            return no(-1);
        }
        keepPast();
        int was = now.colonel;
        now.colonel = v;
        return was;
    }

    int hours(int n) {
        if (n < 1) {
            return no(-4);
        }
        if (n > 60 || now.hour + n > 999) {
            return no(-6);
        }
        past.clear();
        int snaps = now.snapsIn(n);
        now = now.behind(n);
        return snaps;
    }

    int back() {
        if (past.isEmpty()) {
            return no(-3);
        }
        now = past.removeLast();
        return past.size();
    }

    int behind(int bearer, int n, int what) {
        if (!ladyThere(bearer)) {
            return no(-1);
        }
        int wrong = hoursNo(n, what, 3);
        if (wrong != 0) {
            return no(wrong);
        }
        World w = now.behind(n);
        Lady l = w.ladies.get(bearer);
        return switch (what) {
            case 0 -> l.at;
            case 1 -> l.breath;
            case 2 -> now.ledIn(bearer, n);
            default -> l.bag == -9 ? -9 : w.pull(l.bag);
        };
    }

    int meet(int one, int other) {
        return two(one, other) ? now.first(60, w -> w.at(one) == w.at(other)) : no(-1);
    }

    /** How often bearers are at each place in these worlds. */
    static int[] crowd(List<World> worlds) {
        int[] many = new int[10];
        worlds.forEach(w -> w.ladies.forEach(l -> many[l.at]++));
        return many;
    }

    static int most(int[] many) {
        int best = 0;
        for (int k = 0; k < many.length; k++) {
            best = many[k] > many[best] ? k : best;
        }
        return best;
    }

    int company(int n, int what) {
        int wrong = hoursNo(n, what, 1);
        if (wrong != 0) {
            return no(wrong);
        }
        int[] many = crowd(List.of(now.behind(n)));
        return what == 1 ? most(many) : many[most(many)];
    }

    int breathless(int bearer) {
        if (bearer < -1 || bearer >= now.ladies.size()) {
            return no(-1);
        }
        if (bearer >= 0) {
            return now.first(60, w -> w.ladies.get(bearer).breath == 0);
        }
        int when = now.first(60, w -> w.ladies.stream().anyMatch(l -> l.breath == 0));
        if (when == -9) {
            return -9;
        }
        List<Lady> then = now.behind(when).ladies;
        int who = 0;
        while (then.get(who).breath != 0) {
            who++;
        }
        return who;
    }

    int snaps(int n, int what) {
        int wrong = hoursNo(n, what, 2);
        if (wrong != 0) {
            return no(wrong);
        }
        if (what == 0) {
            return now.snapsIn(n);
        }
        return what == 1
                ? least(10, v -> now.with(w -> w.colonel = v).snapsIn(n))
                : least(now.ladies.size(), l -> now.ledIn(l, n));
    }

    /** The first of 0 .. count - 1 for which it is least; -9 without any. */
    static int least(int count, ToIntFunction<Integer> of) {
        int best = -9;
        for (int k = 0; k < count; k++) {
            best = best == -9 || of.applyAsInt(k) < of.applyAsInt(best) ? k : best;
        }
        return best;
    }

    /** Like least, but a never (-9) is no one. */
    static int soonest(int count, ToIntFunction<Integer> when) {
        int best = least(count, k -> when.applyAsInt(k) == -9 ? 1000 : when.applyAsInt(k));
        return best == -9 || when.applyAsInt(best) == -9 ? -9 : best;
    }

    int bestBag(int bearer, int v, int what) {
        if (!ladyThere(bearer) || !placeThere(v)) {
            return no(-1);
        }
        if (what != 0 && what != 1) {
            return no(-2);
        }
        ToIntFunction<Integer> when = b -> now.with(w -> w.give(b, bearer)).first(60, w -> w.at(bearer) == v);
        int best = soonest(now.bags.size(), when);
        return what == 0 || best == -9 ? best : when.applyAsInt(best);
    }

    int hers(int bearer) {
        return ladyThere(bearer) ? now.first(60, w -> w.led(bearer)) : no(-1);
    }

    int errand(int bearer, int v) {
        if (!ladyThere(bearer) || !placeThere(v)) {
            return no(-1);
        }
        return now.with(w -> w.ladies.get(bearer).want = v).first(60, w -> w.at(bearer) == v);
    }

    int defy(int bearer, int v, int n) {
        if (!ladyThere(bearer) || !placeThere(v)) {
            return no(-1);
        }
        if (hoursNo(n) != 0) {
            return no(hoursNo(n));
        }
        for (int will = 0; will <= 9; will++) {
            int its = will;
            World there = now.with(w -> {
                w.ladies.get(bearer).want = v;
                w.ladies.get(bearer).will = its;
            });
            if (there.first(n, w -> w.at(bearer) == v) != -9) {
                return will;
            }
        }
        return -9;
    }

    /** All ways to give bags, in their order. */
    void ways(int[] so, int lady, Set<Integer> taken, List<int[]> all) {
        if (lady == so.length) {
            if (taken.size() == Math.min(now.bags.size(), so.length)) {
                all.add(so.clone());
            }
            return;
        }
        for (int b = 0; b < now.bags.size(); b++) {
            if (taken.add(b)) {
                so[lady] = b;
                ways(so, lady + 1, taken, all);
                taken.remove(b);
            }
        }
        so[lady] = -9;
        ways(so, lady + 1, taken, all);
    }

    List<int[]> ways() {
        List<int[]> all = new ArrayList<>();
        ways(new int[now.ladies.size()], 0, new HashSet<>(), all);
        return all;
    }

    World by(int[] way) {
        return now.with(w -> {
            w.bags.forEach(b -> b.held = 0);
            for (int l = 0; l < way.length; l++) {
                w.ladies.get(l).bag = way[l];
            }
        });
    }

    int given(int one, int other, int i) {
        if (!two(one, other)) {
            return no(-1);
        }
        if (i < -1) {
            return no(-4);
        }
        if (now.ladies.size() > 4) {
            return no(-3);
        }
        int bestWhen = 0;
        int[] best = null;
        for (int[] way : ways()) {
            int when = by(way).first(60, w -> w.at(one) == w.at(other));
            int rank = when == -9 ? 1000 : when;
            if (best == null || rank < bestWhen) {
                bestWhen = rank;
                best = way;
            }
        }
        return i == -1 ? bestWhen == 1000 ? -9 : bestWhen : i < best.length ? best[i] : -9;
    }

    int quiet(int n, int i) {
        if (i < -1 || n < 0) {
            return no(-4);
        }
        if (n > 60) {
            return no(-6);
        }
        if (now.ladies.size() > 4) {
            return no(-3);
        }
        int fewest = 0;
        int[] best = null;
        for (int[] way : ways()) {
            int led = by(way).ledIn(n);
            if (best == null || led < fewest) {
                fewest = led;
                best = way;
            }
        }
        return i == -1 ? fewest : i < best.length ? best[i] : -9;
    }

    int stable(int i) {
        if (!ladyThere(i)) {
            return no(-1);
        }
        int bags = now.bags.size();
        int[] keeps = new int[bags];
        java.util.Arrays.fill(keeps, -9);
        List<Set<Integer>> asked = new ArrayList<>();
        now.ladies.forEach(l -> asked.add(new HashSet<>()));
        Deque<Integer> free = new ArrayDeque<>();
        for (int l = 0; l < now.ladies.size(); l++) {
            free.add(l);
        }
        while (!free.isEmpty()) {
            int l = free.removeFirst();
            if (asked.get(l).size() == bags) {
                continue;
            }
            int b = least(bags, k -> asked.get(l).contains(k) ? 1000 : now.plainPull(k));
            asked.get(l).add(b);
            int other = keeps[b];
            int mine = now.ladies.get(l).will;
            if (other == -9 || mine < now.ladies.get(other).will
                    || mine == now.ladies.get(other).will && l < other) {
                keeps[b] = l;
                if (other != -9) {
                    free.addFirst(other);
                }
            } else {
                free.addFirst(l);
            }
        }
        for (int b = 0; b < bags; b++) {
            if (keeps[b] == i) {
                return b;
            }
        }
        return -9;
    }

    boolean rowIs(World from, int bearer) {
        List<World> all = from.future(12);
        for (int k = 0; k < row.size(); k++) {
            if (all.get(k).at(bearer) != row.get(k)) {
                return false;
            }
        }
        return true;
    }

    int whose(int bearer, int what) {
        if (!ladyThere(bearer)) {
            return no(-1);
        }
        if (what < 0 || what > 3) {
            return no(-2);
        }
        int bag = now.ladies.get(bearer).bag;
        int bits = 0;
        for (int k = 0; k < (what == 0 ? 6 : 10) && bag != -9; k++) {
            World w = now.copy();
            switch (what) {
                case 0 -> w.bags.get(bag).kind = KINDS.get(k);
                case 1 -> w.bags.get(bag).figure = k;
                case 2 -> w.bags.get(bag).habit = k;
                default -> w.ladies.get(bearer).will = k;
            }
            bits += rowIs(w, bearer) ? 1 << k : 0;
        }
        return bits;
    }

    int nextTell(int bearer, int n, int what) {
        if (!ladyThere(bearer)) {
            return no(-1);
        }
        int wrong = hoursNo(n, what, 1);
        if (wrong != 0) {
            return no(wrong);
        }
        int bag = now.ladies.get(bearer).bag;
        int[] many = new int[10];
        for (int v = 0; v < 10; v++) {
            Set<Integer> places = new HashSet<>();
            for (String kind : KINDS) {
                World w = now.copy();
                w.colonel = v;
                if (bag != -9) {
                    w.bags.get(bag).kind = kind;
                }
                places.add(w.behind(n).at(bearer));
            }
            many[v] = places.size();
        }
        return what == 0 ? most(many) : many[most(many)];
    }

    int arm(int one, int other, int n) {
        if (!two(one, other)) {
            return no(-1);
        }
        if (hoursNo(n) != 0) {
            return no(hoursNo(n));
        }
        World w = now.copy();
        Lady a = w.ladies.get(one);
        Lady b = w.ladies.get(other);
        b.at = a.at;
        for (int k = 0; k < n; k++) {
            w.hour++;
            int above = w.led(one) ? w.pull(a.bag) - a.will : 0;
            int otherAbove = w.led(other) ? w.pull(b.bag) - b.will : 0;
            int goal = a.want;
            int pace = 1;
            if (above > 0 || otherAbove > 0) {
                int bag = otherAbove > above ? b.bag : a.bag;
                goal = w.goal(bag);
                pace = w.pace(bag);
            }
            int v = a.at;
            for (int s = 0; s < pace; s++) {
                v = stepped(v, goal);
            }
            a.at = v;
            b.at = v;
        }
        return a.at;
    }

    void walks(World w, int bearer, int n, BigInteger weight, int t, TreeMap<Integer, BigInteger> where) {
        if (n == 0) {
            where.merge(w.at(bearer), weight, BigInteger::add);
            return;
        }
        walks(w.next(l -> l == bearer), bearer, n - 1, weight, t, where);
        walks(w.next(l -> false), bearer, n - 1, weight.multiply(BigInteger.valueOf(t - 1)), t, where);
    }

    long sleep(int bearer, int v, int n, int t, int part) {
        int wrong = !ladyThere(bearer) || !placeThere(v) ? -1
                : n < 0 || t < 2 ? -4
                : n > 8 || t > 20 ? -6
                : part != 0 && part != 1 ? -2 : 0;
        if (wrong != 0) {
            return 4000000000000000000L - no(wrong);
        }
        TreeMap<Integer, BigInteger> where = new TreeMap<>();
        walks(now, bearer, n, BigInteger.ONE, t, where);
        BigInteger above = where.getOrDefault(v, BigInteger.ZERO);
        BigInteger below = BigInteger.valueOf(t).pow(n);
        return (part == 0 ? above : below).divide(above.gcd(below)).longValueExact();
    }

    /** 10 the lesser and the other, of the pair first in order for which it is most; -9 if none is above the floor. */
    int pair(int floor, ToIntFunction<int[]> of) {
        int best = -9;
        int most = floor;
        for (int ij = 0; ij < 100; ij++) {
            int i = ij / 10;
            int j = ij % 10;
            if (i < j && j < now.ladies.size() && of.applyAsInt(new int[] {i, j}) > most) {
                most = of.applyAsInt(new int[] {i, j});
                best = ij;
            }
        }
        return best;
    }

    int swap(int n) {
        if (hoursNo(n) != 0) {
            return no(hoursNo(n));
        }
        return pair(-now.ledIn(n), ij -> -now.with(w -> {
            Lady a = w.ladies.get(ij[0]);
            Lady b = w.ladies.get(ij[1]);
            int bag = a.bag;
            a.bag = b.bag;
            b.bag = bag;
            for (int k : new int[] {a.bag, b.bag}) {
                if (k != -9) {
                    w.bags.get(k).held = 0;
                }
            }
        }).ledIn(n));
    }

    int heir(int what) {
        if (what != 0 && what != 1) {
            return no(-2);
        }
        if (what == 1) {
            return least(now.bags.size(), b -> -now.pull(b));
        }
        int best = least(now.ladies.size(), l -> now.ladies.get(l).bag != -9 ? 1 : -now.ladies.get(l).will);
        return best == -9 || now.ladies.get(best).bag != -9 ? -9 : best;
    }

    int far(int one, int other) {
        return ladyThere(one) && ladyThere(other) ? apart(now.at(one), now.at(other)) : no(-1);
    }

    static int breath(World w) {
        return w.ladies.stream().mapToInt(l -> l.breath).sum();
    }

    int tired(int n) {
        return hoursNo(n) != 0 ? no(hoursNo(n)) : breath(now.behind(n));
    }

    int times(int n, Predicate<World> so) {
        return (int) now.future(n).subList(1, n + 1).stream().filter(so).count();
    }

    int visits(int bearer, int v, int n) {
        if (!ladyThere(bearer) || !placeThere(v)) {
            return no(-1);
        }
        return hoursNo(n) != 0 ? no(hoursNo(n)) : times(n, w -> w.at(bearer) == v);
    }

    int together(int one, int other, int n) {
        if (!two(one, other)) {
            return no(-1);
        }
        return hoursNo(n) != 0 ? no(hoursNo(n)) : times(n, w -> w.at(one) == w.at(other));
    }

    int rests(int bearer, int n) {
        if (!ladyThere(bearer)) {
            return no(-1);
        }
        return hoursNo(n) != 0 ? no(hoursNo(n)) : times(n, w -> w.ladies.get(bearer).rested);
    }

    int firstSnap() {
        return now.first(60, w -> w.snaps > 0);
    }

    int busy(int n, int what) {
        int wrong = hoursNo(n, what, 1);
        if (wrong != 0) {
            return no(wrong);
        }
        int[] many = crowd(now.future(n));
        return what == 0 ? most(many) : many[most(many)];
    }

    int tamed(int bag) {
        if (!bagThere(bag)) {
            return no(-1);
        }
        int best = -9;
        for (int f = 0; f <= 9 && now.keeper(bag) != -9; f++) {
            int figure = f;
            best = now.with(w -> w.bags.get(bag).figure = figure).led(now.keeper(bag)) ? best : f;
        }
        return best;
    }

    int unled(int lady, Set<Integer> taken) {
        if (lady == now.ladies.size()) {
            return 0;
        }
        int best = unled(lady + 1, taken);
        for (int b = 0; b < now.bags.size(); b++) {
            if (now.plainPull(b) <= now.ladies.get(lady).will && taken.add(b)) {
                best = Math.max(best, 1 + unled(lady + 1, taken));
                taken.remove(b);
            }
        }
        return best;
    }

    int unled() {
        return unled(0, new HashSet<>());
    }

    int gathering() {
        return now.first(60, w -> w.ladies.stream().mapToInt(l -> l.at).distinct().count() <= 1);
    }

    int bestHabit(int bag, int v) {
        if (!bagThere(bag) || !placeThere(v)) {
            return no(-1);
        }
        int lady = now.keeper(bag);
        return lady == -9 ? -9
                : soonest(10, h -> now.with(w -> w.bags.get(bag).habit = h).first(60, w -> w.at(lady) == v));
    }

    int farthest(int n, int what) {
        int wrong = hoursNo(n, what, 1);
        if (wrong != 0) {
            return no(wrong);
        }
        World w = now.behind(n);
        int ij = pair(-1, k -> apart(w.at(k[0]), w.at(k[1])));
        return what == 0 || ij == -9 ? ij : apart(w.at(ij / 10), w.at(ij % 10));
    }

    int row(int v) {
        if (v < 0) {
            return no(-4);
        }
        if (v > 99 || row.size() == 12) {
            return no(-6);
        }
        row.add(v);
        return row.size();
    }

    int judge(int bearer) {
        if (!ladyThere(bearer)) {
            return no(-1);
        }
        List<World> all = now.future(12);
        int answer = -9;
        for (int k = row.size() - 1; k >= 0; k--) {
            answer = all.get(k).at(bearer) != row.get(k) ? k : answer;
        }
        row.clear();
        return answer;
    }

    int clear() {
        int had = row.size();
        row.clear();
        return had;
    }

    int lots(int n, int z, int what) {
        if (n < 1) {
            return no(-4);
        }
        if (n > 20) {
            return no(-6);
        }
        if (what != 0 && what != 1) {
            return no(-2);
        }
        BigInteger[] seed = {BigInteger.valueOf(z)};
        int sum = 0;
        for (int k = 0; k < n; k++) {
            World w = now.with(x -> x.ladies.forEach(l -> {
                BigInteger next = seed[0].multiply(BigInteger.valueOf(1103515245)).add(BigInteger.valueOf(12345));
                seed[0] = BigInteger.valueOf(next.intValue());
                BigInteger unsigned = next.mod(BigInteger.ONE.shiftLeft(31));
                l.want = unsigned.divide(BigInteger.valueOf(65536)).mod(BigInteger.TEN).intValue();
            }));
            sum += what == 0 ? w.ledIn(24) : w.snapsIn(24);
        }
        return sum;
    }

    int image() {
        picture = now.copy();
        return now.hour;
    }

    int restore() {
        if (picture == null) {
            return no(-3);
        }
        now = picture.copy();
        past.clear();
        return now.hour;
    }

    int count(int what) {
        return switch (what) {
            case 0 -> now.bags.size();
            case 1 -> now.ladies.size();
            case 2 -> now.hour;
            case 3 -> now.colonel;
            case 4 -> (int) now.ladies.stream().filter(l -> l.bag != -9).count();
            case 5 -> breath(now);
            case 6 -> {
                int led = 0;
                for (int l = 0; l < now.ladies.size(); l++) {
                    led += now.led(l) ? 1 : 0;
                }
                yield led;
            }
            case 7 -> letters.length();
            case 8 -> row.size();
            case 9 -> past.size();
            case 11, 12, 13, 14, 15, 16 -> refused[what - 10];
            default -> -9;
        };
    }
}

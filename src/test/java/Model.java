import java.math.BigInteger;
import java.util.ArrayList;
import java.util.List;

/**
 * The document once more, written as differently from OneMoves as could be: minute by minute, every
 * row of numbers tried as an order, real arrays and casts for the host. It may use all of Java.
 */
final class Model {
    static final int BAD = -1, FULL = -2, NONE = -3, STATE = -4;

    static final class Job {
        int kind, mover, thing, to, due, worth, behind = -1, within, state, end, got;

        Job copy() {
            Job j = new Job();
            j.kind = kind; j.mover = mover; j.thing = thing; j.to = to; j.due = due; j.worth = worth;
            j.behind = behind; j.within = within; j.state = state; j.end = end; j.got = got;
            return j;
        }
    }

    static final class World {
        List<int[]> movers = new ArrayList<>();
        List<int[]> things = new ArrayList<>();
        List<Job> jobs = new ArrayList<>();
        List<Rule> rules = new ArrayList<>();
        int[] laws = {0, 1, 5, 3};
        int minute;

        World copy() {
            World w = new World();
            for (int[] m : movers) w.movers.add(m.clone());
            for (int[] t : things) w.things.add(t.clone());
            for (Job j : jobs) w.jobs.add(j.copy());
            w.rules.addAll(rules);
            w.laws = laws.clone();
            w.minute = minute;
            return w;
        }

        void spend(int n) {
            while (n > 0) {
                if (minute % 10 >= laws[0]) n--;
                minute++;
            }
        }

        boolean open(int k) { return k >= 0 && k < jobs.size() && jobs.get(k).state == 0; }

        boolean free(int k) { return open(k) && !open(jobs.get(k).behind); }

        int minutes(int k) {
            Job j = jobs.get(k);
            int[] m = movers.get(j.mover), t = things.get(j.thing);
            int far = Math.abs(t[0] - j.to);
            int carry = (int) Math.ceil(far * t[1] / (double) m[1] - 1e-9);
            int plain = Math.abs(m[0] - t[0]) + carry;
            int[] helper = movers.get((j.mover + 1) % movers.size());
            int heavy = plain + Math.abs(helper[0] - t[0]);
            int cart = plain;
            for (int[] other : things) if (other != t && other[0] == t[0]) cart++;
            return new int[] {plain, heavy, cart, heavy * 2, cart / 2 + cart % 2, far * t[1]}[j.kind];
        }

        int gain(Job j) {
            int g = j.worth;
            for (int m = j.due; m < j.end; m++) g--;
            return g < 0 ? 0 : g;
        }

        int carryOut(int k) {
            Job j = jobs.get(k);
            if (j.behind >= 0) {
                Job b = jobs.get(j.behind);
                if (b.state == 2 || j.within != 0 && minute - b.end > j.within) {
                    j.state = 2;
                    return 0;
                }
            }
            spend(minutes(k));
            int[] m = movers.get(j.mover), t = things.get(j.thing);
            int was = t[0];
            if (j.kind == 2 || j.kind == 4) for (int[] other : things) if (other[0] == was) other[0] = j.to;
            t[0] = j.to;
            if (j.kind != 5) m[0] = j.to;
            if (j.kind == 1 || j.kind == 3) movers.get((j.mover + 1) % movers.size())[0] = j.to;
            j.state = 1;
            j.end = minute;
            j.got = gain(j);
            return j.got;
        }

        List<Integer> openOnes() {
            List<Integer> l = new ArrayList<>();
            for (int k = 0; k < jobs.size(); k++) if (open(k)) l.add(k);
            return l;
        }

        List<Integer> freeOnes() {
            List<Integer> l = new ArrayList<>();
            for (int k = 0; k < jobs.size(); k++) if (free(k)) l.add(k);
            return l;
        }

        int late(List<Integer> order) {
            int n = 0;
            for (int k : order) if (jobs.get(k).state == 2 || jobs.get(k).end > jobs.get(k).due) n++;
            return n;
        }
    }

    // the kinds of rules, as a host would write them
    static class Rule {
        int n, a, kind;
        List<Integer> trace = new ArrayList<>();
        int moves(int x) { trace.add(10); return x + n; }
        int calls(int x) { trace.add(11); return moves(x) * 2; }
        int shares(int x) { trace.add(12); return x / (a - n); }
        int tells(int x) { trace.add(13); return calls(x) ^ a; }
    }
    static class Turn extends Rule {
        int calls(int x) { trace.add(20); return super.calls(x) - a; }
    }
    static class Soon extends Rule {
        int moves(int x) { trace.add(30); return super.moves(x) * 3; }
        int tells(int x) { trace.add(31); return super.tells(x) + shares(n); }
    }
    static class Worthy extends Soon {
        int moves(int x) { trace.add(40); return 0 - super.moves(x); }
        int calls(int x) { trace.add(41); return super.calls(x) + moves(n); }
    }
    static class Kind extends Turn {
        int shares(int x) { trace.add(50); return super.shares(x + 2) ^ 1; }
        int moves(int x) { trace.add(51); return super.moves(x) - n; }
    }
    static class Told extends Rule {
        int tells(int x) { trace.add(60); return super.tells(x) * 2; }
        int shares(int x) { trace.add(61); return super.shares(x) + moves(a); }
    }
    static final Class<?>[] KINDS = {Rule.class, Turn.class, Soon.class, Worthy.class, Kind.class, Told.class};
    static final Class<?>[] SORTS = {byte[].class, short[].class, int[].class, long[].class};

    World w = new World();
    World kept = null;
    StringBuilder tape = new StringBuilder();
    List<int[]> rows = new ArrayList<>();
    Object[] sheets = new Object[4];
    Object[] shelves = new Object[4];
    List<Integer> trace = new ArrayList<>();

    static boolean in(int v, int from, int to) { return v >= from && v <= to; }

    int feed(long eight, int n) {
        if (!in(n, 1, 8)) return BAD;
        if (tape.length() + n > 240) return FULL;
        for (int i = 0; i < n; i++) tape.append((char) (eight >>> 8 * i & 255));
        return tape.length();
    }

    static final class Fault extends Exception {
        final int place;
        Fault(int place) { this.place = place; }
    }

    String[] words;
    int[] starts;
    int next;

    int town() {
        String text = tape.toString();
        tape.setLength(0);
        List<String> l = new ArrayList<>();
        List<Integer> p = new ArrayList<>();
        java.util.regex.Matcher m = java.util.regex.Pattern.compile("[a-z]+|[0-9]+|[^ ]", java.util.regex.Pattern.DOTALL).matcher(text);
        while (m.find()) { l.add(m.group()); p.add(m.start()); }
        l.add("END");
        p.add(text.length());
        words = l.toArray(new String[0]);
        starts = p.stream().mapToInt(i -> i).toArray();
        next = 0;
        World told = new World();
        told.laws = w.laws.clone();
        told.rules = w.rules;
        try {
            while (next < words.length - 1) sentence(told);
        } catch (Fault f) {
            return -100 - f.place;
        }
        w = told;
        rows.clear();
        return w.jobs.size();
    }

    void sentence(World t) throws Fault {
        int kind = List.of("work", "heavy", "cart", "slow", "quick", "own").indexOf(words[next]);
        if (kind >= 0) {
            if (t.jobs.size() == 6) throw new Fault(starts[next]);
            next++;
            Job j = new Job();
            j.kind = kind;
            j.mover = number(0, t.movers.size() - 1);
            j.thing = number(0, t.things.size() - 1);
            word("to");
            j.to = number(0, 9);
            word("by");
            j.due = number(0, 999);
            word("for");
            j.worth = number(0, 99);
            if (words[next].equals("behind")) {
                next++;
                j.behind = number(0, t.jobs.size() - 1);
                if (words[next].equals("within")) {
                    next++;
                    j.within = number(1, 99);
                }
            }
            t.jobs.add(j);
        } else {
            String name = words[next];
            boolean many = name.equals("mover") && t.movers.size() == 3 || name.equals("thing") && t.things.size() == 6;
            if (many) throw new Fault(starts[next]);
            next++;
            switch (name) {
                case "mover" -> t.movers.add(new int[] {number(0, 9), number(1, 5)});
                case "thing" -> t.things.add(new int[] {number(0, 9), number(1, 9)});
                case "water" -> t.laws[0] = number(0, 9);
                case "call" -> { t.laws[1] = number(0, 8); t.laws[2] = number(1, 30); }
                case "bell" -> t.laws[3] = number(1, 20);
                default -> throw new Fault(starts[next - 1]);
            }
        }
        word(";");
    }

    void word(String s) throws Fault {
        if (!words[next].equals(s)) throw new Fault(starts[next]);
        next++;
    }

    int number(int from, int to) throws Fault {
        if (!words[next].matches("[0-9]{1,3}")) throw new Fault(starts[next]);
        int v = Integer.parseInt(words[next]);
        if (!in(v, from, to)) throw new Fault(starts[next]);
        next++;
        return v;
    }

    int mover(int place, int pace) {
        if (!in(place, 0, 9) || !in(pace, 1, 5)) return BAD;
        if (w.movers.size() == 3) return FULL;
        w.movers.add(new int[] {place, pace});
        return w.movers.size() - 1;
    }

    int thing(int place, int weight) {
        if (!in(place, 0, 9) || !in(weight, 1, 9)) return BAD;
        if (w.things.size() == 6) return FULL;
        w.things.add(new int[] {place, weight});
        return w.things.size() - 1;
    }

    int work(int kind, int mover, int thing, int to, int due, int worth) {
        if (!in(kind, 0, 5) || !in(mover, 0, w.movers.size() - 1) || !in(thing, 0, w.things.size() - 1)) return BAD;
        if (!in(to, 0, 9) || !in(due, 0, 999) || !in(worth, 0, 99)) return BAD;
        if (w.jobs.size() == 6) return FULL;
        Job j = new Job();
        j.kind = kind; j.mover = mover; j.thing = thing; j.to = to; j.due = due; j.worth = worth;
        w.jobs.add(j);
        return w.jobs.size() - 1;
    }

    boolean job(int k) { return in(k, 0, w.jobs.size() - 1); }

    int behind(int work, int other, int within) {
        if (!job(work) || other < -1 || other >= work || !in(within, 0, 99)) return BAD;
        Job j = w.jobs.get(work);
        if (j.state != 0) return STATE;
        int was = j.behind == -1 ? -9 : j.behind;
        j.behind = other;
        j.within = within;
        return was;
    }

    int workOf(int work, int what) {
        if (!job(work) || !in(what, 0, 9)) return BAD;
        Job j = w.jobs.get(work);
        return new int[] {j.kind, j.mover, j.thing, j.to, j.due, j.worth, j.behind < 0 ? -9 : j.behind, j.within,
            j.state, j.state == 1 ? j.end : -9}[what];
    }

    List<int[]> sort(int what) { return what == 0 ? w.movers : what == 1 ? w.things : List.of(); }

    int at(int what, int k) { return in(k, 0, sort(what).size() - 1) ? sort(what).get(k)[0] : BAD; }

    int put(int what, int k, int place) {
        int was = at(what, k);
        if (was < 0 || !in(place, 0, 9)) return BAD;
        sort(what).get(k)[0] = place;
        return was;
    }

    int set(int law, int v) {
        if (!in(law, 0, 3)) return BAD;
        int[][] range = {{0, 9}, {0, 8}, {1, 30}, {1, 20}};
        if (!in(v, range[law][0], range[law][1])) return BAD;
        int was = w.laws[law];
        w.laws[law] = v;
        return was;
    }

    int minute() { return w.minute; }

    int pass(int n) { return in(n, 0, 999) ? w.minute += n : BAD; }

    int minutes(int work) { return job(work) ? w.minutes(work) : BAD; }

    int may() {
        int set = 0;
        for (int k : w.freeOnes()) set += 1 << k;
        return set;
    }

    int does(int work) {
        if (!job(work)) return BAD;
        return w.free(work) ? w.carryOut(work) : STATE;
    }

    int had() {
        int sum = 0;
        for (Job j : w.jobs) sum += j.got;
        return sum;
    }

    /** Every row of numbers of open works, each once, by numbers. */
    static void rowsOf(List<Integer> left, List<Integer> ahead, List<List<Integer>> all) {
        if (left.isEmpty()) { all.add(new ArrayList<>(ahead)); return; }
        for (Integer k : left) {
            List<Integer> rest = new ArrayList<>(left);
            rest.remove(k);
            ahead.add(k);
            rowsOf(rest, ahead, all);
            ahead.remove(ahead.size() - 1);
        }
    }

    boolean allowed(List<Integer> order) {
        for (int i = 0; i < order.size(); i++) {
            int b = w.jobs.get(order.get(i)).behind;
            if (b >= 0 && w.open(b) && order.indexOf(b) > i) return false;
        }
        return true;
    }

    List<List<Integer>> allowedOnes() {
        List<List<Integer>> all = new ArrayList<>();
        rowsOf(w.openOnes(), new ArrayList<>(), all);
        all.removeIf(o -> !allowed(o));
        return all;
    }

    static int digits(List<Integer> order) {
        int d = 0;
        for (int i = order.size() - 1; i >= 0; i--) d = d * 8 + order.get(i);
        return d;
    }

    /** The order that digits tell, or null. */
    List<Integer> orderTold(int digits) {
        List<List<Integer>> all = new ArrayList<>();
        rowsOf(w.openOnes(), new ArrayList<>(), all);
        for (List<Integer> o : all) if (digits(o) == digits) return o;
        return null;
    }

    int[] tryOut(World t, List<Integer> order) {
        int sum = 0;
        for (int k : order) sum += t.carryOut(k);
        return new int[] {sum, t.late(order), t.minute};
    }

    int worth(int digits) {
        List<Integer> o = orderTold(digits);
        if (o == null) return BAD;
        return allowed(o) ? tryOut(w.copy(), o)[0] : STATE;
    }

    int ends(int digits, int work) {
        List<Integer> o = orderTold(digits);
        if (o == null || !w.open(work)) return BAD;
        if (!allowed(o)) return STATE;
        World t = w.copy();
        tryOut(t, o);
        return t.jobs.get(work).state == 1 ? t.jobs.get(work).end : -9;
    }

    List<Integer> bestOrder() {
        List<Integer> best = null;
        int most = -1;
        for (List<Integer> o : allowedOnes()) {
            int v = tryOut(w.copy(), o)[0];
            if (v > most) { most = v; best = o; }
        }
        return best;
    }

    int best(int what) {
        if (!in(what, 0, 1)) return BAD;
        return what == 0 ? worth(digits(bestOrder())) : digits(bestOrder());
    }

    int fewest() { return allowedOnes().stream().mapToInt(o -> tryOut(w.copy(), o)[1]).min().getAsInt(); }

    int shortest() { return allowedOnes().stream().mapToInt(o -> tryOut(w.copy(), o)[2]).min().getAsInt(); }

    /** The sum over what may come, in parts of 8 by itself as often as there are works. */
    long spread(World t, List<Integer> order, int i, int sum, boolean odds) {
        if (i == order.size()) return odds ? (t.late(order) == 0 ? 1 : 0) : sum;
        World called = t.copy(), not = t.copy();
        called.spend(w.laws[2]);
        int a = called.carryOut(order.get(i)), b = not.carryOut(order.get(i));
        return w.laws[1] * spread(called, order, i + 1, sum + a, odds)
            + (8 - w.laws[1]) * spread(not, order, i + 1, sum + b, odds);
    }

    long fraction(int digits, int part, boolean odds) {
        List<Integer> o = orderTold(digits);
        if (o == null || !in(part, 0, 1)) return BAD;
        if (!allowed(o)) return STATE;
        BigInteger above = BigInteger.valueOf(spread(w, o, 0, 0, odds));
        BigInteger below = BigInteger.valueOf(8).pow(o.size());
        BigInteger common = above.gcd(below);
        return (part == 0 ? above : below).divide(common).longValueExact();
    }

    int bell(int work) {
        if (!w.open(work)) return BAD;
        List<Integer> all = w.openOnes();
        int[] left = new int[6];
        for (int k : all) left[k] = w.minutes(k);
        World t = w.copy();
        List<Integer> ended = new ArrayList<>();
        while (true) {
            for (int k : all) {
                int b = w.jobs.get(k).behind;
                boolean waits = b >= 0 && all.contains(b) && !ended.contains(b);
                if (ended.contains(k) || waits) continue;
                for (int i = 0; i < w.laws[3] && left[k] > 0; i++) { t.spend(1); left[k]--; }
                if (left[k] == 0) {
                    ended.add(k);
                    if (k == work) return t.minute;
                }
            }
        }
    }

    int rule(int kind, int a) {
        if (!in(kind, 1, 5) || !in(a, 0, 9)) return BAD;
        if (w.rules.size() == 4) return FULL;
        Rule r = kind == 1 ? new Turn() : kind == 2 ? new Soon() : kind == 3 ? new Worthy() : kind == 4 ? new Kind() : new Told();
        r.kind = kind;
        r.a = a;
        r.n = w.rules.size();
        w.rules = new ArrayList<>(w.rules);
        w.rules.add(r);
        return r.n;
    }

    boolean hasRule(int k) { return in(k, 0, w.rules.size() - 1); }

    int ruleOf(int rule, int what) {
        if (!hasRule(rule) || !in(what, 0, 1)) return BAD;
        return what == 0 ? w.rules.get(rule).kind : w.rules.get(rule).a;
    }

    int choose(World t, Rule r) {
        List<Integer> l = t.freeOnes();
        if (l.isEmpty()) return NONE;
        if (r.kind == 5) return l.get(r.a % l.size());
        if (r.kind == 4) {
            int top = l.stream().mapToInt(k -> t.jobs.get(k).kind).max().getAsInt();
            l.removeIf(k -> t.jobs.get(k).kind != top);
        }
        if (r.kind == 1 || r.kind == 4) {
            int k = r.a % t.jobs.size();
            while (!l.contains(k)) k = k == t.jobs.size() - 1 ? 0 : k + 1;
            return k;
        }
        int chosen = l.get(0);
        for (int k : l) {
            if (r.kind == 2 && t.minutes(k) < t.minutes(chosen)) chosen = k;
            if (r.kind == 3) {
                double here = t.jobs.get(k).worth / (double) Math.max(1, t.minutes(k));
                double there = t.jobs.get(chosen).worth / (double) Math.max(1, t.minutes(chosen));
                if (here > there + 1e-9) chosen = k;
            }
        }
        return chosen;
    }

    int takes(int rule) { return hasRule(rule) ? choose(w, w.rules.get(rule)) : BAD; }

    int orderOf(int rule) {
        if (!hasRule(rule)) return BAD;
        World t = w.copy();
        List<Integer> o = new ArrayList<>();
        while (!t.freeOnes().isEmpty()) {
            int k = choose(t, w.rules.get(rule));
            t.carryOut(k);
            o.add(k);
        }
        return digits(o);
    }

    int prove() {
        World t = w.copy();
        List<Integer> o = bestOrder();
        rows.clear();
        for (int k : o) {
            int g = t.carryOut(k);
            rows.add(new int[] {k, t.minute, g});
        }
        return rows.size();
    }

    int row(int i, int what) { return in(i, 0, rows.size() - 1) && in(what, 0, 2) ? rows.get(i)[what] : -9; }

    int alterRow(int i, int what, int v) {
        int was = row(i, what);
        if (in(i, 0, rows.size() - 1) && in(what, 0, 2)) rows.get(i)[what] = v;
        return was;
    }

    int judge() {
        World t = w.copy();
        for (int i = 0; i < rows.size(); i++) {
            int[] r = rows.get(i);
            if (!t.free(r[0])) return i + 1;
            int g = t.carryOut(r[0]);
            if (r[1] != t.minute || r[2] != g) return i + 1;
        }
        return t.openOnes().isEmpty() ? 0 : 222;
    }

    int dues(int sheet) {
        if (!in(sheet, 0, 3)) return BAD;
        if (sheets[sheet] == null) return -11;
        if (!(sheets[sheet] instanceof int[] l)) return -13;
        int n = 0;
        while (n < l.length && n < w.jobs.size()) {
            w.jobs.get(n).due = l[n] < 0 ? 0 : l[n] > 999 ? 999 : l[n];
            n++;
        }
        return n;
    }

    int sheet(int sheet, int sort, int n) {
        if (!in(sheet, 0, 3) || !in(sort, -1, 3)) return BAD;
        if (sort >= 0 && n > 40) return BAD;
        if (sort >= 0 && n < 0) return -14;
        sheets[sheet] = switch (sort) {
            case 0 -> new byte[n];
            case 1 -> new short[n];
            case 2 -> new int[n];
            case 3 -> new long[n];
            default -> null;
        };
        return 1;
    }

    int write(int sheet, int i, int v) {
        if (!in(sheet, 0, 3)) return BAD;
        try {
            Object s = sheets[sheet];
            if (s instanceof byte[] l) l[i] = (byte) v;
            else if (s instanceof short[] l) l[i] = (short) v;
            else if (s instanceof int[] l) l[i] = v;
            else ((long[]) s)[i] = v;
            return 1;
        } catch (NullPointerException e) {
            return -11;
        } catch (ArrayIndexOutOfBoundsException e) {
            return -12;
        }
    }

    int item(int sheet, int sort, int i) {
        if (!in(sheet, 0, 3) || !in(sort, 0, 3)) return BAD;
        Object s = sheets[sheet];
        try {
            return switch (sort) {
                case 0 -> ((byte[]) s)[i];
                case 1 -> ((short[]) s)[i];
                case 2 -> ((int[]) s)[i];
                default -> (int) ((long[]) s)[i];
            };
        } catch (NullPointerException e) {
            return -11;
        } catch (ClassCastException e) {
            return -13;
        } catch (ArrayIndexOutOfBoundsException e) {
            return -12;
        }
    }

    int shelf(int shelf, int what, int n) {
        if (!in(shelf, 0, 3) || !in(what, 0, 2)) return BAD;
        if (what == 0 && !hasRule(n) || what == 1 && !in(n, 0, 3)) return BAD;
        shelves[shelf] = what == 0 ? (Object) Integer.valueOf(n) : what == 1 ? sheets[n] : null;
        return 1;
    }

    Object held(int shelf) {
        Object o = shelves[shelf];
        if (o instanceof Integer n) return hasRule(n) ? w.rules.get(n) : null;
        return o;
    }

    int taken(int shelf, int as) {
        if (!in(shelf, 0, 3) || !in(as, 0, 5) && !in(as, 10, 13)) return BAD;
        Object o = held(shelf);
        if (o == null) return -11;
        Class<?> c = as < 10 ? KINDS[as] : SORTS[as - 10];
        if (!c.isInstance(o)) return -13;
        return as < 10 ? ((Rule) o).n : java.lang.reflect.Array.getLength(o);
    }

    int act(int shelf, int act, int x) {
        trace = new ArrayList<>();
        if (!in(shelf, 0, 3) || !in(act, 0, 3) || !(held(shelf) instanceof Rule r)) return 0;
        r.trace = trace;
        try {
            return act == 0 ? r.moves(x) : act == 1 ? r.calls(x) : act == 2 ? r.shares(x) : r.tells(x);
        } catch (ArithmeticException e) {
            return -15;
        }
    }

    int trace(int i) { return in(i, 0, trace.size() - 1) ? trace.get(i) : NONE; }

    int many(int what) {
        if (!in(what, 0, 7)) return BAD;
        return new int[] {w.movers.size(), w.things.size(), w.jobs.size(), w.openOnes().size(), w.rules.size(),
            rows.size(), tape.length(), trace.size()}[what];
    }

    int keep() { kept = w.copy(); return 1; }

    int again() {
        if (kept == null) return NONE;
        w = kept.copy();
        return w.jobs.size();
    }
}

import java.util.List;
import java.util.Random;

/** Random runs of calls, each answered by OneMoves and by the Model. */
public final class ModelTest {
    static final int RUNS = 1500;
    static final int CALLS = 200;
    static int wrong = 0;

    final Random random;
    final OneMoves x = new OneMoves();
    final Model m = new Model();
    final StringBuilder told = new StringBuilder();
    final int seed;

    ModelTest(int seed) {
        this.seed = seed;
        random = new Random(seed);
    }

    /** Mostly from..to, at times a little outside, seldom far outside. */
    int some(int from, int to) {
        int r = random.nextInt(60);
        if (r == 0) return from - 1;
        if (r == 1) return to + 1;
        if (r == 2) return random.nextInt(3) == 0 ? random.nextInt() : random.nextInt(40) - 20;
        if (r == 3) return random.nextBoolean() ? Integer.MIN_VALUE : Integer.MAX_VALUE;
        return from + random.nextInt(Math.max(1, to - from + 1));
    }

    int dueTime() { return random.nextInt(4) == 0 ? some(0, 999) : m.w.minute + some(0, 80); }

    void due(String call, long got, long want) {
        told.append(call).append(" -> ").append(got).append('\n');
        if (got != want) {
            wrong++;
            System.out.println("seed " + seed + ": " + call + " answered " + got + ", the model " + want);
            if (wrong < 3) System.out.println(told);
        }
    }

    int digits() {
        List<Integer> l = m.w.openOnes();
        java.util.Collections.shuffle(l, random);
        if (random.nextInt(3) == 0) l = m.bestOrder();
        if (random.nextInt(12) == 0) return some(0, 300000);
        return Model.digits(l);
    }

    void feedText(String text) {
        for (int i = 0; i < text.length(); i += 8) {
            int n = Math.min(8, text.length() - i);
            long eight = random.nextLong();
            for (int k = n - 1; k >= 0; k--) eight = place(eight, k, text.charAt(i + k));
            due("feed(" + eight + ", " + n + ")", x.feed(eight, n), m.feed(eight, n));
        }
    }

    static long place(long eight, int k, char c) {
        return eight & ~(255L << 8 * k) | (long) (c & 255) << 8 * k;
    }

    String blank() { return random.nextInt(15) == 0 ? "  " : random.nextInt(40) == 0 ? "" : " "; }

    String text() {
        StringBuilder s = new StringBuilder();
        int movers = 1 + random.nextInt(3), things = 1 + random.nextInt(4);
        for (int i = 0; i < movers; i++) s.append("mover" + blank() + random.nextInt(10) + " " + (1 + random.nextInt(5)) + ";");
        for (int i = 0; i < things; i++) s.append("thing" + blank() + random.nextInt(10) + " " + (1 + random.nextInt(9)) + ";" + (random.nextInt(5) == 0 ? " " : ""));
        String[] kinds = {"work", "heavy", "cart", "slow", "quick", "own"};
        int works = random.nextInt(5);
        for (int i = 0; i < works; i++) {
            s.append(kinds[random.nextInt(6)] + blank() + random.nextInt(movers) + " " + random.nextInt(things) + blank() + "to" + blank()
                + random.nextInt(10) + " by " + random.nextInt(100) + " for " + random.nextInt(100));
            if (i > 0 && random.nextInt(3) == 0) {
                s.append(" behind " + random.nextInt(i));
                if (random.nextBoolean()) s.append(" within " + (1 + random.nextInt(40)));
            }
            s.append(";");
        }
        if (random.nextInt(4) == 0) s.append("water " + random.nextInt(10) + ";");
        if (random.nextInt(4) == 0) s.append("call " + random.nextInt(9) + " " + (1 + random.nextInt(30)) + ";");
        if (random.nextInt(4) == 0) s.append("bell " + (1 + random.nextInt(20)) + ";");
        if (random.nextInt(2) == 0) {
            int hurts = 1 + random.nextInt(2);
            for (int i = 0; i < hurts; i++) {
                int k = random.nextInt(s.length());
                int how = random.nextInt(4);
                if (how == 0) s.deleteCharAt(k);
                else if (how == 1) s.setCharAt(k, (char) random.nextInt(256));
                else if (how == 2) s.insert(k, "0123456789;; abehindwithin".charAt(random.nextInt(26)));
                else s.setLength(k);
                if (s.length() == 0) s.append(" ");
            }
        }
        return s.length() > 240 ? s.substring(0, 240) : s.toString();
    }

    void start() {
        if (random.nextInt(3) == 0) {
            callOf(0);
            return;
        }
        int movers = 1 + random.nextInt(3), things = 1 + random.nextInt(6), works = random.nextInt(7);
        for (int i = 0; i < movers; i++) callOf(1);
        for (int i = 0; i < things; i++) callOf(2);
        for (int i = 0; i < works; i++) callOf(3);
        for (int i = 0; i < 3; i++) callOf(4);
        for (int i = 0; i < 3; i++) callOf(22);
        for (int i = 0; i < 4; i++) callOf(31);
        for (int i = 0; i < 4; i++) callOf(34);
    }

    void callOf(int c) {
        int a, b, d, e;
        switch (c) {
            case 0 -> {
                feedText(text());
                if (random.nextInt(8) != 0) due("town()", x.town(), m.town());
            }
            case 1 -> { a = some(0, 9); b = some(1, 5); due("mover(" + a + ", " + b + ")", x.mover(a, b), m.mover(a, b)); }
            case 2 -> { a = some(0, 9); b = some(1, 9); due("thing(" + a + ", " + b + ")", x.thing(a, b), m.thing(a, b)); }
            case 3 -> {
                a = some(0, 5); b = some(0, Math.max(0, m.w.movers.size() - 1)); d = some(0, Math.max(0, m.w.things.size() - 1)); e = some(0, 9);
                int f = dueTime(), g = some(0, 99);
                due("work(" + a + ", " + b + ", " + d + ", " + e + ", " + f + ", " + g + ")", x.work(a, b, d, e, f, g), m.work(a, b, d, e, f, g));
            }
            case 4 -> {
                a = some(0, 5); b = some(-1, Math.max(0, a - 1)); d = random.nextBoolean() ? 0 : some(0, random.nextBoolean() ? 20 : 99);
                due("behind(" + a + ", " + b + ", " + d + ")", x.behind(a, b, d), m.behind(a, b, d));
            }
            case 5 -> { a = some(0, 5); b = some(0, 9); due("workOf(" + a + ", " + b + ")", x.workOf(a, b), m.workOf(a, b)); }
            case 6 -> { a = some(0, 1); b = some(0, 5); due("at(" + a + ", " + b + ")", x.at(a, b), m.at(a, b)); }
            case 7 -> { a = some(0, 1); b = some(0, 5); d = some(0, 9); due("put(" + a + ", " + b + ", " + d + ")", x.put(a, b, d), m.put(a, b, d)); }
            case 8 -> {
                a = some(0, 3); b = some(0, new int[] {9, 8, 30, 20}[a & 3]);
                due("set(" + a + ", " + b + ")", x.set(a, b), m.set(a, b));
            }
            case 9 -> due("minute()", x.minute(), m.minute());
            case 10 -> { a = random.nextInt(3) == 0 ? some(0, 999) : some(0, 12); due("pass(" + a + ")", x.pass(a), m.pass(a)); }
            case 11 -> { a = some(0, 5); due("minutes(" + a + ")", x.minutes(a), m.minutes(a)); }
            case 12 -> due("may()", x.may(), m.may());
            case 13 -> { a = some(0, 5); due("does(" + a + ")", x.does(a), m.does(a)); }
            case 14 -> due("had()", x.had(), m.had());
            case 15 -> { a = digits(); due("worth(" + a + ")", x.worth(a), m.worth(a)); }
            case 16 -> { a = digits(); b = some(0, 5); due("ends(" + a + ", " + b + ")", x.ends(a, b), m.ends(a, b)); }
            case 17 -> { a = some(0, 1); due("best(" + a + ")", x.best(a), m.best(a)); }
            case 18 -> due("fewest()", x.fewest(), m.fewest());
            case 19 -> due("shortest()", x.shortest(), m.shortest());
            case 20 -> {
                a = digits(); b = some(0, 1);
                due("mean(" + a + ", " + b + ")", x.mean(a, b), m.fraction(a, b, false));
                due("sure(" + a + ", " + b + ")", x.sure(a, b), m.fraction(a, b, true));
            }
            case 21 -> { a = some(0, 5); due("bell(" + a + ")", x.bell(a), m.bell(a)); }
            case 22 -> { a = some(1, 5); b = some(0, 9); due("rule(" + a + ", " + b + ")", x.rule(a, b), m.rule(a, b)); }
            case 23 -> { a = some(0, 3); b = some(0, 1); due("ruleOf(" + a + ", " + b + ")", x.ruleOf(a, b), m.ruleOf(a, b)); }
            case 24 -> { a = some(0, 3); due("takes(" + a + ")", x.takes(a), m.takes(a)); }
            case 25 -> { a = some(0, 3); due("orderOf(" + a + ")", x.orderOf(a), m.orderOf(a)); }
            case 26 -> due("prove()", x.prove(), m.prove());
            case 27 -> { a = some(0, 5); b = some(0, 2); due("row(" + a + ", " + b + ")", x.row(a, b), m.row(a, b)); }
            case 28 -> {
                a = some(0, 5); b = some(0, 2); d = some(0, 5);
                if (random.nextBoolean() && m.row(a, b) != -9) d = m.row(a, b);
                due("alterRow(" + a + ", " + b + ", " + d + ")", x.alterRow(a, b, d), m.alterRow(a, b, d));
            }
            case 29 -> due("judge()", x.judge(), m.judge());
            case 30 -> {
                a = some(0, 3);
                due("dues(" + a + ")", x.dues(a), m.dues(a));
                due("had()", x.had(), m.had());
            }
            case 31 -> { a = some(0, 3); b = random.nextInt(3) == 0 ? some(-1, 3) : random.nextInt(4); d = some(0, 40); due("sheet(" + a + ", " + b + ", " + d + ")", x.sheet(a, b, d), m.sheet(a, b, d)); }
            case 32 -> {
                a = some(0, 3); b = some(0, 12); d = random.nextBoolean() ? random.nextInt() : some(0, 90);
                due("write(" + a + ", " + b + ", " + d + ")", x.write(a, b, d), m.write(a, b, d));
            }
            case 33 -> { a = some(0, 3); b = some(0, 3); d = some(0, 12); due("item(" + a + ", " + b + ", " + d + ")", x.item(a, b, d), m.item(a, b, d)); }
            case 34 -> { a = some(0, 3); b = random.nextInt(3) == 0 ? some(0, 2) : random.nextInt(2); d = some(0, 3); due("shelf(" + a + ", " + b + ", " + d + ")", x.shelf(a, b, d), m.shelf(a, b, d)); }
            case 35 -> { a = some(0, 3); b = random.nextBoolean() ? some(0, 5) : some(10, 13); due("taken(" + a + ", " + b + ")", x.taken(a, b), m.taken(a, b)); }
            case 36 -> {
                a = some(0, 3); b = some(0, 3); d = random.nextBoolean() ? random.nextInt() : some(-9, 9);
                due("act(" + a + ", " + b + ", " + d + ")", x.act(a, b, d), m.act(a, b, d));
                due("many(7)", x.many(7), m.many(7));
                for (int i = -1; i < 12; i++) due("trace(" + i + ")", x.trace(i), m.trace(i));
            }
            case 37 -> { a = some(0, 7); due("many(" + a + ")", x.many(a), m.many(a)); }
            case 38 -> due("keep()", x.keep(), m.keep());
            default -> due("again()", x.again(), m.again());
        }
    }

    void run() {
        start();
        for (int i = 0; i < CALLS; i++) callOf(seldom(random.nextInt(40)));
    }

    /** Calls that make much else anew come more seldom, so that runs go somewhere. */
    int seldom(int c) {
        boolean anew = c == 0 || c == 39 || c == 38 || c == 13;
        return anew && random.nextInt(4) != 0 ? 14 + random.nextInt(23) : c;
    }

    public static void main(String[] args) {
        int from = args.length > 0 ? Integer.parseInt(args[0]) : 1;
        int runs = args.length > 1 ? Integer.parseInt(args[1]) : RUNS;
        for (int seed = from; seed < from + runs && wrong < 10; seed++) new ModelTest(seed).run();
        System.out.println(wrong == 0 ? runs + " runs are as the model's" : wrong + " answers are not the model's");
        if (wrong != 0) System.exit(1);
    }
}

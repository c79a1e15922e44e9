/** Edges of "---- rules". */
final class RuleEdges extends Answers {
    static OneMoves rules(int n) {
        OneMoves x = new OneMoves();
        for (int k = 0; k < n; k++) x.rule(k + 1, k);
        return x;
    }

    static void rule() {
        says(26, "A RULE (kind 1 to 5): its number. BAD; FULL.");
        for (int kind : new int[] {1, 5}) {
            OneMoves x = busy();
            due("rule(" + kind + ", 0)", x.rule(kind, 0), 3);
            due("ruleOf(3, 0)", x.ruleOf(3, 0), kind);
        }
        for (int kind : new int[] {-1, 0, 6, LOW, HIGH}) {
            idle("rule(" + kind + ", 0)", RuleEdges::busy, x -> x.rule(kind, 0), BAD);
            idle("a fifth, rule(" + kind + ", 0)", RuleEdges::full, x -> x.rule(kind, 0), BAD);
        }
        says(26, "4 kind (under turn); A (0 to 9)");
        for (int a : new int[] {0, 9}) {
            OneMoves x = busy();
            due("rule(1, " + a + ")", x.rule(1, a), 3);
            due("ruleOf(3, 1)", x.ruleOf(3, 1), a);
        }
        for (int a : new int[] {-1, 10, LOW, HIGH}) {
            idle("rule(1, " + a + ")", RuleEdges::busy, x -> x.rule(1, a), BAD);
            idle("a fifth, rule(1, " + a + ")", RuleEdges::full, x -> x.rule(1, a), BAD);
        }
        says(26, "RULES, 4 at most, numbered as they come");
        for (int n = 0; n < 4; n++) due("rule " + n, rules(n).rule(5, 9), n);
        idle("a fifth", () -> rules(4), x -> x.rule(5, 9), FULL);
        idle("a fifth", RuleEdges::full, x -> x.rule(1, 0), FULL);
    }

    static void ruleOf() {
        says(27, "Of a RULE: what = 0 KIND, 1 A. BAD.");
        for (int n = 1; n <= 4; n++) {
            int count = n;
            Maker some = () -> rules(count);
            for (int k = 0; k < n; k++) {
                int rule = k;
                idle("ruleOf(" + k + ", 0)", some, x -> x.ruleOf(rule, 0), k + 1);
                idle("ruleOf(" + k + ", 1)", some, x -> x.ruleOf(rule, 1), k);
                for (int what : new int[] {-1, 2, LOW, HIGH}) idle("ruleOf(.., " + what + ")", some, x -> x.ruleOf(rule, what), BAD);
            }
            for (int rule : new int[] {-1, n, 4, LOW, HIGH}) idle("ruleOf(" + rule + ", 0)", some, x -> x.ruleOf(rule, 0), BAD);
        }
        idle("none", OneMoves::new, x -> x.ruleOf(0, 0), BAD);
    }

    /** Six works of one minute each, all of their own things; those that the set names are done. */
    static OneMoves six(int done, int kind, int a) {
        OneMoves x = OrderEdges.lasting(1, 1, 1, 1, 1, 1);
        for (int w = 0; w < 6; w++) if ((done >> w & 1) != 0) x.does(w);
        x.rule(kind, a);
        return x;
    }

    static void turnAndTold() {
        says(28, "turn: the first one from A modulo how many WORKS there are on (by numbers, the first behind the last)");
        int[] six = {0, 1, 2, 3, 4, 5, 0, 1, 2, 3};
        for (int a = 0; a < 10; a++) due("turn, six, A " + a, six(0, 1, a).takes(0), six[a]);
        due("the last is done: the first", six(32, 1, 5).takes(0), 0);
        due("the last two: from 4", six(48, 1, 4).takes(0), 0);
        due("only the one ahead of A is open", six(63 - 8, 1, 4).takes(0), 3);
        due("only A is open", six(63 - 16, 1, 4).takes(0), 4);
        for (int a = 0; a < 10; a++) due("of one alone, A " + a, single(1, a).takes(0), 0);
        OneMoves x = six(0, 1, 1);
        x.behind(1, 0, 0);
        due("that one waits: the next", x.takes(0), 2);
        says(28, "told: the one at place A modulo how many there are");
        // open and free are 1, 3, 4: places 0, 1, 2
        int[] three = {1, 3, 4, 1, 3, 4, 1, 3, 4, 1};
        for (int a = 0; a < 10; a++) due("told, three, A " + a, six(1 + 4 + 32, 5, a).takes(0), three[a]);
        for (int a = 0; a < 10; a++) due("told, one alone, A " + a, single(5, a).takes(0), 0);
        says(28, "kind: that of the greatest KIND, of several as turn");
        // kinds 5 0 5 4 5 0
        int[] last = {0, 2, 2, 4, 4, 0, 0, 2, 2, 4};
        for (int a = 0; a < 10; a++) due("kind, A " + a, kinds(a).takes(0), last[a]);
        OneMoves y = kinds(3);
        y.does(0);
        y.does(2);
        y.does(4);
        due("the greatest that is open", y.takes(0), 3);
        y.does(3);
        due("then those of 0, from 3 on", y.takes(0), 5);
        OneMoves z = of("mover 0 1;thing 0 1;");
        for (int kind : new int[] {0, 3, 1, 4, 3}) z.work(kind, 0, 0, 0, 0, 0);
        z.rule(4, 0);
        due("a lesser one at A isn't taken", z.takes(0), 3);
    }

    static OneMoves single(int kind, int a) {
        OneMoves x = OrderEdges.lasting(1);
        x.rule(kind, a);
        return x;
    }

    static OneMoves kinds(int a) {
        OneMoves x = of("mover 0 1;thing 0 1;");
        for (int kind : new int[] {5, 0, 5, 4, 5, 0}) x.work(kind, 0, 0, 0, 0, 0);
        x.rule(4, a);
        return x;
    }

    static int soonest(int... minutes) {
        OneMoves x = OrderEdges.lasting(minutes);
        x.rule(2, 9);
        return x.takes(0);
    }

    /** Works of so many minutes and worth so much: pairs. */
    static int worthiest(int... pairs) {
        OneMoves x = of("mover 0 1;");
        for (int k = 0; k < pairs.length / 2; k++) {
            x.thing(0, 1);
            x.work(5, 0, k, pairs[2 * k], 0, pairs[2 * k + 1]);
        }
        x.rule(3, 9);
        return x.takes(0);
    }

    static void soonAndWorthy() {
        says(28, "soon: the one with fewest MINUTES, of several the least");
        due("5 5 5", soonest(5, 5, 5), 0);
        due("5 4 4", soonest(5, 4, 4), 1);
        due("5 4 3", soonest(5, 4, 3), 2);
        due("0 0 1", soonest(0, 0, 1), 0);
        due("1 0 0", soonest(1, 0, 0), 1);
        says(28, "worthy: the one with most WORTH by MINUTES (a fraction; MINUTES 0 count as 1), of several the least");
        due("6 by 2, 9 by 3: the same", worthiest(2, 6, 3, 9), 0);
        due("6 by 2, 10 by 3: a fraction more", worthiest(2, 6, 3, 10), 1);
        due("6 by 2, 8 by 3: a fraction less", worthiest(2, 6, 3, 8), 0);
        due("7 by 2, 10 by 3", worthiest(2, 7, 3, 10), 0);
        due("49 by 7, 57 by 8", worthiest(7, 49, 8, 57), 1);
        due("4 by 0 as by 1, 4 by 1", worthiest(0, 4, 1, 4), 0);
        due("4 by 1, 4 by 0 as by 1", worthiest(1, 4, 0, 4), 0);
        due("4 by 1, 5 by 0", worthiest(1, 4, 0, 5), 1);
        due("4 by 0, 5 by 1", worthiest(0, 4, 1, 5), 1);
        due("none is worth anything", worthiest(5, 0, 0, 0, 3, 0), 0);
        due("0 and then 1 by 9", worthiest(0, 0, 9, 1), 1);
        due("6 by 2, 4 by 1", worthiest(2, 6, 1, 4), 1);
        due("6 by 2, 4 by 0 as by 1", worthiest(2, 6, 0, 4), 1);
        due("6 by 2, 3 by 0 as by 1", worthiest(2, 6, 0, 3), 0);
    }

    static void takes() {
        says(28, "Which WORK a RULE takes now. BAD; NONE: none is open.");
        for (int rule : new int[] {-1, 3, 4, LOW, HIGH}) idle("takes(" + rule + ")", RuleEdges::busy, x -> x.takes(rule), BAD);
        idle("takes(3)", RuleEdges::full, x -> x.takes(3), 4);
        idle("takes(4)", RuleEdges::full, x -> x.takes(4), BAD);
        // told, A 2, of 2 and 4: place 0
        idle("takes(2)", RuleEdges::busy, x -> x.takes(2), 2);
        for (int kind = 1; kind <= 5; kind++) {
            int k = kind;
            idle("no works, kind " + kind, () -> ruled(new OneMoves(), k), x -> x.takes(0), NONE);
            idle("none is open, kind " + kind, () -> ruled(through(), k), x -> x.takes(1), NONE);
        }
        idle("none is open, no such rule", RuleEdges::through, x -> x.takes(1), BAD);
        idle("none is open, no such rule", RuleEdges::through, x -> x.takes(-1), BAD);
    }

    static OneMoves ruled(OneMoves x, int kind) {
        x.rule(kind, 9);
        return x;
    }

    static void orderOf() {
        says(29, "The ORDER of a RULE, as digits. BAD.");
        for (int rule : new int[] {-1, 3, 4, LOW, HIGH}) idle("orderOf(" + rule + ")", RuleEdges::busy, x -> x.orderOf(rule), BAD);
        idle("told, A 2, of 2 4; of 3 4; of the one left", RuleEdges::busy, x -> x.orderOf(2), digits(2, 3, 4));
        idle("orderOf(4)", RuleEdges::full, x -> x.orderOf(4), BAD);
        for (int kind = 1; kind <= 5; kind++) {
            int k = kind;
            idle("no works, kind " + kind, () -> ruled(new OneMoves(), k), x -> x.orderOf(0), 0);
            idle("none is open, kind " + kind, () -> ruled(through(), k), x -> x.orderOf(1), 0);
        }
        says(29, "Its ORDER: so one behind the other, as all stands then.");
        due("turn, A 4", six(0, 1, 4).orderOf(0), digits(4, 5, 0, 1, 2, 3));
        due("turn, A 9: 9 modulo 6, not modulo what is left", six(0, 1, 9).orderOf(0), digits(3, 4, 5, 0, 1, 2));
        // told: place 1 of 6, 5, 4, 3, 2; then 1 modulo 1
        due("told, A 1", six(0, 5, 1).orderOf(0), digits(1, 2, 3, 4, 5, 0));
        // soon: 1 brings the thing to 9, and 0 takes fewer then than 2
        OneMoves x = of("mover 0 1;thing 0 1;thing 0 1;own 0 0 to 8 by 0 for 0;own 0 0 to 6 by 0 for 0;own 0 1 to 7 by 0 for 0;");
        x.rule(2, 0);
        due("soon: 8 6 7, then 2 and 7", x.orderOf(0), digits(1, 0, 2));
        OneMoves y = OrderEdges.lasting(0, 5, 0);
        y.behind(2, 0, 1);
        y.behind(1, 0, 0);
        y.rule(1, 1);
        due("a spoilt one has its turn", y.orderOf(0), digits(0, 1, 2));
    }

    static void run() {
        rule();
        ruleOf();
        turnAndTold();
        soonAndWorthy();
        takes();
        orderOf();
    }
}

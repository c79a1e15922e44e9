/** Sentences of the document that name no boundary, in its order; those that do stand in the parts with edges. */
final class PlainWords extends Answers {
    static void refusals() {
        says(4, "Answers below 0, where not told otherwise, are refusals; such a call changes nothing");
        idle("mover(10, 1)", PlainWords::busy, x -> x.mover(10, 1), BAD);
        idle("mover(1, 1) of three", PlainWords::full, x -> x.mover(1, 1), FULL);
        idle("takes(0), none is open", PlainWords::through, x -> x.takes(0), NONE);
        idle("does(0), done", PlainWords::busy, x -> x.does(0), STATE);
        says(42, "BAD (-1) there is no such thing, or a number is not as told; FULL (-2); NONE (-3); STATE (-4)");
        due("no such thing", busy().workOf(5, 0), -1);
        due("a number is not as told", busy().many(8), -1);
        due("full", full().thing(1, 1), -2);
        due("none is kept", full().again(), -3);
        due("it isn't open", busy().behind(0, -1, 0), -4);
        says(37, "and what the host refuses: -11 nothing where something is asked, -12 a place outside,"
            + " -13 a thing of another sort or kind, -14 a size below 0, -15 parted by 0.");
        due("a missing sheet", busy().item(3, 2, 0), -11);
        due("an empty shelf", busy().taken(3, 0), -11);
        due("a place outside", busy().item(0, 2, 3), -12);
        due("another sort", busy().item(0, 1, 0), -13);
        due("another kind", busy().taken(0, 1), -13);
        due("a size below 0", busy().sheet(0, 0, -1), -14);
        OneMoves x = new OneMoves();
        x.rule(1, 0);
        x.shelf(0, 0, 0);
        due("parted by 0", x.act(0, 2, 7), -15);
    }

    static void sets() {
        says(15, "Sets are told by bits.");
        OneMoves x = OrderEdges.lasting(1, 1, 1, 1);
        x.behind(1, 0, 0);
        x.behind(2, 1, 0);
        due("0 and 3", x.may(), 1 + 8);
        x.does(0);
        due("1 and 3", x.may(), 2 + 8);
        x.does(3);
        due("1", x.may(), 2);
    }

    static void works() {
        says(6, "WORKS, 6 at most, numbered as they come: a KIND: 0 work; 1 heavy, 2 cart, 5 own (under work),"
            + " 3 slow (under heavy), 4 quick (under cart); a MOVER, a THING, TO (a PLACE), DUE (0 to 999), WORTH (0 to 99),");
        String[] names = {"work", "heavy", "cart", "slow", "quick", "own"};
        // walk 2, the next one's walk 5, carry 6 by 2; another thing lies there
        int[] minutes = {5, 10, 6, 20, 3, 6};
        for (int kind = 0; kind < 6; kind++) {
            OneMoves told = of("mover 9 1;mover 2 2;mover 9 1;thing 8 8;thing 4 2;thing 4 9;" + names[kind] + " 1 1 to 7 by 70 for 60;");
            OneMoves made = of("mover 9 1;mover 2 2;mover 9 1;thing 8 8;thing 4 2;thing 4 9;");
            due("work(" + kind + ", ..)", made.work(kind, 1, 1, 7, 70, 60), 0);
            int[] want = {kind, 1, 1, 7, 70, 60, -9, 0, 0, -9};
            for (int what = 0; what < 10; what++) {
                due(names[kind] + ", told", told.workOf(0, what), want[what]);
                due(names[kind] + ", made", made.workOf(0, what), want[what]);
            }
            due(names[kind] + ", minutes", told.minutes(0), minutes[kind]);
        }
        says(7, "BEHIND another WORK (told ahead of it; -1: none) and WITHIN so many minutes (0: at any time; 99 at most) of its end.");
        // of its end, not of its beginning: work 0 ends at 9 and began at 0
        OneMoves x = OrderEdges.lasting(9, 1);
        x.behind(1, 0, 3);
        x.does(0);
        x.pass(3);
        due("3 behind its end", x.does(1), 50);
        says(8, "A WORK is open, done or spoilt.");
        due("open", busy().workOf(2, 8), 0);
        due("done", busy().workOf(0, 8), 1);
        due("spoilt", busy().workOf(1, 8), 2);
    }

    static void minutes() {
        says(14, "MINUTES of a WORK, as all stands when it begins: WALK: FAR from its MOVER to its THING.");
        OneMoves x = of("mover 1 1;thing 4 1;work 0 0 to 9 by 99 for 9;work 0 0 to 8 by 99 for 9;");
        due("walk 3, carry 5", x.minutes(0), 8);
        due("walk 3, carry 4", x.minutes(1), 7);
        due("walk 0, carry 1, when it begins", x.ends(digits(0, 1), 1), 9);
        due("as all stands then, in the other order", x.ends(digits(1, 0), 0), 8);
        x.does(0);
        due("as all stands now", x.minutes(1), 1);
        x.put(0, 0, 0);
        due("he was put elsewhere", x.minutes(1), 10);
        x.put(1, 0, 3);
        due("and the thing, too", x.minutes(1), 8);
        says(14, "work: WALK and CARRY. heavy: as work, and WALK of the next MOVER");
        OneMoves y = of("mover 1 1;mover 6 5;thing 4 1;work 0 0 to 9 by 9 for 9;heavy 0 0 to 9 by 9 for 9;");
        due("work: 3 and 5", y.minutes(0), 8);
        due("heavy: and 2", y.minutes(1), 10);
        says(16, "Who moved is at TO then, and the THING.");
        // movers 1 and 6 and 0, things at 4, 4 and 5: who is at 9 then, of each kind
        int[][] movers = {{9, 6, 0}, {9, 9, 0}, {9, 6, 0}, {9, 9, 0}, {9, 6, 0}, {1, 6, 0}};
        int[][] things = {{9, 4, 5}, {9, 4, 5}, {9, 9, 5}, {9, 4, 5}, {9, 9, 5}, {9, 4, 5}};
        for (int kind = 0; kind < 6; kind++) {
            OneMoves z = of("mover 1 1;mover 6 5;mover 0 1;thing 4 1;thing 4 3;thing 5 1;");
            z.work(kind, 0, 0, 9, 999, 5);
            due("kind " + kind, z.does(0), 5);
            for (int k = 0; k < 3; k++) {
                due("kind " + kind + ", mover " + k, z.at(0, k), movers[kind][k]);
                due("kind " + kind + ", thing " + k, z.at(1, k), things[kind][k]);
            }
        }
    }

    static void worthOfWorks() {
        says(16, "A WORK that is BEHIND one that is spoilt, or WITHIN n of one that ended more than n minutes ahead (MINUTE less its end)");
        OneMoves x = OrderEdges.lasting(0, 2, 2);
        x.behind(1, 0, 4);
        x.behind(2, 1, 0);
        x.does(0);
        x.pass(5);
        due("within 4, 5 behind it", x.does(1), 0);
        due("behind that", x.does(2), 0);
        due("had()", x.had(), 50);
        says(16, "WORTH of one that is done: WORTH if it ends at DUE or ahead, else less by 1 for each minute that it is later");
        OneMoves y = of("mover 0 1;thing 0 1;own 0 0 to 7 by 7 for 30;own 0 0 to 9 by 2 for 30;");
        due("at DUE", y.does(0), 30);
        due("7 later", y.does(1), 23);
        due("its own WORTH stays as told", y.workOf(1, 5), 30);
    }

    static void orders() {
        says(18, "AN ORDER: all WORKS that are open, one behind the other");
        OneMoves x = OrderEdges.lasting(3, 4, 5);
        x.does(1);
        due("2 ends", x.ends(digits(2, 0), 2), 9);
        due("0 ends then", x.ends(digits(2, 0), 0), 12);
        due("1 isn't open any more", x.worth(digits(2, 1, 0)), BAD);
        says(20, "BEST: of all that are allowed the ORDER with the most WORTH together");
        // 0 ends at 4, then 1 at 13: 10 and 14; 1 ends at 9, then 0 at 13: 18 and 1
        OneMoves y = of("mover 0 1;thing 0 1;thing 0 1;own 0 0 to 4 by 4 for 10;own 0 1 to 9 by 7 for 20;");
        due("worth(0 1)", y.worth(digits(0, 1)), 24);
        due("worth(1 0)", y.worth(digits(1, 0)), 19);
        due("best(0)", y.best(0), 24);
        due("best(1)", y.best(1), digits(0, 1));
        says(21, "FEWEST.");
        due("1 alone is late", y.fewest(), 1);
        due("none is", OrderEdges.lasting(3, 4).fewest(), 0);
        says(22, "SHORTEST.");
        due("shortest()", y.shortest(), 13);
        OneMoves z = of("mover 5 1;thing 5 1;thing 9 1;work 0 0 to 9 by 9 for 9;work 0 1 to 5 by 9 for 9;");
        // 0 first: 4, then 4; 1 first: 8, then 4
        due("0 first is shorter", z.shortest(), 8);
        due("1 first", z.ends(digits(1, 0), 0), 12);
        says(18, "WORTH of an ORDER (digits to the base 8, the first WORK the lowest).");
        due("had() isn't in it", x.had() * 1000 + x.worth(digits(0, 2)), 50_100);
    }

    static void called() {
        says(23, "CALLED: ahead of each WORK of an ORDER, with odds CALL by 8, apart from each other, the doctor is called");
        says(23, "MEAN of an ORDER: what it is worth on average.");
        // ends at 4 or, with odds 3 by 8, at 9: 10 or 5
        OneMoves x = of("mover 0 1;thing 0 1;own 0 0 to 4 by 4 for 10;call 3 5;");
        due("(10 * 5 + 5 * 3) by 8", x.mean(0, 0), 65);
        due("(10 * 5 + 5 * 3) by 8", x.mean(0, 1), 8);
        // behind it one of no minutes, due at 9, for 10
        x.work(5, 0, 0, 4, 9, 10);
        x.behind(1, 0, 0);
        due("64 parts: 25 * 20 + 15 * 15 + 15 * 20 + 9 * 10, by 64", x.mean(digits(0, 1), 0), 1115);
        due("below", x.mean(digits(0, 1), 1), 64);
        says(24, "SURE of it: with what odds none ends later than DUE or is spoilt.");
        due("not called ahead of the first: 5 by 8", x.sure(digits(0, 1), 0), 5);
        due("below", x.sure(digits(0, 1), 1), 8);
        x.behind(1, 0, 4);
        due("nor ahead of the second, else it is spoilt", x.sure(digits(0, 1), 0), 25);
        due("below", x.sure(digits(0, 1), 1), 64);
    }

    static void byTheBell() {
        says(25, "BY THE BELL: open WORKS by numbers, again and again");
        OneMoves x = OrderEdges.lasting(5, 2, 4);
        // 0: 0 to 3, 1: 3 to 5, 2: 5 to 8, 0: 8 to 10, 2: 10 to 11
        due("bell(0)", x.bell(0), 10);
        due("bell(1)", x.bell(1), 5);
        due("bell(2)", x.bell(2), 11);
        x.does(1);
        due("without 1, from 2 on", x.bell(0), 2 + 8);
        says(25, "MINUTES of each as all stands now");
        OneMoves y = of("mover 0 1;thing 0 1;work 0 0 to 4 by 9 for 9;work 0 0 to 6 by 9 for 9 behind 0;");
        due("4", y.bell(0), 4);
        due("6 more, though 2 would be left in an order", y.bell(1), 10);
        due("in an order", y.ends(digits(0, 1), 1), 6);
        says(25, "the MINUTE at which each ends.");
        y.pass(7);
        due("from now on", y.bell(1), 17);
        due("nothing is done", y.many(3), 2);
    }

    static void rules() {
        says(26, "a KIND: 0 rule; 1 turn, 2 soon, 5 told (under rule), 3 worthy (under soon), 4 kind (under turn)");
        int[][] above = {{}, {0, 1}, {0, 2}, {0, 2, 3}, {0, 1, 4}, {0, 5}};
        for (int kind = 1; kind < 6; kind++) {
            OneMoves x = new OneMoves();
            x.rule(kind, 9);
            x.shelf(0, 0, 0);
            for (int as = 0; as < 6; as++) {
                int under = -13;
                for (int k : above[kind]) under = k == as ? 0 : under;
                due("kind " + kind + " taken for " + as, x.taken(0, as), under);
            }
        }
        says(28, "A RULE takes, of open WORKS that aren't BEHIND an open one");
        // 0 is done, 2 waits behind 1, though it has fewest minutes, most worth, the greatest kind; 1 takes 5, 3 takes 6
        int[][] takes = {{1, 0, 1}, {1, 2, 3}, {2, 0, 1}, {3, 0, 1}, {4, 0, 3}, {5, 0, 1}, {5, 1, 3}, {5, 2, 1}};
        for (int[] t : takes) {
            OneMoves x = of("mover 0 1;thing 0 1;own 0 0 to 0 by 9 for 9;work 0 0 to 5 by 99 for 9;"
                + "own 0 0 to 0 by 99 for 99 behind 1;heavy 0 0 to 6 by 99 for 9;");
            x.does(0);
            x.rule(t[0], t[1]);
            due("kind " + t[0] + ", A " + t[1], x.takes(0), t[2]);
        }
    }

    /** The act answers so, and these bodies ran, as they began. */
    static void acts(OneMoves x, int act, int want, int... bodies) {
        due("act(0, " + act + ", 10)", x.act(0, act, 10), want);
        due("many(7)", x.many(7), bodies.length);
        for (int i = 0; i < bodies.length; i++) due("act " + act + ", trace(" + i + ")", x.trace(i), bodies[i]);
    }

    /** On shelf 0 a rule of this kind with this number and this A. */
    static OneMoves held(int kind, int n, int a) {
        OneMoves x = new OneMoves();
        for (int k = 0; k < n; k++) x.rule(1, 0);
        x.rule(kind, a);
        x.shelf(0, 0, n);
        return x;
    }

    static void bodies() {
        says(40, "A RULE is held as a thing of its KIND; n: its number, a: its A. BODIES, each with its number:");
        says(40, "rule: 10 moves: x + n. 11 calls: moves(x) * 2. 12 shares: x by (a - n)");
        says(40, "13 tells: calls(x) ^ a.");
        says(40, "turn: 20 calls: super.calls(x) - a.");
        OneMoves turn = held(1, 1, 7);
        acts(turn, 0, 11, 10);
        acts(turn, 1, 15, 20, 11, 10);
        acts(turn, 2, 1, 12);
        acts(turn, 3, 8, 13, 20, 11, 10);
        says(40, "soon: 30 moves: super.moves(x) * 3. 31 tells: super.tells(x) + shares(n).");
        OneMoves soon = held(2, 3, 5);
        acts(soon, 0, 39, 30, 10);
        acts(soon, 1, 78, 11, 30, 10);
        acts(soon, 2, 5, 12);
        acts(soon, 3, 76, 31, 13, 11, 30, 10, 12);
        says(40, "worthy: 40 moves: 0 - super.moves(x). 41 calls: super.calls(x) + moves(n).");
        OneMoves worthy = held(3, 2, 9);
        acts(worthy, 0, -36, 40, 30, 10);
        acts(worthy, 1, -84, 41, 11, 40, 30, 10, 40, 30, 10);
        acts(worthy, 2, 1, 12);
        acts(worthy, 3, -91, 31, 13, 41, 11, 40, 30, 10, 40, 30, 10, 12);
        says(40, "kind: 50 shares: super.shares(x + 2) ^ 1. 51 moves: super.moves(x) - n.");
        OneMoves kind = held(4, 3, 8);
        acts(kind, 0, 10, 51, 10);
        acts(kind, 1, 12, 20, 11, 51, 10);
        acts(kind, 2, 3, 50, 12);
        acts(kind, 3, 4, 13, 20, 11, 51, 10);
        says(40, "told: 60 tells: super.tells(x) * 2. 61 shares: super.shares(x) + moves(a).");
        OneMoves told = held(5, 3, 5);
        acts(told, 0, 13, 10);
        acts(told, 1, 26, 11, 10);
        acts(told, 2, 13, 61, 12, 10);
        acts(told, 3, 62, 60, 13, 11, 10);
    }

    static void townCalls() {
        says(2, "come to THE TAPE, the lowest of eight first: how many it has. BAD; FULL");
        OneMoves x = new OneMoves();
        due("bel", x.feed('b' | 'e' << 8 | 'l' << 16 | (long) 'X' << 24, 3), 3);
        due("l 9;", x.feed('l' | ' ' << 8 | '9' << 16 | (long) ';' << 24, 4), 7);
        due("it is bell 9;", x.town(), 0);
        due("set(3, 1)", x.set(3, 1), 9);
        says(4, "A MOVER: his number. BAD; FULL.");
        for (int k = 0; k < 3; k++) due("mover(" + k + ", 1)", x.mover(k, 1), k);
        due("a fourth", x.mover(0, 1), FULL);
        due("a fourth, of no pace", x.mover(0, 0), BAD);
        says(5, "A THING: its number. BAD; FULL.");
        for (int k = 0; k < 6; k++) due("thing(" + k + ", 1)", x.thing(k, 1), k);
        due("a seventh", x.thing(0, 1), FULL);
        due("a seventh, of no weight", x.thing(0, 0), BAD);
        says(6, "A WORK that is BEHIND none: its number. BAD; FULL.");
        for (int k = 0; k < 6; k++) {
            due("work " + k, x.work(0, 2, 5, 0, 9, 9), k);
            due("behind none", x.workOf(k, 6), -9);
            due("within", x.workOf(k, 7), 0);
        }
        due("a seventh", x.work(0, 2, 5, 0, 9, 9), FULL);
        due("a seventh, of no kind", x.work(6, 2, 5, 0, 9, 9), BAD);
        says(7, "An open WORK is BEHIND another one (told ahead of it; -1: none), WITHIN so many minutes (0 to 99)");
        due("behind(5, 2, 30)", x.behind(5, 2, 30), -9);
        due("workOf(5, 6)", x.workOf(5, 6), 2);
        due("workOf(5, 7)", x.workOf(5, 7), 30);
        due("behind(5, 4, 0)", x.behind(5, 4, 0), 2);
        due("behind(5, -1, 0)", x.behind(5, -1, 0), 4);
        due("workOf(5, 6)", x.workOf(5, 6), -9);
        says(8, "9 the MINUTE at which it ended (-9: it isn't done). BAD.");
        due("workOf(0, 9)", busy().workOf(0, 9), 8);
        due("workOf(1, 9), spoilt", busy().workOf(1, 9), -9);
        due("workOf(2, 9), open", busy().workOf(2, 9), -9);
        due("workOf(5, 9)", busy().workOf(5, 9), BAD);
    }

    static void hostCalls() {
        says(34, "Numbers of a SHEET taken for ints: item k is DUE of WORK k");
        OneMoves x = OrderEdges.lasting(3, 4, 5);
        x.sheet(2, 2, 2);
        x.write(2, 0, 2);
        x.write(2, 1, 7);
        due("dues(2)", x.dues(2), 2);
        int[] dues = {2, 7, 999};
        for (int w = 0; w < 3; w++) due("workOf(" + w + ", 4)", x.workOf(w, 4), dues[w]);
        due("the first is a minute late now", x.does(0), 49);
        says(39, "What a SHELF holds taken for a thing of KIND as (0 to 5, or one under it): its number");
        due("of number 2", held(3, 2, 9).taken(0, 2), 2);
        due("of number 0", held(3, 0, 9).taken(0, 2), 0);
    }

    static void run() {
        refusals();
        sets();
        works();
        minutes();
        worthOfWorks();
        orders();
        called();
        byTheBell();
        rules();
        bodies();
        townCalls();
        hostCalls();
    }
}

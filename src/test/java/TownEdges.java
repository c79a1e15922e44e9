/** Edges of "---- the town", but for TEXT, which TextEdges has. */
final class TownEdges extends Answers {
    static final int[] FAR_OFF = {LOW, LOW + 1, HIGH - 1, HIGH};

    static void newObject() {
        says(1, "No MOVERS, THINGS, WORKS, RULES; nothing is kept.");
        OneMoves x = new OneMoves();
        for (int what = 0; what < 8; what++) due("many(" + what + ")", x.many(what), 0);
        idle("again()", OneMoves::new, y -> y.again(), NONE);
        due("keep()", x.keep(), 1);
        due("again() of nothing", x.again(), 0);
        says(1, "The MINUTE is 0 at first.");
        due("minute()", new OneMoves().minute(), 0);
        says(1, "LAWS: 0 WATER (0 to 9; 0 at first), 1 CALL (0 to 8; 1 at first), 2 LONG (1 to 30; 5), 3 BELL (1 to 20; 3).");
        int[] first = {0, 1, 5, 3};
        for (int law = 0; law < 4; law++) due("set(" + law + ", 2)", new OneMoves().set(law, 2), first[law]);
        says(1, "or missing (at first)");
        for (int s = 0; s < 4; s++) due("write(" + s + ", 0, 0)", x.write(s, 0, 0), -11);
        says(1, "a SHEET's row, or nothing (at first)");
        for (int s = 0; s < 4; s++) due("taken(" + s + ", 0)", x.taken(s, 0), -11);
        says(1, "An object is used for at most 512 calls after it has been made");
        OneMoves y = new OneMoves();
        for (int i = 1; i < 512; i++) y.pass(1);
        due("the 512th call", y.pass(1), 512);
    }

    static OneMoves taped(int bytes) {
        OneMoves x = new OneMoves();
        feedText(x, " ".repeat(bytes));
        return x;
    }

    static void feed() {
        says(2, "n bytes (1 to 8) come to THE TAPE");
        due("feed(.., 1)", new OneMoves().feed(32, 1), 1);
        due("feed(.., 8)", new OneMoves().feed(32, 8), 8);
        idle("feed(.., 0)", TownEdges::busy, x -> x.feed(32, 0), BAD);
        idle("feed(.., 9)", TownEdges::busy, x -> x.feed(32, 9), BAD);
        idle("feed(.., -1)", TownEdges::busy, x -> x.feed(32, -1), BAD);
        for (int n : FAR_OFF) idle("feed(.., " + n + ")", TownEdges::busy, x -> x.feed(32, n), BAD);

        says(2, "the lowest of eight first");
        OneMoves x = new OneMoves();
        // "bell 20;" and what stands above n, which doesn't come
        x.feed(0x7f7f_7f20_6c6c_6562L, 5);
        x.feed(0x8000_0000_003b_3032L, 3);
        due("town()", x.town(), 0);
        due("set(3, 1)", x.set(3, 1), 20);
        OneMoves y = new OneMoves();
        y.feed(0x2020_2020_2020_2020L, 8);
        y.feed(0x8020_2020_2020_2020L, 8);
        due("the eighth byte, 128", y.town(), -100 - 15);

        says(2, "FULL: more than 240.");
        due("232 and 8", taped(232).feed(0x3b, 8), 240);
        due("239 and 1", taped(239).feed(0x3b, 1), 240);
        idle("233 and 8", () -> taped(233), z -> z.feed(0x3b, 8), FULL);
        idle("239 and 2", () -> taped(239), z -> z.feed(0x3b, 2), FULL);
        idle("240 and 1", () -> taped(240), z -> z.feed(0x3b, 1), FULL);
        due("nothing of it came", many6Behind(233, 8), 233);
        due("less may still come", roomBehind(233, 8, 7), 240);

        says(2, "of several the first named: BAD");
        idle("240 and 0", () -> taped(240), z -> z.feed(0x3b, 0), BAD);
        idle("240 and 9", () -> taped(240), z -> z.feed(0x3b, 9), BAD);

        says(2, "THE TAPE takes bytes, 240 at most; town() uses it up.");
        OneMoves z = taped(240);
        due("town()", z.town(), 0);
        due("many(6)", z.many(6), 0);
        due("feed(.., 8)", z.feed(0x3b, 8), 8);
    }

    static int many6Behind(int bytes, int n) {
        OneMoves x = taped(bytes);
        x.feed(0, n);
        return x.many(6);
    }

    static int roomBehind(int bytes, int refused, int n) {
        OneMoves x = taped(bytes);
        x.feed(0, refused);
        return x.feed(0, n);
    }

    static void mover() {
        says(4, "THE TOWN has PLACES 0 to 9 in a row");
        for (int place : new int[] {0, 9}) {
            OneMoves x = new OneMoves();
            due("mover(" + place + ", 1)", x.mover(place, 1), 0);
            due("at(0, 0)", x.at(0, 0), place);
        }
        for (int place : new int[] {-1, 10, LOW, HIGH}) {
            idle("mover(" + place + ", 1)", TownEdges::busy, x -> x.mover(place, 1), BAD);
        }
        says(4, "a PLACE, PACE (1 to 5)");
        for (int pace = 1; pace <= 5; pace += 4) {
            OneMoves x = new OneMoves();
            due("mover(0, " + pace + ")", x.mover(0, pace), 0);
            x.thing(0, 5);
            x.work(0, 0, 0, 2, 0, 0);
            due("10 by that pace", x.minutes(0), 10 / pace);
        }
        for (int pace : new int[] {-1, 0, 6, LOW, HIGH}) {
            idle("mover(0, " + pace + ")", TownEdges::busy, x -> x.mover(0, pace), BAD);
        }
        says(4, "MOVERS, 3 at most, numbered as they come");
        OneMoves x = new OneMoves();
        for (int k = 0; k < 3; k++) due("mover " + k, x.mover(k, 1), k);
        due("a fourth", x.mover(3, 1), FULL);
        due("at(0, 2)", x.at(0, 2), 2);
        due("at(0, 3)", x.at(0, 3), BAD);
        idle("a fourth", TownEdges::full, y -> y.mover(9, 5), FULL);
        says(4, "of several the first named: BAD");
        idle("a fourth, of place 10", TownEdges::full, y -> y.mover(10, 1), BAD);
        idle("a fourth, of pace 0", TownEdges::full, y -> y.mover(0, 0), BAD);
    }

    static void thing() {
        says(5, "THE TOWN has PLACES 0 to 9 in a row");
        for (int place : new int[] {0, 9}) {
            OneMoves x = new OneMoves();
            due("thing(" + place + ", 1)", x.thing(place, 1), 0);
            due("at(1, 0)", x.at(1, 0), place);
        }
        for (int place : new int[] {-1, 10, LOW, HIGH}) {
            idle("thing(" + place + ", 1)", TownEdges::busy, x -> x.thing(place, 1), BAD);
        }
        says(5, "a PLACE, WEIGHT (1 to 9)");
        for (int weight = 1; weight <= 9; weight += 8) {
            OneMoves x = new OneMoves();
            due("thing(0, " + weight + ")", x.thing(0, weight), 0);
            x.mover(0, 1);
            x.work(0, 0, 0, 1, 0, 0);
            due("minutes(0)", x.minutes(0), weight);
        }
        for (int weight : new int[] {-1, 0, 10, LOW, HIGH}) {
            idle("thing(0, " + weight + ")", TownEdges::busy, x -> x.thing(0, weight), BAD);
        }
        says(5, "THINGS, 6 at most, numbered as they come");
        OneMoves x = new OneMoves();
        for (int k = 0; k < 6; k++) due("thing " + k, x.thing(k, 1), k);
        due("a seventh", x.thing(3, 1), FULL);
        due("at(1, 5)", x.at(1, 5), 5);
        due("at(1, 6)", x.at(1, 6), BAD);
        idle("a seventh", TownEdges::full, y -> y.thing(9, 9), FULL);
        says(5, "of several the first named: BAD");
        idle("a seventh, of place -1", TownEdges::full, y -> y.thing(-1, 1), BAD);
        idle("a seventh, of weight 10", TownEdges::full, y -> y.thing(0, 10), BAD);
    }

    /** work() of a town with two movers and three things, one of the six numbers being v. */
    static long workWith(OneMoves x, int which, int v) {
        int[] a = {0, 1, 2, 5, 50, 50};
        a[which] = v;
        return x.work(a[0], a[1], a[2], a[3], a[4], a[5]);
    }

    static void work() {
        String[] words = {"a KIND: 0 work; 1 heavy, 2 cart, 5 own (under work), 3 slow (under heavy), 4 quick (under cart)",
            "a MOVER, a THING, TO (a PLACE), DUE (0 to 999), WORTH (0 to 99)"};
        int[] most = {5, 1, 2, 9, 999, 99};
        int[] mostOfFull = {5, 2, 5, 9, 999, 99};
        for (int which = 0; which < 6; which++) {
            says(6, which == 0 ? words[0] : words[1]);
            int number = which;
            for (int v : new int[] {0, most[which]}) {
                OneMoves x = busy();
                due("number " + which + " is " + v, workWith(x, which, v), 5);
                due("workOf(5, " + which + ")", x.workOf(5, which), v);
            }
            for (int v : new int[] {-1, most[which] + 1, LOW, HIGH}) {
                idle("number " + which + " is " + v, TownEdges::busy, x -> workWith(x, number, v), BAD);
            }
            for (int v : new int[] {-1, mostOfFull[which] + 1, LOW, HIGH}) {
                idle("a seventh, number " + which + " is " + v, TownEdges::full, x -> workWith(x, number, v), BAD);
            }
        }
        says(6, "A WORK that is BEHIND none: its number.");
        OneMoves x = busy();
        due("work", workWith(x, 0, 0), 5);
        due("BEHIND", x.workOf(5, 6), -9);
        due("WITHIN", x.workOf(5, 7), 0);
        due("open", x.workOf(5, 8), 0);
        due("it may be done", x.may() & 32, 32);
        says(6, "WORKS, 6 at most, numbered as they come");
        OneMoves y = of("mover 0 1;thing 0 1;");
        for (int k = 0; k < 6; k++) due("work " + k, y.work(0, 0, 0, 0, 0, 0), k);
        due("a seventh", y.work(0, 0, 0, 0, 0, 0), FULL);
        idle("a seventh", TownEdges::full, z -> z.work(5, 2, 5, 9, 999, 99), FULL);
        y.does(0);
        due("a done one is still one of six", y.work(0, 0, 0, 0, 0, 0), FULL);
    }

    static void behind() {
        says(7, "BEHIND another WORK (told ahead of it; -1: none)");
        OneMoves x = of("mover 0 1;thing 0 1;" + "own 0 0 to 0 by 9 for 9;".repeat(6));
        due("behind(0, -1, 0)", x.behind(0, -1, 0), -9);
        due("behind(5, 4, 0)", x.behind(5, 4, 0), -9);
        due("behind(5, 0, 0)", x.behind(5, 0, 0), 4);
        due("behind(5, -1, 0)", x.behind(5, -1, 0), 0);
        due("behind(5, -1, 0)", x.behind(5, -1, 0), -9);
        due("workOf(5, 6)", x.workOf(5, 6), -9);
        // of busy 2, 3 and 4 are open
        for (int other : new int[] {-2, 3, 4, 5, LOW, HIGH}) {
            idle("behind(3, " + other + ", 0)", TownEdges::busy, y -> y.behind(3, other, 0), BAD);
        }
        idle("the first one behind itself", TownEdges::full, y -> y.behind(0, 0, 0), BAD);
        says(7, "WITHIN so many minutes (0 to 99): that which it was BEHIND (-9: none).");
        for (int within : new int[] {0, 99}) {
            OneMoves y = busy();
            due("behind(3, 1, " + within + ")", y.behind(3, 1, within), 2);
            due("workOf(3, 7)", y.workOf(3, 7), within);
            due("workOf(3, 6)", y.workOf(3, 6), 1);
        }
        for (int within : new int[] {-1, 100, LOW, HIGH}) {
            idle("behind(3, 1, " + within + ")", TownEdges::busy, y -> y.behind(3, 1, within), BAD);
        }
        says(7, "BAD; STATE: it isn't open.");
        for (int work : new int[] {-1, 5, 6, LOW, HIGH}) {
            idle("behind(" + work + ", -1, 0)", TownEdges::busy, y -> y.behind(work, -1, 0), BAD);
        }
        idle("a done one", TownEdges::busy, y -> y.behind(0, -1, 0), STATE);
        idle("a spoilt one", TownEdges::busy, y -> y.behind(1, 0, 5), STATE);
        idle("a done one behind itself", TownEdges::busy, y -> y.behind(0, 0, 0), BAD);
        idle("a spoilt one, WITHIN 100", TownEdges::busy, y -> y.behind(1, 0, 100), BAD);
        says(7, "or that isn't open any more");
        OneMoves z = busy();
        due("behind a spoilt one", z.behind(2, 1, 0), -9);
        due("it may come", z.may() & 4, 4);
    }

    static void workOf() {
        says(8, "8 0 open, 1 done, 2 spoilt, 9 the MINUTE at which it ended (-9: it isn't done)");
        OneMoves x = busy();
        int[] states = {1, 2, 0, 0, 0};
        int[] ended = {8, -9, -9, -9, -9};
        for (int w = 0; w < 5; w++) {
            due("workOf(" + w + ", 8)", x.workOf(w, 8), states[w]);
            due("workOf(" + w + ", 9)", x.workOf(w, 9), ended[w]);
        }
        OneMoves y = of("mover 0 1;thing 0 1;own 0 0 to 0 by 9 for 9;");
        y.does(0);
        due("ended at 0", y.workOf(0, 9), 0);
        says(8, "6 BEHIND (-9: none), 7 WITHIN");
        due("behind 0", x.workOf(1, 6), 0);
        due("within 3", x.workOf(1, 7), 3);
        due("behind none", x.workOf(0, 6), -9);
        due("behind, at any time", x.workOf(3, 7), 0);
        says(8, "Of a WORK: what = 0 KIND, 1 MOVER, 2 THING, 3 TO, 4 DUE, 5 WORTH");
        int[] want = {3, 0, 1, 8, 99, 9, -9, 0, 0, -9};
        for (int what = 0; what < 10; what++) due("workOf(4, " + what + ")", x.workOf(4, what), want[what]);
        for (int what : new int[] {-1, 10, LOW, HIGH}) {
            idle("workOf(4, " + what + ")", TownEdges::busy, z -> z.workOf(4, what), BAD);
        }
        for (int work : new int[] {-1, 5, 6, LOW, HIGH}) {
            idle("workOf(" + work + ", 0)", TownEdges::busy, z -> z.workOf(work, 0), BAD);
        }
        idle("workOf(5, 0) of six", TownEdges::full, z -> z.workOf(5, 0), 5);
        idle("workOf(6, 0) of six", TownEdges::full, z -> z.workOf(6, 0), BAD);
    }

    static void atAndPut() {
        says(9, "The PLACE of a MOVER (what 0), a THING (1). BAD.");
        OneMoves x = busy();
        // mover 0 and thing 0 were moved to 6
        int[][] places = {{6, 7}, {6, 4, 9}};
        for (int what = 0; what < 2; what++) {
            int sort = what;
            int n = places[what].length;
            for (int k = 0; k < n; k++) due("at(" + what + ", " + k + ")", x.at(what, k), places[what][k]);
            for (int k : new int[] {-1, n, n + 1, 6, LOW, HIGH}) {
                idle("at(" + what + ", " + k + ")", TownEdges::busy, y -> y.at(sort, k), BAD);
            }
        }
        for (int what : new int[] {-1, 2, LOW, HIGH}) {
            idle("at(" + what + ", 0)", TownEdges::busy, y -> y.at(what, 0), BAD);
        }
        says(10, "It is at a PLACE from now on: where it was. BAD.");
        for (int what = 0; what < 2; what++) {
            int sort = what;
            int n = places[what].length;
            OneMoves y = busy();
            due("put(" + what + ", 0, 0)", y.put(what, 0, 0), 6);
            due("at(" + what + ", 0)", y.at(what, 0), 0);
            due("put(" + what + ", 0, 9)", y.put(what, 0, 9), 0);
            due("put the last", y.put(what, n - 1, 3), places[what][n - 1]);
            due("the first is still there", y.at(what, 0), 9);
            for (int place : new int[] {-1, 10, LOW, HIGH}) {
                idle("put(" + what + ", 0, " + place + ")", TownEdges::busy, z -> z.put(sort, 0, place), BAD);
            }
            for (int k : new int[] {-1, n, n + 1, 6, LOW, HIGH}) {
                idle("put(" + what + ", " + k + ", 5)", TownEdges::busy, z -> z.put(sort, k, 5), BAD);
            }
        }
        for (int what : new int[] {-1, 2, LOW, HIGH}) {
            idle("put(" + what + ", 0, 5)", TownEdges::busy, y -> y.put(what, 0, 5), BAD);
        }
    }

    static void set() {
        says(11, "LAWS: 0 WATER (0 to 9; 0 at first), 1 CALL (0 to 8; 1 at first), 2 LONG (1 to 30; 5), 3 BELL (1 to 20; 3).");
        int[] least = {0, 0, 1, 1};
        int[] most = {9, 8, 30, 20};
        int[] was = {2, 3, 4, 6};
        for (int k = 0; k < 4; k++) {
            int law = k;
            OneMoves x = busy();
            due("set(" + law + ", least)", x.set(law, least[law]), was[law]);
            due("set(" + law + ", most)", x.set(law, most[law]), least[law]);
            due("and again", x.set(law, most[law]), most[law]);
            for (int other = 0; other < 4; other++) {
                if (other != law) due("law " + other + " stays", x.set(other, 1), was[other]);
            }
            for (int v : new int[] {least[law] - 1, most[law] + 1, LOW, HIGH}) {
                idle("set(" + law + ", " + v + ")", TownEdges::busy, y -> y.set(law, v), BAD);
            }
        }
        says(11, "A LAW becomes v: what it was. BAD.");
        for (int law : new int[] {-1, 4, LOW, HIGH}) {
            idle("set(" + law + ", 1)", TownEdges::busy, x -> x.set(law, 1), BAD);
        }
    }

    static void minuteAndPass() {
        says(12, "The MINUTE.");
        idle("minute()", TownEdges::busy, x -> x.minute(), 17);
        says(13, "n minutes (0 to 999) pass: the MINUTE then. BAD.");
        idle("pass(0)", TownEdges::busy, x -> x.pass(0), 17);
        OneMoves x = busy();
        due("pass(1)", x.pass(1), 18);
        due("pass(999)", x.pass(999), 1017);
        due("minute()", x.minute(), 1017);
        for (int n : new int[] {-1, 1000, LOW, HIGH}) {
            idle("pass(" + n + ")", TownEdges::busy, y -> y.pass(n), BAD);
        }
        OneMoves y = of("water 9;");
        due("water's minutes pass like others", y.pass(3), 3);
        OneMoves z = new OneMoves();
        for (int i = 0; i < 511; i++) z.pass(999);
        due("as late as it can be", z.pass(999), 512 * 999);
    }

    static void run() {
        newObject();
        feed();
        mover();
        thing();
        work();
        behind();
        workOf();
        atAndPut();
        set();
        minuteAndPass();
    }
}

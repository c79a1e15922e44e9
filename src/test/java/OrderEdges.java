/** Edges of "---- orders". */
final class OrderEdges extends Answers {
    /** Works of so many minutes each, every one of its own thing, none behind another, due at 999, for 50. */
    static OneMoves lasting(int... minutes) {
        OneMoves x = of("mover 0 1;");
        for (int k = 0; k < minutes.length; k++) {
            int weight = 1;
            while (minutes[k] % weight != 0 || minutes[k] / weight > 9) weight++;
            x.thing(0, weight);
            x.work(5, 0, k, minutes[k] / weight, 999, 50);
        }
        return x;
    }

    /** A work of one mover and one thing at these places, of this kind. */
    static int minutesOf(int kind, int mover, int pace, int thing, int weight, int to) {
        OneMoves x = new OneMoves();
        x.mover(mover, pace);
        x.thing(thing, weight);
        x.work(kind, 0, 0, to, 0, 0);
        return x.minutes(0);
    }

    static void minutes() {
        says(14, "FAR is how many there are from one to another (3 to 7: 4)");
        due("3 to 7", minutesOf(0, 3, 1, 7, 1, 7), 4);
        due("7 to 3", minutesOf(0, 7, 1, 3, 1, 3), 4);
        due("the same", minutesOf(0, 3, 1, 3, 1, 3), 0);
        due("0 to 9, and back", minutesOf(0, 0, 1, 9, 1, 0), 18);
        says(14, "CARRY: FAR from the THING TO its PLACE, times WEIGHT, by PACE, any rest counted as one minute.");
        due("10 by 5", minutesOf(0, 0, 5, 0, 5, 2), 2);
        due("9 by 5", minutesOf(0, 0, 5, 0, 9, 1), 2);
        due("6 by 5", minutesOf(0, 0, 5, 0, 6, 1), 2);
        due("5 by 5", minutesOf(0, 0, 5, 0, 5, 1), 1);
        due("1 by 5", minutesOf(0, 0, 5, 0, 1, 1), 1);
        due("0 by 5", minutesOf(0, 0, 5, 0, 9, 0), 0);
        due("81 by 1", minutesOf(0, 0, 1, 0, 9, 9), 81);
        for (int pace = 1; pace <= 5; pace++) {
            for (int weight = 1; weight <= 9; weight++) {
                for (int to = 0; to < 10; to++) {
                    int load = weight * to;
                    due(load + " by " + pace, minutesOf(0, 0, pace, 0, weight, to), load / pace + (load % pace > 0 ? 1 : 0));
                }
            }
        }
        heavyAndCart();
        says(14, "MINUTES of a WORK, as all stands now. BAD.");
        int[] want = {0, 0, 7, 3, 16};
        for (int w = 0; w < 5; w++) {
            int work = w;
            idle("minutes(" + w + ")", OrderEdges::busy, x -> x.minutes(work), want[w]);
        }
        for (int w : new int[] {-1, 5, 6, LOW, HIGH}) {
            idle("minutes(" + w + ")", OrderEdges::busy, x -> x.minutes(w), BAD);
        }
        idle("minutes(5) of six", OrderEdges::full, x -> x.minutes(5), 0);
        idle("minutes(6) of six", OrderEdges::full, x -> x.minutes(6), BAD);
    }

    static void heavyAndCart() {
        says(14, "WALK of the next MOVER (by numbers, the first behind the last; of one alone his own again), who comes along");
        due("one alone", minutesOf(1, 2, 1, 5, 1, 5), 6);
        due("one alone, slow", minutesOf(3, 2, 1, 5, 1, 5), 12);
        int[] at = {0, 4, 9};
        for (int mover = 0; mover < 3; mover++) {
            OneMoves x = of("mover 0 1;mover 4 1;mover 9 1;thing 6 1;");
            x.work(1, mover, 0, 6, 0, 0);
            int next = (mover + 1) % 3;
            due("heavy, of mover " + mover, x.minutes(0), Math.abs(6 - at[mover]) + Math.abs(6 - at[next]));
            x.does(0);
            for (int k = 0; k < 3; k++) due("at(0, " + k + ")", x.at(0, k), k == mover || k == next ? 6 : at[k]);
        }
        says(14, "cart: as work, and 1 for each other THING at that PLACE; these come along.");
        for (int others = 0; others < 6; others++) {
            OneMoves x = of("mover 0 1;" + "thing 3 1;".repeat(others + 1) + "thing 4 1;".repeat(5 - others) + "cart 0 0 to 5 by 0 for 0;");
            due("cart, others " + others, x.minutes(0), 5 + others);
            x.does(0);
            for (int k = 0; k < 6; k++) due("at(1, " + k + ")", x.at(1, k), k <= others ? 5 : 4);
        }
        for (int kind : new int[] {2, 4}) {
            OneMoves x = of("mover 0 1;" + "thing 3 1;".repeat(3) + "thing 4 1;".repeat(3));
            x.work(kind, 0, 2, 5, 0, 0);
            due("others ahead of it by numbers, kind " + kind, x.minutes(0), kind == 2 ? 7 : 4);
            x.does(0);
            for (int k = 0; k < 6; k++) due("at(1, " + k + ")", x.at(1, k), k < 3 ? 5 : 4);
        }
        says(14, "quick: half of what cart takes, any rest counted as one.");
        int[] halves = {0, 1, 1, 2, 2, 3};
        for (int n = 0; n < 6; n++) due("half of " + n, minutesOf(4, 0, 1, 0, 1, n), halves[n]);
        for (int others = 0; others < 6; others++) {
            OneMoves x = of("mover 0 1;" + "thing 0 1;".repeat(others + 1) + "quick 0 0 to 0 by 0 for 0;");
            due("half of " + others + " others", x.minutes(0), halves[others]);
        }
        says(14, "slow: twice what heavy takes.");
        due("twice 0", minutesOf(3, 4, 1, 4, 1, 4), 0);
        due("twice 99", minutesOf(3, 9, 1, 0, 9, 9), 198);
        says(14, "own: CARRY alone, with PACE 1; the MOVER stays where he is.");
        due("pace 5", minutesOf(5, 9, 5, 0, 9, 9), 81);
        due("pace 1", minutesOf(5, 9, 1, 0, 9, 9), 81);
        OneMoves x = of("mover 9 5;thing 0 1;own 0 0 to 1 by 9 for 9;");
        x.does(0);
        due("at(0, 0)", x.at(0, 0), 9);
        due("at(1, 0)", x.at(1, 0), 1);
    }

    static void may() {
        says(15, "Open WORKS that aren't BEHIND an open one (a set).");
        idle("may()", OneMoves::new, x -> x.may(), 0);
        idle("may() of busy", OrderEdges::busy, x -> x.may(), 4 + 16);
        idle("may() of six", OrderEdges::full, x -> x.may(), 63);
        idle("none is open", OrderEdges::through, x -> x.may(), 0);
        OneMoves x = full();
        for (int w = 1; w < 6; w++) x.behind(w, w - 1, 0);
        for (int w = 0; w < 6; w++) {
            due("one behind the other", x.may(), 1 << w);
            x.does(w);
        }
        due("none", x.may(), 0);
    }

    /** The minute at which so many are over that aren't water's, told minute by minute. */
    static int afterWater(int water, int begin, int n) {
        int minute = begin;
        for (int left = n; left > 0; minute++) if (minute % 10 >= water) left--;
        return minute;
    }

    static void water() {
        says(16, "In each ten minutes (0 to 9, 10 to 19, ..) the first WATER ones are water's: they pass and nothing is done in them.");
        for (int water = 0; water < 10; water++) {
            for (int begin = 0; begin < 21; begin++) {
                for (int n : new int[] {0, 1, 2, 5, 8, 9, 10, 12, 20, 81}) {
                    OneMoves x = lasting(n);
                    x.set(0, water);
                    x.pass(begin);
                    x.does(0);
                    due("water " + water + ", from " + begin + ", minutes " + n, x.minute(), afterWater(water, begin, n));
                }
            }
        }
        OneMoves x = lasting(7, 1, 0);
        x.set(0, 3);
        x.does(0);
        due("7 of the first ten", x.minute(), 10);
        x.does(2);
        due("no minutes in water's", x.minute(), 10);
        x.does(1);
        due("1 more", x.minute(), 14);
    }

    /** Work 0 ends at 10; work 1 is behind it, within so many minutes; so many have passed then. */
    static OneMoves waited(int within, int minutes) {
        OneMoves x = lasting(0, 5);
        x.behind(1, 0, within);
        x.pass(10);
        x.does(0);
        x.pass(minutes);
        return x;
    }

    static void spoilt() {
        says(16, "WITHIN n of one that ended more than n minutes ahead (MINUTE less its end), is spoilt when its turn comes: it takes no minutes, nothing is moved.");
        for (int within : new int[] {1, 2, 99}) {
            OneMoves x = waited(within, within);
            due("not more than " + within, x.does(1), 50);
            due("done", x.workOf(1, 8), 1);
            due("minute()", x.minute(), 15 + within);
            due("at(1, 1)", x.at(1, 1), 5);
            OneMoves y = waited(within, within + 1);
            due("more than " + within, y.does(1), 0);
            due("spoilt", y.workOf(1, 8), 2);
            due("no minutes", y.minute(), 11 + within);
            due("nothing is moved", y.at(1, 1), 0);
            due("it has no end", y.workOf(1, 9), -9);
        }
        says(16, "(0: at any time; 99 at most)");
        due("999 minutes behind", waited(0, 999).does(1), 35);
        says(16, "A WORK that is BEHIND one that is spoilt");
        OneMoves x = lasting(0, 1, 1, 1);
        x.behind(1, 0, 1);
        x.behind(2, 1, 99);
        x.behind(3, 2, 0);
        x.does(0);
        x.pass(2);
        due("does(1)", x.does(1), 0);
        due("behind a spoilt one, within 99", x.does(2), 0);
        due("behind that, at any time", x.does(3), 0);
        for (int w = 1; w < 4; w++) due("spoilt", x.workOf(w, 8), 2);
        due("minute()", x.minute(), 2);
        OneMoves y = busy();
        y.behind(2, 1, 0);
        due("told to be behind a spoilt one", y.does(2), 0);
        y.behind(4, 1, 0);
        y.behind(4, -1, 0);
        due("and not so any more", y.does(4) > 0 ? 1 : 0, 1);
    }

    /** A work of 20 minutes, due then, for so much: what does() answers. */
    static int worthOf(int due, int worth) {
        OneMoves x = of("mover 0 1;thing 0 4;");
        x.work(5, 0, 0, 5, due, worth);
        return x.does(0);
    }

    static void does() {
        says(16, "WORTH if it ends at DUE or ahead, else less by 1 for each minute that it is later, 0 at least; spoilt 0.");
        due("ahead", worthOf(999, 15), 15);
        due("a minute ahead", worthOf(21, 15), 15);
        due("at DUE", worthOf(20, 15), 15);
        due("a minute later", worthOf(19, 15), 14);
        due("14 later", worthOf(6, 15), 1);
        due("15 later", worthOf(5, 15), 0);
        due("16 later", worthOf(4, 15), 0);
        due("20 later", worthOf(0, 99), 79);
        due("of none, at DUE", worthOf(20, 0), 0);
        due("of none, later", worthOf(19, 0), 0);
        says(16, "A WORK is DONE (or spoilt): its WORTH. BAD; STATE: it isn't open, or BEHIND an open one.");
        for (int w : new int[] {-1, 5, 6, LOW, HIGH}) {
            idle("does(" + w + ")", OrderEdges::busy, x -> x.does(w), BAD);
        }
        idle("does(6) of six", OrderEdges::full, x -> x.does(6), BAD);
        due("does(5) of six", full().does(5), 1);
        idle("a done one", OrderEdges::busy, x -> x.does(0), STATE);
        idle("a spoilt one", OrderEdges::busy, x -> x.does(1), STATE);
        idle("behind an open one", OrderEdges::busy, x -> x.does(3), STATE);
        OneMoves x = busy();
        due("that one", x.does(2) >= 0 ? 1 : 0, 1);
        due("behind one that is done", x.does(3) >= 0 ? 1 : 0, 1);
        says(16, "A WORK is DONE: when it ends, the MINUTE is that.");
        OneMoves y = lasting(20);
        y.does(0);
        due("minute()", y.minute(), 20);
        due("workOf(0, 9)", y.workOf(0, 9), 20);
    }

    static void had() {
        says(17, "WORTH of all that were done, together.");
        idle("none", OneMoves::new, x -> x.had(), 0);
        idle("one that is done, one spoilt, three open", OrderEdges::busy, x -> x.had(), 40);
        OneMoves x = of("mover 0 1;thing 0 1;" + "own 0 0 to 0 by 0 for 99;".repeat(6));
        for (int w = 0; w < 6; w++) x.does(w);
        due("as much as can be", x.had(), 594);
        OneMoves y = lasting(3, 4);
        y.does(0);
        y.does(0);
        y.does(7);
        due("refused ones add nothing", y.had(), 50);
    }

    static void digitsTold() {
        says(18, "digits to the base 8, the first WORK the lowest). BAD: not each open WORK once, or more digits; STATE: it isn't allowed.");
        OneMoves x = lasting(3, 4, 5);
        due("2 0 1", x.ends(digits(2, 0, 1), 2), 5);
        due("2 0 1, then", x.ends(digits(2, 0, 1), 0), 8);
        due("all six", full().worth(digits(5, 4, 3, 2, 1, 0)), 6);
        // of busy 2, 3 and 4 are open, 3 is behind 2
        int right = busy().worth(digits(2, 3, 4)) >= 0 ? 1 : 0;
        due("each open one", right, 1);
        int[] bad = {digits(2, 3), digits(2, 3, 3), digits(2, 3, 4, 4), digits(2, 3, 4, 0, 1), digits(0, 2, 3, 4), digits(2, 3, 5),
            digits(2, 3, 7), digits(2, 3, 4) | 1 << 9, digits(2, 3, 4) | 1 << 30, digits(2, 3, 4) | LOW, 0, -1, LOW, HIGH,
            digits(3, 3, 2), digits(3, 2, 2)};
        for (int d : bad) {
            idle("worth(" + d + ")", OrderEdges::busy, y -> y.worth(d), BAD);
            says(19, "The MINUTE at which an open WORK ends in an ORDER (-9: it is spoilt). BAD; STATE.");
            idle("ends(" + d + ", 2)", OrderEdges::busy, y -> y.ends(d, 2), BAD);
            says(23, "MEAN of an ORDER. BAD; STATE.");
            for (int part = 0; part < 2; part++) idle("mean(" + d + ")", OrderEdges::busy, meanOf(d, part), BAD);
            says(24, "SURE of an ORDER. BAD; STATE.");
            for (int part = 0; part < 2; part++) idle("sure(" + d + ")", OrderEdges::busy, sureOf(d, part), BAD);
            says(18, "digits to the base 8, the first WORK the lowest). BAD: not each open WORK once, or more digits; STATE: it isn't allowed.");
        }
        due("six, and a seventh digit", full().worth(digits(0, 1, 2, 3, 4, 5) | 1 << 18), BAD);
        due("none is open, 0", through().worth(0), 0);
        due("none is open, 1", through().worth(1), BAD);
        due("none is open, 8", through().worth(8), BAD);
        due("none is open, LOW", through().worth(LOW), BAD);
    }

    static Call meanOf(int digits, int part) {
        return x -> x.mean(digits, part);
    }

    static Call sureOf(int digits, int part) {
        return x -> x.sure(digits, part);
    }

    static void allowed() {
        int[][] orders = {{3, 2, 4}, {3, 4, 2}, {4, 3, 2}};
        for (int[] order : orders) {
            int d = digits(order);
            says(18, "it is allowed, if each stands behind the one that it is BEHIND (or that isn't open any more)");
            idle("worth(" + d + ")", OrderEdges::busy, x -> x.worth(d), STATE);
            says(19, "The MINUTE at which an open WORK ends in an ORDER (-9: it is spoilt). BAD; STATE.");
            idle("ends(" + d + ", 4)", OrderEdges::busy, x -> x.ends(d, 4), STATE);
            says(23, "MEAN of an ORDER. BAD; STATE.");
            idle("mean(" + d + ")", OrderEdges::busy, meanOf(d, 0), STATE);
            says(24, "SURE of an ORDER. BAD; STATE.");
            idle("sure(" + d + ")", OrderEdges::busy, sureOf(d, 1), STATE);
        }
        says(18, "it is allowed, if each stands behind the one that it is BEHIND (or that isn't open any more)");
        for (int[] order : new int[][] {{2, 3, 4}, {2, 4, 3}, {4, 2, 3}}) {
            due("allowed", busy().worth(digits(order)) >= 0 ? 1 : 0, 1);
        }
        OneMoves x = busy();
        x.does(2);
        due("that one isn't open any more", x.worth(digits(3, 4)) >= 0 ? 1 : 0, 1);
        says(18, "ORDER: all WORKS that are open, one behind the other");
        due("none", new OneMoves().worth(0), 0);
    }

    static void ends() {
        says(19, "The MINUTE at which an open WORK ends in an ORDER (-9: it is spoilt). BAD; STATE.");
        int d = digits(2, 3, 4);
        for (int w : new int[] {-1, 0, 1, 5, 6, LOW, HIGH}) {
            idle("ends(.., " + w + ")", OrderEdges::busy, x -> x.ends(d, w), BAD);
            idle("ends of what isn't allowed, " + w, OrderEdges::busy, x -> x.ends(digits(3, 2, 4), w), BAD);
        }
        OneMoves x = lasting(0, 4, 5);
        x.behind(2, 0, 4);
        due("4 minutes behind it, within 4", x.ends(digits(0, 1, 2), 2), 9);
        x.behind(2, 0, 3);
        due("4 minutes behind it, within 3", x.ends(digits(0, 1, 2), 2), -9);
        due("at once", x.ends(digits(0, 2, 1), 2), 5);
        idle("ends of no order", OneMoves::new, y -> y.ends(0, 0), BAD);
        says(19, "They are done so, from now on.");
        x.pass(7);
        due("from 7 on", x.ends(digits(0, 2, 1), 1), 16);
    }

    static void best() {
        says(20, "BEST: WORTH (what 0), the ORDER as digits (1). BAD.");
        due("best(0)", lasting(3, 4).best(0), 100);
        due("best(1)", lasting(3, 4).best(1), digits(0, 1));
        for (int what : new int[] {-1, 2, LOW, HIGH}) idle("best(" + what + ")", OrderEdges::busy, x -> x.best(what), BAD);
        idle("none, worth", OneMoves::new, x -> x.best(0), 0);
        idle("none, order", OneMoves::new, x -> x.best(1), 0);
        idle("none is open, worth", OrderEdges::through, x -> x.best(0), 0);
        idle("none is open, order", OrderEdges::through, x -> x.best(1), 0);
        idle("six alike", OrderEdges::full, x -> x.best(1), digits(0, 1, 2, 3, 4, 5));
        says(20, "of all that are allowed the ORDER with the most WORTH together, of several the first (by numbers)");
        // 0 1 2: 4, 9, 15; the later two change nothing till one is due
        OneMoves x = of("mover 0 1;thing 0 1;thing 0 1;thing 0 1;own 0 0 to 4 by 99 for 9;own 0 1 to 5 by 11 for 9;own 0 2 to 6 by 6 for 9;");
        due("all in time: 2 1 0 alone", x.best(1), digits(2, 1, 0));
        due("27", x.best(0), 27);
        OneMoves y = of("mover 0 1;thing 0 1;thing 0 1;thing 0 1;own 0 0 to 4 by 99 for 9;own 0 1 to 5 by 15 for 9;own 0 2 to 6 by 6 for 9;");
        due("2 0 1 is as good as 2 1 0", y.best(1), digits(2, 0, 1));
        y.behind(2, 0, 0);
        due("2 may not be the first", y.best(1), digits(0, 2, 1));
        due("9, 9, 5", y.best(0), 23);
    }

    static void fewest() {
        says(21, "FEWEST: the least number of WORKS that end later than DUE or are spoilt, of all that are allowed.");
        idle("none", OneMoves::new, x -> x.fewest(), 0);
        idle("none is open", OrderEdges::through, x -> x.fewest(), 0);
        due("at DUE", of("mover 0 1;thing 0 1;own 0 0 to 4 by 4 for 0;").fewest(), 0);
        due("a minute later", of("mover 0 1;thing 0 1;own 0 0 to 4 by 3 for 0;").fewest(), 1);
        due("all six", of("mover 0 1;thing 0 1;water 1;bell 2;" + "work 0 0 to 1 by 0 for 9;".repeat(6)).fewest(), 6);
        due("of busy", busy().fewest() >= 0 ? 1 : 0, 1);
        due("not spoilt", waited(3, 3).fewest(), 0);
        due("spoilt", waited(3, 4).fewest(), 1);
        // 5 ends at its DUE if it is the first, and 3 then late or not
        due("one order of two", of("mover 0 1;thing 0 1;thing 0 1;own 0 0 to 3 by 8 for 0;own 0 1 to 5 by 5 for 0;").fewest(), 0);
        due("either of two", of("mover 0 1;thing 0 1;thing 0 1;own 0 0 to 3 by 7 for 0;own 0 1 to 5 by 5 for 0;").fewest(), 1);
        OneMoves x = lasting(0, 4, 5);
        x.behind(2, 0, 3);
        due("spoilt in one order alone", x.fewest(), 0);
        x.behind(1, 0, 3);
        due("spoilt in all that are allowed", x.fewest(), 1);
    }

    static void shortest() {
        says(22, "SHORTEST: the least MINUTE at which all are through.");
        idle("none", OneMoves::new, x -> x.shortest(), 0);
        idle("none is open", OrderEdges::through, x -> x.shortest(), 2);
        due("3 and 4", lasting(3, 4).shortest(), 7);
        due("not spoilt", waited(3, 3).shortest(), 18);
        due("a spoilt one takes no minutes", waited(3, 4).shortest(), 14);
        // ways of one mover: 2 there, 1 carried, 8 there; else 9 there, 7 there, 1 carried
        String street = "mover 0 1;thing 9 1;thing 2 1;work 0 0 to 9 by 0 for 0;work 0 1 to 1 by 0 for 0;";
        due("the second first: 2, 1, 8", of(street).shortest(), 11);
        OneMoves y = of(street);
        y.behind(1, 0, 0);
        due("that isn't allowed: 9, 7, 1", y.shortest(), 17);
        idle("no minutes in water's", () -> lasting(0, 0), x -> x.shortest(), 0);
        OneMoves x = lasting(9);
        x.set(0, 1);
        due("9 of the first ten", x.shortest(), 10);
        x.set(0, 2);
        due("1 of the next", x.shortest(), 13);
    }

    /** Six works of no minutes, due now; the doctor makes all behind him a minute late. */
    static OneMoves sixDueNow(int call) {
        OneMoves x = of("mover 0 1;thing 0 1;" + "own 0 0 to 0 by 0 for 1;".repeat(6));
        x.set(1, call);
        x.set(2, 1);
        return x;
    }

    static void meanAndSure() {
        int d = digits(0, 1, 2, 3, 4, 5);
        says(23, "A part of a fraction: 0 above the line, 1 below it, without a common divisor, below above 0 (0 is 0 by 1).");
        // 7 by 8, its square, .. its sixth power together: 7 * (8^6 - 7^6) by 8^6
        due("above", sixDueNow(1).mean(d, 0), 7 * (262144 - 117649));
        due("below", sixDueNow(1).mean(d, 1), 262144);
        // a half, a quarter, .. : 63 by 64
        due("above", sixDueNow(4).mean(d, 0), 63);
        due("below", sixDueNow(4).mean(d, 1), 64);
        says(23, "with odds CALL by 8, apart from each other, the doctor is called: LONG minutes (water's not counted) pass first");
        due("never: above", sixDueNow(0).mean(d, 0), 6);
        due("never: below", sixDueNow(0).mean(d, 1), 1);
        due("always: 0 is 0 by 1", sixDueNow(8).mean(d, 0), 0);
        due("always: 0 is 0 by 1", sixDueNow(8).mean(d, 1), 1);
        due("no works: above", new OneMoves().mean(0, 0), 0);
        due("no works: below", new OneMoves().mean(0, 1), 1);
        for (int part : new int[] {-1, 2, LOW, HIGH}) {
            idle("mean(.., " + part + ")", OrderEdges::busy, meanOf(digits(2, 3, 4), part), BAD);
            idle("mean of what isn't allowed, " + part, OrderEdges::busy, meanOf(digits(3, 2, 4), part), BAD);
        }
        idle("mean of none", OrderEdges::through, meanOf(0, 0), 0);
        longCalls();
        says(24, "with what odds none ends later than DUE or is spoilt");
        due("above", sixDueNow(1).sure(d, 0), 117649);
        due("below", sixDueNow(1).sure(d, 1), 262144);
        due("a half to the sixth", sixDueNow(4).sure(d, 0), 1);
        due("a half to the sixth", sixDueNow(4).sure(d, 1), 64);
        due("never called: 1 by 1", sixDueNow(0).sure(d, 0), 1);
        due("never called: 1 by 1", sixDueNow(0).sure(d, 1), 1);
        due("always called: 0 by 1", sixDueNow(8).sure(d, 0), 0);
        due("always called: 0 by 1", sixDueNow(8).sure(d, 1), 1);
        due("no works: above", new OneMoves().sure(0, 0), 1);
        due("no works: below", new OneMoves().sure(0, 1), 1);
        for (int part : new int[] {-1, 2, LOW, HIGH}) {
            idle("sure(.., " + part + ")", OrderEdges::busy, sureOf(digits(2, 3, 4), part), BAD);
            idle("sure of what isn't allowed, " + part, OrderEdges::busy, sureOf(digits(3, 2, 4), part), BAD);
        }
        // the doctor comes always, between them too: within LONG or one less
        OneMoves x = lasting(0, 0);
        x.set(1, 8);
        x.set(2, 30);
        x.behind(1, 0, 30);
        due("30 minutes, within 30", x.sure(digits(0, 1), 0), 1);
        x.behind(1, 0, 29);
        due("30 minutes, within 29: spoilt", x.sure(digits(0, 1), 0), 0);
    }

    static void longCalls() {
        says(23, "the doctor is called: LONG minutes (water's not counted) pass first");
        for (int minutes : new int[] {1, 30}) {
            OneMoves x = of("mover 0 1;thing 0 1;own 0 0 to 0 by 0 for 99;");
            x.set(1, 8);
            x.set(2, minutes);
            due("LONG " + minutes, x.mean(0, 0), 99 - minutes);
            x.set(0, 5);
            due("with water 5", x.mean(0, 0), 99 - afterWater(5, 0, minutes));
            x.pass(3);
            due("from water's", x.mean(0, 0), 99 - afterWater(5, 3, minutes));
        }
        OneMoves y = lasting(0, 0);
        y.behind(1, 0, 1);
        y.set(1, 8);
        y.set(2, 2);
        due("ahead of a spoilt one, too: 50 and 0", y.mean(digits(0, 1), 0), 50);
    }

    static void bellIs(int bell, int[] minutes, int... ends) {
        for (int w = 0; w < minutes.length; w++) {
            int work = w;
            idle("bell " + bell + ", work " + w, () -> belled(bell, minutes), x -> x.bell(work), ends[w]);
        }
    }

    static OneMoves belled(int bell, int[] minutes) {
        OneMoves x = lasting(minutes);
        x.set(3, bell);
        return x;
    }

    static void bell() {
        says(25, "open WORKS by numbers, again and again, each for BELL minutes (water's not counted) or till it ends, as long as they need");
        bellIs(3, new int[] {2, 1}, 2, 3);
        bellIs(3, new int[] {3, 3}, 3, 6);
        bellIs(3, new int[] {4, 3}, 7, 6);
        bellIs(3, new int[] {6, 7}, 9, 13);
        bellIs(1, new int[] {1, 1}, 1, 2);
        bellIs(1, new int[] {2, 1}, 3, 2);
        bellIs(20, new int[] {20, 1}, 20, 21);
        bellIs(20, new int[] {21, 1}, 22, 21);
        bellIs(1, new int[] {0, 0}, 0, 0);
        bellIs(3, new int[] {0, 5, 0}, 0, 5, 3);
        OneMoves slow = of("mover 9 1;" + "thing 0 9;".repeat(6) + "bell 1;");
        for (int w = 0; w < 6; w++) slow.work(3, 0, w, 9, 0, 0);
        due("six of 198 minutes each, as long as can be: the last", slow.bell(5), 6 * (2 * (9 + 81 + 9)));
        due("the first", slow.bell(0), 6 * (2 * (9 + 81 + 9)) - 5);
        OneMoves x = lasting(1, 1, 0);
        x.set(0, 9);
        x.set(3, 1);
        due("water's not counted", x.bell(0), 10);
        due("water's not counted", x.bell(1), 20);
        due("no minutes", x.bell(2), 20);
        says(25, "one that is BEHIND an open one waits (takes no minutes) till that has ended, and it may not be spoilt");
        OneMoves y = lasting(4, 1, 1);
        due("it doesn't wait", y.bell(1), 4);
        due("nor the other", y.bell(0), 6);
        y.behind(1, 0, 1);
        due("it waits", y.bell(1), 6);
        due("the other", y.bell(0), 5);
        due("and the third", y.bell(2), 4);
        y.behind(2, 1, 0);
        due("behind that", y.bell(2), 6);
        says(25, "(WITHIN counts nothing here.)");
        OneMoves z = waited(1, 90);
        due("not spoilt", z.bell(1), 105);
        says(25, "The MINUTE at which an open WORK ends BY THE BELL. BAD.");
        for (int w : new int[] {-1, 0, 1, 5, 6, LOW, HIGH}) idle("bell(" + w + ")", OrderEdges::busy, v -> v.bell(w), BAD);
        idle("bell(5) of six", OrderEdges::full, v -> v.bell(5), 0);
        idle("bell(6) of six", OrderEdges::full, v -> v.bell(6), BAD);
    }

    static void run() {
        minutes();
        may();
        water();
        spoilt();
        does();
        had();
        digitsTold();
        allowed();
        ends();
        best();
        fewest();
        shortest();
        meanAndSure();
        bell();
    }
}

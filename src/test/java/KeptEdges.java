/** Edges of "---- kept". */
final class KeptEdges extends Answers {
    static void keep() {
        says(43, "All but THE TAPE, ROWS, SHEETS, SHELVES, THE TRACE is kept: 1.");
        due("keep()", new OneMoves().keep(), 1);
        due("keep() of much", busy().keep(), 1);
        OneMoves x = busy();
        x.keep();
        changeAll(x);
        x.again();
        OneMoves y = busy();
        int[] many = {2, 3, 5, 3, 3};
        for (int what = 0; what < 5; what++) due("many(" + what + ")", x.many(what), many[what]);
        due("minute()", x.minute(), 17);
        due("had()", x.had(), 40);
        for (int w = 0; w < 5; w++) {
            for (int what = 0; what < 10; what++) due("workOf(" + w + ", " + what + ")", x.workOf(w, what), y.workOf(w, what));
            due("minutes(" + w + ")", x.minutes(w), y.minutes(w));
        }
        for (int k = 0; k < 2; k++) due("at(0, " + k + ")", x.at(0, k), y.at(0, k));
        for (int k = 0; k < 3; k++) due("at(1, " + k + ")", x.at(1, k), y.at(1, k));
        for (int law = 0; law < 4; law++) due("law " + law, x.set(law, 1), y.set(law, 1));
        int[][] rules = {{4, 7}, {3, 5}, {5, 2}};
        for (int r = 0; r < 3; r++) {
            for (int what = 0; what < 2; what++) due("ruleOf(" + r + ", " + what + ")", x.ruleOf(r, what), rules[r][what]);
        }
        due("a fourth rule is none any more", x.ruleOf(3, 0), BAD);
    }

    /** Everything that is kept becomes another one, and everything that isn't. */
    static void changeAll(OneMoves x) {
        x.mover(0, 5);
        x.thing(9, 9);
        x.work(5, 2, 3, 0, 5, 5);
        x.behind(4, 3, 8);
        x.put(0, 1, 0);
        x.put(1, 2, 0);
        x.rule(1, 1);
        for (int law = 0; law < 4; law++) x.set(law, 7);
        x.sheet(0, 2, 1);
        x.dues(0);
        x.does(2);
        x.prove();
        x.shelf(0, 2, 0);
        x.shelf(3, 0, 3);
        x.act(2, 0, 1);
        x.feed(0, 5);
    }

    static void notKept() {
        says(43, "All but THE TAPE, ROWS, SHEETS, SHELVES, THE TRACE is kept: 1.");
        OneMoves x = busy();
        x.keep();
        changeAll(x);
        int rows = x.many(5);
        int work = x.row(0, 0);
        x.again();
        due("rows are those of now", x.many(5), rows);
        due("rows are those of now", x.row(0, 0), work);
        due("the tape is that of now", x.many(6), 57);
        due("a sheet is that of now", x.item(0, 2, 1), -12);
        due("a shelf is that of now", x.taken(0, 0), -11);
        due("that one's rule is none any more", x.taken(3, 0), -11);
        due("the trace is that of now", x.many(7), 1);
        due("the trace is that of now", x.trace(0), 10);
    }

    static void again() {
        says(44, "It becomes what was kept latest (which stays): how many WORKS. NONE: nothing is kept.");
        idle("a new one", OneMoves::new, x -> x.again(), NONE);
        idle("nothing kept", KeptEdges::full, x -> x.again(), NONE);
        idle("nothing kept", KeptEdges::through, x -> x.again(), NONE);
        OneMoves x = new OneMoves();
        x.keep();
        x.mover(1, 1);
        due("nothing is kept, too", x.again(), 0);
        due("many(0)", x.many(0), 0);
        OneMoves y = busy();
        due("five works", y.again(), 5);
        due("all open", y.many(3), 5);
        y.does(0);
        y.does(2);
        due("it stays", y.again(), 5);
        due("all open", y.many(3), 5);
        y.does(0);
        y.keep();
        y.does(2);
        due("the latest", y.again(), 5);
        due("four open", y.many(3), 4);
        due("six works", sixKept().again(), 6);
        says(44, "RULES stay.");
        OneMoves z = busy();
        z.town();
        due("town() leaves it kept", z.again(), 5);
        due("two rules were kept", z.many(4), 2);
        keptIsApart();
    }

    static OneMoves sixKept() {
        OneMoves x = full();
        x.keep();
        told(x, "");
        return x;
    }

    /** Neither what comes later nor a second again() may reach into what is kept. */
    static void keptIsApart() {
        says(44, "It becomes what was kept latest (which stays): how many WORKS. NONE: nothing is kept.");
        OneMoves x = busy();
        x.again();
        changeAll(x);
        x.again();
        OneMoves y = busy();
        y.again();
        for (int w = 0; w < 6; w++) {
            for (int what = 0; what < 10; what++) due("workOf(" + w + ", " + what + ")", x.workOf(w, what), y.workOf(w, what));
            due("minutes(" + w + ")", x.minutes(w), y.minutes(w));
        }
        for (int what = 0; what < 5; what++) due("many(" + what + ")", x.many(what), y.many(what));
        due("minute()", x.minute(), 0);
        due("had()", x.had(), 0);
        due("at(0, 1)", x.at(0, 1), 7);
        due("at(1, 2)", x.at(1, 2), 9);
    }

    static void run() {
        keep();
        notKept();
        again();
    }
}

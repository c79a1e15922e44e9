import java.util.List;

/** Edges of "---- the host". */
final class HostEdges extends Answers {
    static OneMoves sheeted(int sort, int n) {
        OneMoves x = busy();
        x.sheet(3, sort, n);
        return x;
    }

    static void sheet() {
        says(35, "SHEETS 0 to 3 are rows of bytes (sort 0), shorts (1), ints (2) or longs (3), 40 at most, or missing");
        for (int sort = 0; sort < 4; sort++) {
            for (int n : new int[] {0, 1, 39, 40}) {
                OneMoves x = busy();
                due("sheet(3, " + sort + ", " + n + ")", x.sheet(3, sort, n), 1);
                due("the last item", x.item(3, sort, n - 1), n == 0 ? -12 : 0);
                due("behind it", x.item(3, sort, n), -12);
                x.shelf(0, 1, 3);
                due("how many", x.taken(0, 10 + sort), n);
            }
            int itsSort = sort;
            for (int n : new int[] {41, 42, HIGH}) idle("sheet(0, " + sort + ", " + n + ")", HostEdges::busy, x -> x.sheet(0, itsSort, n), BAD);
            for (int n : new int[] {-1, -2, LOW}) idle("sheet(0, " + sort + ", " + n + ")", HostEdges::busy, x -> x.sheet(0, itsSort, n), -14);
        }
        says(35, "BAD: no such SHEET, sort, n above 40; -14.");
        for (int s : new int[] {-1, 4, LOW, HIGH}) {
            for (int n : new int[] {1, 41, -1}) idle("sheet(" + s + ", 0, " + n + ")", HostEdges::busy, x -> x.sheet(s, 0, n), BAD);
            idle("sheet(" + s + ", -1, 0)", HostEdges::busy, x -> x.sheet(s, -1, 0), BAD);
        }
        for (int sort : new int[] {-2, 4, LOW, HIGH}) {
            for (int n : new int[] {1, 41, -1}) idle("sheet(0, " + sort + ", " + n + ")", HostEdges::busy, x -> x.sheet(0, sort, n), BAD);
        }
        says(35, "A SHEET becomes a row of n of a sort, all 0, or missing (sort -1; n counts nothing then): 1.");
        for (int n : new int[] {0, -1, 40, 41, LOW, HIGH}) {
            OneMoves x = busy();
            due("sheet(0, -1, " + n + ")", x.sheet(0, -1, n), 1);
            due("missing", x.item(0, 2, 1), -11);
            due("another one isn't", x.item(1, 0, 0), -7);
        }
        OneMoves x = busy();
        due("written", x.item(0, 2, 1), 44);
        due("sheet(0, 2, 3)", x.sheet(0, 2, 3), 1);
        due("all 0", x.item(0, 2, 1), 0);
        OneMoves y = new OneMoves();
        y.sheet(1, 3, 40);
        for (int i = 0; i < 40; i++) y.write(1, i, 5);
        y.sheet(1, 0, 2);
        y.sheet(1, 1, 40);
        for (int i = 0; i < 40; i++) due("all 0: " + i, y.item(1, 1, i), 0);
        due("others stay missing", y.item(0, 0, 0), -11);
    }

    static void narrowed(int sort, int v, int want) {
        OneMoves x = sheeted(sort, 2);
        due("write " + v + " to sort " + sort, x.write(3, 1, v), 1);
        due("item " + v + " of sort " + sort, x.item(3, sort, 1), want);
        due("its neighbour", x.item(3, sort, 0), 0);
    }

    static void write() {
        says(36, "Item i becomes v, narrowed to its sort: 1.");
        int[][] bytes = {{127, 127}, {128, -128}, {-128, -128}, {-129, 127}, {255, -1}, {256, 0}, {LOW, 0}, {HIGH, -1}};
        int[][] shorts = {{32767, 32767}, {32768, -32768}, {-32768, -32768}, {-32769, 32767}, {65535, -1}, {65536, 0}, {LOW, 0}, {HIGH, -1}};
        for (int[] pair : bytes) narrowed(0, pair[0], pair[1]);
        for (int[] pair : shorts) narrowed(1, pair[0], pair[1]);
        for (int v : new int[] {0, -1, 65536, LOW, HIGH}) {
            narrowed(2, v, v);
            narrowed(3, v, v);
        }
        says(36, "BAD: no such SHEET; -11; -12.");
        for (int s : new int[] {-1, 4, LOW, HIGH}) {
            idle("write(" + s + ", 0, 9)", HostEdges::busy, x -> x.write(s, 0, 9), BAD);
            idle("write(" + s + ", -1, 9)", HostEdges::busy, x -> x.write(s, -1, 9), BAD);
        }
        for (int i : new int[] {-1, 0, 40}) idle("write(3, " + i + ", 9)", HostEdges::busy, x -> x.write(3, i, 9), -11);
        for (int k = 0; k < 4; k++) {
            int sort = k;
            for (int i : new int[] {-1, 3, 39, 40, LOW, HIGH}) {
                idle("write(3, " + i + ", 9) of 3", () -> sheeted(sort, 3), x -> x.write(3, i, 9), -12);
            }
            idle("write(3, 40, 9) of 40", () -> sheeted(sort, 40), x -> x.write(3, 40, 9), -12);
            due("write(3, 39, 9) of 40", sheeted(sort, 40).write(3, 39, 9), 1);
            idle("write(3, 0, 9) of none", () -> sheeted(sort, 0), x -> x.write(3, 0, 9), -12);
            due("write(3, 0, 9) of one", sheeted(sort, 1).write(3, 0, 9), 1);
        }
    }

    static void item() {
        says(37, "BAD: no such SHEET, sort; -11; -13; -12. (An item may be as low as these, too.)");
        for (int s : new int[] {-1, 4, LOW, HIGH}) {
            for (int sort : new int[] {0, 9}) idle("item(" + s + ", " + sort + ", 0)", HostEdges::busy, x -> x.item(s, sort, 0), BAD);
        }
        for (int sort : new int[] {-1, 4, LOW, HIGH}) {
            idle("item(0, " + sort + ", 0)", HostEdges::busy, x -> x.item(0, sort, 0), BAD);
            idle("item(3, " + sort + ", 0), missing", HostEdges::busy, x -> x.item(3, sort, 0), BAD);
        }
        for (int k = 0; k < 4; k++) {
            int as = k;
            for (int i : new int[] {-1, 0, 40}) idle("missing, as " + as, HostEdges::busy, x -> x.item(3, as, i), -11);
            for (int s = 0; s < 4; s++) {
                int sort = s;
                Maker three = () -> sheeted(sort, 3);
                for (int i : new int[] {0, 2}) idle("sort " + sort + " as " + as, three, x -> x.item(3, as, i), as == sort ? 0 : -13);
                for (int i : new int[] {-1, 3, 40, LOW, HIGH}) {
                    idle("sort " + sort + " as " + as + ", item " + i, three, x -> x.item(3, as, i), as == sort ? -12 : -13);
                }
            }
        }
        for (int v : new int[] {-1, -11, -12, -13}) {
            OneMoves x = sheeted(0, 1);
            x.write(3, 0, v);
            due("an item as low", x.item(3, 0, 0), v);
        }
        says(37, "Item i, taken for a sort (0 to 3; of longs the lowest 32 bits).");
        for (int v : new int[] {LOW, -1, 0, HIGH}) {
            OneMoves x = sheeted(3, 40);
            x.write(3, 39, v);
            due("a long " + v, x.item(3, 3, 39), v);
        }
    }

    static void shelf() {
        says(38, "A SHELF holds RULE n (what 0), the row of SHEET n (1; nothing, if missing), nothing (2): 1. BAD: no such SHELF, what, thing.");
        for (int s : new int[] {0, 3}) {
            OneMoves x = busy();
            due("shelf(" + s + ", 0, 0)", x.shelf(s, 0, 0), 1);
            due("taken", x.taken(s, 4), 0);
            due("shelf(" + s + ", 0, 2)", x.shelf(s, 0, 2), 1);
            due("taken", x.taken(s, 5), 2);
            due("shelf(" + s + ", 1, 0)", x.shelf(s, 1, 0), 1);
            due("taken", x.taken(s, 12), 3);
            due("shelf(" + s + ", 1, 3), missing", x.shelf(s, 1, 3), 1);
            due("taken", x.taken(s, 12), -11);
        }
        for (int s : new int[] {-1, 4, LOW, HIGH}) {
            for (int what = 0; what < 3; what++) {
                int w = what;
                idle("shelf(" + s + ", " + what + ", 0)", HostEdges::busy, x -> x.shelf(s, w, 0), BAD);
            }
        }
        for (int what : new int[] {-1, 3, LOW, HIGH}) idle("shelf(0, " + what + ", 0)", HostEdges::busy, x -> x.shelf(0, what, 0), BAD);
        for (int n : new int[] {-1, 3, 4, LOW, HIGH}) idle("shelf(0, 0, " + n + ")", HostEdges::busy, x -> x.shelf(0, 0, n), BAD);
        for (int n : new int[] {-1, 4, LOW, HIGH}) idle("shelf(0, 1, " + n + ")", HostEdges::busy, x -> x.shelf(0, 1, n), BAD);
        due("the fourth rule", full().shelf(0, 0, 3), 1);
        idle("a fifth rule", HostEdges::full, x -> x.shelf(0, 0, 4), BAD);
        for (int n : new int[] {0, -1, 99, LOW, HIGH}) {
            OneMoves x = busy();
            due("shelf(0, 2, " + n + ")", x.shelf(0, 2, n), 1);
            due("nothing", x.taken(0, 0), -11);
        }
        says(38, "SHELVES 0 to 3 hold a RULE (by its number; nothing, if there is no such one any more), a SHEET's row, or nothing");
        OneMoves x = busy();
        x.again();
        due("rule 2 is none any more", x.taken(2, 0), -11);
        due("nor is an act of it", x.act(2, 0, 7), 0);
        due("rule 1 still is one", x.taken(0, 3), 1);
        due("a row stays", x.taken(1, 12), 3);
        x.rule(1, 9);
        due("rule 2 by its number", x.taken(2, 1), 2);
    }

    static OneMoves held(int kind) {
        OneMoves x = new OneMoves();
        x.rule(kind, 7);
        x.shelf(3, 0, 0);
        return x;
    }

    static OneMoves heldRow(int sort, int n) {
        OneMoves x = new OneMoves();
        x.sheet(2, sort, n);
        x.shelf(3, 1, 2);
        return x;
    }

    static void taken() {
        says(39, "taken for a thing of KIND as (0 to 5, or one under it): its number");
        String[] kindsAbove = {"", "01", "02", "023", "014", "05"};
        for (int k = 1; k <= 5; k++) {
            int kind = k;
            for (int a = 0; a < 6; a++) {
                int as = a;
                boolean is = kindsAbove[kind].indexOf('0' + as) >= 0;
                idle("kind " + kind + " as " + as, () -> held(kind), x -> x.taken(3, as), is ? 0 : -13);
            }
            for (int as = 10; as < 14; as++) {
                int row = as;
                idle("kind " + kind + " as " + as, () -> held(kind), x -> x.taken(3, row), -13);
            }
        }
        says(39, "for a row of sort as - 10 (as 10 to 13): how many items");
        for (int k = 0; k < 4; k++) {
            int sort = k;
            for (int n : new int[] {0, 1, 40}) {
                for (int as = 10; as < 14; as++) {
                    int row = as;
                    idle("sort " + sort + " as " + as, () -> heldRow(sort, n), x -> x.taken(3, row), row == sort + 10 ? n : -13);
                }
                for (int as = 0; as < 6; as++) {
                    int kind = as;
                    idle("sort " + sort + " as " + as, () -> heldRow(sort, n), x -> x.taken(3, kind), -13);
                }
            }
        }
        says(39, "BAD: no such SHELF, as; -11; -13.");
        for (int as : new int[] {-1, 6, 7, 9, 14, LOW, HIGH}) {
            idle("a rule as " + as, () -> held(1), x -> x.taken(3, as), BAD);
            idle("a row as " + as, () -> heldRow(2, 3), x -> x.taken(3, as), BAD);
            idle("nothing as " + as, OneMoves::new, x -> x.taken(3, as), BAD);
        }
        for (int s : new int[] {-1, 4, LOW, HIGH}) {
            for (int as : new int[] {0, 10, 6}) idle("taken(" + s + ", " + as + ")", HostEdges::busy, x -> x.taken(s, as), BAD);
        }
        for (int as : new int[] {0, 5, 10, 13}) idle("nothing as " + as, HostEdges::busy, x -> x.taken(3, as), -11);
        due("shelf 0", busy().taken(0, 0), 1);
    }

    /** The bodies as a host would write them, from Model. */
    static Model.Rule bodies(int kind) {
        return switch (kind) {
            case 1 -> new Model.Turn();
            case 2 -> new Model.Soon();
            case 3 -> new Model.Worthy();
            case 4 -> new Model.Kind();
            default -> new Model.Told();
        };
    }

    static void actsAs(int kind, int n, int a) {
        OneMoves x = new OneMoves();
        for (int k = 0; k < n; k++) x.rule(1, 0);
        x.rule(kind, a);
        x.shelf(0, 0, n);
        Model.Rule thing = bodies(kind);
        thing.n = n;
        thing.a = a;
        for (int v : new int[] {0, 7, -7, LOW, LOW + 1, HIGH - 1, HIGH}) {
            for (int act = 0; act < 4; act++) {
                thing.trace.clear();
                long want;
                try {
                    want = act == 0 ? thing.moves(v) : act == 1 ? thing.calls(v) : act == 2 ? thing.shares(v) : thing.tells(v);
                } catch (ArithmeticException e) {
                    want = -15;
                }
                String name = "kind " + kind + ", n " + n + ", a " + a + ", act " + act + " of " + v;
                due(name, x.act(0, act, v), want);
                traceIs(x, thing.trace);
            }
        }
    }

    static void traceIs(OneMoves x, List<Integer> bodies) {
        due("many(7)", x.many(7), bodies.size());
        for (int i = 0; i < bodies.size(); i++) due("trace(" + i + ")", x.trace(i), bodies.get(i));
        due("behind the trace", x.trace(bodies.size()), NONE);
    }

    static void act() {
        says(40, "ACTS of things, with a number x (ints that wrap): 0 moves, 1 calls, 2 shares, 3 tells.");
        for (int kind = 1; kind <= 5; kind++) {
            for (int n = 0; n < 4; n++) {
                for (int a : new int[] {0, 1, 2, 3, 4, 9}) actsAs(kind, n, a);
            }
        }
        OneMoves x = held(1);
        due("HIGH twice, less 7", x.act(3, 1, HIGH), -2 - 7);
        due("LOW twice, less 7", x.act(3, 1, LOW), -7);
        says(40, "Quotients are cut towards 0.");
        due("20 by 7", x.act(3, 2, 20), 2);
        due("21 by 7", x.act(3, 2, 21), 3);
        due("-20 by 7", x.act(3, 2, -20), -2);
        due("-6 by 7", x.act(3, 2, -6), 0);
        OneMoves y = new OneMoves();
        y.rule(1, 0);
        y.rule(1, 0);
        y.shelf(0, 0, 1);
        due("LOW by -1", y.act(0, 2, LOW), LOW);
        due("HIGH by -1", y.act(0, 2, HIGH), -HIGH);
        says(40, "shares: x by (a - n), the rest away (-15 if these are the same; that is all that act() answers then)");
        for (int a = 0; a < 3; a++) {
            OneMoves z = new OneMoves();
            z.rule(2, 0);
            z.rule(2, a);
            z.shelf(0, 0, 1);
            due("12 by (" + a + " - 1)", z.act(0, 2, 12), a == 1 ? -15 : 12 / (a - 1));
            due("tells, too", z.act(0, 3, 12) == -15 ? 1 : 0, a == 1 ? 1 : 0);
            due("moves doesn't", z.act(0, 0, 12), 39);
        }
        says(40, "An ACT (0 to 3) of the thing on a SHELF, with x. 0, and no TRACE then: no such SHELF, act, nothing, a row.");
        for (int s : new int[] {-1, 4, LOW, HIGH}) noAct(s, 0);
        for (int act : new int[] {-1, 4, LOW, HIGH}) noAct(0, act);
        noAct(1, 0);
        noAct(3, 0);
        OneMoves u = busy();
        for (int act = 0; act < 4; act++) {
            u.act(0, act, 5);
            due("there is a trace, act " + act, u.many(7) > 0 ? 1 : 0, 1);
        }
    }

    /** Of busy shelf 0 and 2 hold rules, 1 a row, 3 nothing; a trace is there. All but that stays. */
    static void noAct(int shelf, int act) {
        OneMoves x = busy();
        due("there is a trace", x.many(7), 11);
        due("act(" + shelf + ", " + act + ", 5)", x.act(shelf, act, 5), 0);
        due("no trace", x.many(7), 0);
        due("no trace", x.trace(0), NONE);
        idle("act(" + shelf + ", " + act + ", 5)", HostEdges::busyWithoutTrace, y -> y.act(shelf, act, 5), 0);
    }

    static OneMoves busyWithoutTrace() {
        OneMoves x = busy();
        x.act(-1, 0, 0);
        return x;
    }

    static void trace() {
        says(41, "THE TRACE's i-th body. NONE.");
        idle("none", OneMoves::new, x -> x.trace(0), NONE);
        // worthy tells: as many as there can be
        int[] bodies = {31, 13, 41, 11, 40, 30, 10, 40, 30, 10, 12};
        for (int k = 0; k < bodies.length; k++) {
            int i = k;
            idle("trace(" + i + ")", HostEdges::busy, x -> x.trace(i), bodies[i]);
        }
        for (int i : new int[] {-1, 11, 29, 30, 31, LOW, HIGH}) idle("trace(" + i + ")", HostEdges::busy, x -> x.trace(i), NONE);
        says(41, "THE TRACE: numbers of the bodies that ran in the latest act(), as they began (left first); the first 30 are kept.");
        OneMoves x = busy();
        x.act(0, 0, 1);
        traceIs(x, List.of(40, 30, 10));
        x.act(2, 0, 1);
        traceIs(x, List.of(10));
        says(41, "(-15 if these are the same; that is all that act() answers then)");
        OneMoves y = new OneMoves();
        y.rule(5, 0);
        y.shelf(0, 0, 0);
        due("shares", y.act(0, 2, 1), -15);
        traceIs(y, List.of(61, 12));
    }

    static void many() {
        says(42, "How many: what = 0 MOVERS, 1 THINGS, 2 WORKS, 3 open ones, 4 RULES, 5 ROWS, 6 bytes of THE TAPE, 7 bodies of THE TRACE. BAD: another what.");
        int[] of = {2, 3, 5, 3, 3, 3, 52, 11};
        for (int k = 0; k < 8; k++) {
            int what = k;
            idle("many(" + what + ")", HostEdges::busy, x -> x.many(what), of[what]);
        }
        int[] most = {3, 6, 6, 6, 4, 0, 240, 0};
        for (int k = 0; k < 8; k++) {
            int what = k;
            idle("many(" + what + ") of full", HostEdges::full, x -> x.many(what), most[what]);
        }
        for (int what : new int[] {-1, 8, LOW, HIGH}) idle("many(" + what + ")", HostEdges::busy, x -> x.many(what), BAD);
    }

    static void run() {
        sheet();
        write();
        item();
        shelf();
        taken();
        act();
        trace();
        many();
    }
}

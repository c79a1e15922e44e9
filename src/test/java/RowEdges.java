/** Edges of "---- rows". */
final class RowEdges extends Answers {
    /** Work 0 is done; 1 ends at 20 then, 2 is spoilt behind it. Two rows. */
    static OneMoves twoRows() {
        OneMoves x = OrderEdges.lasting(0, 5, 0);
        x.behind(2, 0, 4);
        x.pass(10);
        x.does(0);
        x.pass(5);
        x.prove();
        return x;
    }

    static OneMoves sixRows() {
        OneMoves x = OrderEdges.lasting(1, 2, 3, 4, 5, 6);
        x.prove();
        return x;
    }

    static void prove() {
        says(30, "ROWS of BEST: how many.");
        due("none", new OneMoves().prove(), 0);
        due("none is open", through().prove(), 0);
        due("six", full().prove(), 6);
        due("two", twoRows().prove(), 2);
        OneMoves x = sixRows();
        x.does(3);
        due("rows stay till they are proven anew", x.many(5), 6);
        due("five", x.prove(), 5);
        due("the sixth is gone", x.row(5, 0), -9);
        says(30, "ROWS of BEST: (WORK, the MINUTE at which it ends, WORTH) in that ORDER (a spoilt one: the MINUTE of its turn, 0).");
        int[][] want = {{1, 20, 50}, {2, 20, 0}};
        for (int i = 0; i < 2; i++) {
            for (int what = 0; what < 3; what++) due("row(" + i + ", " + what + ")", twoRows().row(i, what), want[i][what]);
        }
    }

    static void row() {
        says(31, "Of ROW i: what = 0 WORK, 1 MINUTE, 2 WORTH. -9: there is none such, another what.");
        int[] ends = {1, 3, 6, 10, 15, 21};
        for (int k = 0; k < 6; k++) {
            int i = k;
            idle("row(" + i + ", 0)", RowEdges::sixRows, x -> x.row(i, 0), i);
            idle("row(" + i + ", 1)", RowEdges::sixRows, x -> x.row(i, 1), ends[i]);
            idle("row(" + i + ", 2)", RowEdges::sixRows, x -> x.row(i, 2), 50);
        }
        for (int i : new int[] {-1, 6, 7, LOW, HIGH}) idle("row(" + i + ", 0)", RowEdges::sixRows, x -> x.row(i, 0), -9);
        for (int i : new int[] {-1, 2, 5, 6}) idle("row(" + i + ", 0) of two", RowEdges::twoRows, x -> x.row(i, 0), -9);
        for (int what : new int[] {-1, 3, LOW, HIGH}) {
            idle("row(0, " + what + ")", RowEdges::sixRows, x -> x.row(0, what), -9);
            idle("row(5, " + what + ")", RowEdges::sixRows, x -> x.row(5, what), -9);
        }
        idle("no rows", OneMoves::new, x -> x.row(0, 0), -9);
        // an index that wraps around must not find a row
        for (int i : new int[] {1431655766, -1431655765, 1 << 30, 1 << 31}) idle("row(" + i + ", 0)", RowEdges::sixRows, x -> x.row(i, 0), -9);
    }

    static void alterRow() {
        says(32, "It becomes v: what it was. -9 likewise.");
        for (int v : new int[] {0, -1, -9, 222, LOW, HIGH}) {
            OneMoves x = sixRows();
            due("alterRow(5, 2, " + v + ")", x.alterRow(5, 2, v), 50);
            due("row(5, 2)", x.row(5, 2), v);
            due("row(5, 1)", x.row(5, 1), 21);
            due("row(4, 2)", x.row(4, 2), 50);
            due("alterRow(0, 0, " + v + ")", x.alterRow(0, 0, v), 0);
            due("and what it was then", x.alterRow(0, 0, 3), v);
            due("many(5)", x.many(5), 6);
        }
        for (int i : new int[] {-1, 6, LOW, HIGH, 1431655766}) idle("alterRow(" + i + ", 0, 3)", RowEdges::sixRows, x -> x.alterRow(i, 0, 3), -9);
        idle("alterRow(2, 0, 3) of two", RowEdges::twoRows, x -> x.alterRow(2, 0, 3), -9);
        for (int what : new int[] {-1, 3, LOW, HIGH}) {
            idle("alterRow(0, " + what + ", 3)", RowEdges::sixRows, x -> x.alterRow(0, what, 3), -9);
            idle("alterRow(1, " + what + ", 3)", RowEdges::twoRows, x -> x.alterRow(1, what, 3), -9);
        }
        idle("no rows", OneMoves::new, x -> x.alterRow(0, 0, 3), -9);
    }

    static OneMoves altered(Maker maker, int i, int what, int v) {
        OneMoves x = maker.make();
        x.alterRow(i, what, v);
        return x;
    }

    static void judge() {
        says(33, "THE READER takes ROWS: 0 all is right; else the first ROW that isn't, and 1 more; 222.");
        idle("six rows", RowEdges::sixRows, x -> x.judge(), 0);
        idle("two rows", RowEdges::twoRows, x -> x.judge(), 0);
        for (int k = 0; k < 6; k++) {
            int i = k;
            for (int what = 1; what < 3; what++) {
                int cell = what;
                int was = sixRows().row(i, what);
                for (int v : new int[] {was - 1, was + 1, LOW, HIGH}) {
                    idle("row " + i + ", " + what + ": " + v, () -> altered(RowEdges::sixRows, i, cell, v), x -> x.judge(), i + 1);
                }
            }
        }
        idle("of two wrong ones the first", () -> altered(() -> altered(RowEdges::sixRows, 4, 1, 0), 2, 1, 0), x -> x.judge(), 3);
        says(33, "right is one that tells an open WORK that no ROW ahead tells, as may come then, and its MINUTE, WORTH");
        for (int v : new int[] {-1, 6, 7, 8, LOW, HIGH, -6}) {
            idle("row 0 tells WORK " + v, () -> altered(RowEdges::sixRows, 0, 0, v), x -> x.judge(), 1);
            idle("row 5 tells WORK " + v, () -> altered(RowEdges::sixRows, 5, 0, v), x -> x.judge(), 6);
        }
        idle("told ahead", () -> altered(RowEdges::sixRows, 5, 0, 4), x -> x.judge(), 6);
        idle("a done one", () -> altered(RowEdges::twoRows, 1, 0, 0), x -> x.judge(), 2);
        OneMoves x = OrderEdges.lasting(3, 3);
        x.prove();
        x.behind(1, 0, 0);
        due("1 behind 0", x.judge(), 0);
        x.alterRow(0, 0, 1);
        x.alterRow(1, 0, 0);
        due("1 ahead of it may not come", x.judge(), 1);
        x.behind(1, -1, 0);
        due("now it may", x.judge(), 0);
        says(33, "if all are, but open WORKS are left: 222");
        idle("no rows, open works", () -> OrderEdges.lasting(1), y -> y.judge(), 222);
        idle("no rows, no works", OneMoves::new, y -> y.judge(), 0);
        idle("no rows, none is open", RowEdges::through, y -> y.judge(), 0);
        OneMoves y = OrderEdges.lasting(3, 3);
        y.prove();
        y.work(5, 0, 0, 0, 0, 0);
        due("one more", y.judge(), 222);
        y.alterRow(1, 2, 0);
        due("a wrong row ahead of that", y.judge(), 2);
        says(33, "THE READER takes ROWS as an ORDER from now on");
        OneMoves z = sixRows();
        z.pass(1);
        due("a minute later", z.judge(), 1);
        OneMoves v = sixRows();
        v.does(0);
        due("the first is done", v.judge(), 1);
    }

    static void dueOf(int item, int want) {
        OneMoves x = OrderEdges.lasting(1);
        x.sheet(0, 2, 1);
        x.write(0, 0, item);
        due("dues(0) of " + item, x.dues(0), 1);
        due("workOf(0, 4)", x.workOf(0, 4), want);
    }

    static OneMoves sheeted(int sort, int n) {
        OneMoves x = busy();
        x.sheet(3, sort, n);
        return x;
    }

    static void dues() {
        says(34, "item k is DUE of WORK k (held to 0 to 999), as far as both go: how many");
        int[][] held = {{-1, 0}, {0, 0}, {1, 1}, {998, 998}, {999, 999}, {1000, 999}, {LOW, 0}, {HIGH, 999}};
        for (int[] pair : held) dueOf(pair[0], pair[1]);
        int[] was = {30, 50, 90, 60, 99};
        for (int n : new int[] {0, 1, 4, 5, 6, 40}) {
            OneMoves x = sheeted(2, n);
            due("items " + n, x.dues(3), Math.min(n, 5));
            for (int w = 0; w < 5; w++) due("workOf(" + w + ", 4)", x.workOf(w, 4), w < n ? 0 : was[w]);
        }
        due("no works", intsAlone().dues(0), 0);
        says(34, "BAD; -11; -13.");
        for (int s : new int[] {-1, 4, LOW, HIGH}) idle("dues(" + s + ")", RowEdges::busy, x -> x.dues(s), BAD);
        idle("missing", RowEdges::busy, x -> x.dues(3), -11);
        for (int k : new int[] {0, 1, 3}) {
            int sort = k;
            idle("of sort " + sort, () -> sheeted(sort, 2), x -> x.dues(3), -13);
            idle("of sort " + sort + ", empty", () -> sheeted(sort, 0), x -> x.dues(3), -13);
        }
        idle("bytes", RowEdges::busy, x -> x.dues(1), -13);
        idle("longs", RowEdges::busy, x -> x.dues(2), -13);
        idle("ints, empty", () -> sheeted(2, 0), x -> x.dues(3), 0);
    }

    static OneMoves intsAlone() {
        OneMoves x = new OneMoves();
        x.sheet(0, 2, 5);
        return x;
    }

    static void run() {
        prove();
        row();
        alterRow();
        judge();
        dues();
    }
}

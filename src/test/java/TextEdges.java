/** Edges of TEXT and of town(). */
final class TextEdges extends Answers {
    /** Two movers, three things, two works: so far numbers of them may go. */
    static final String AHEAD = "mover 1 1;".repeat(2) + "thing 1 1;".repeat(3) + "own 0 0 to 1 by 1 for 1;".repeat(2);

    /** Sentences, their parts by blanks; a NUMBER stands as its least and its most. */
    static final String[] SENTENCES = {
        "mover 0-9 1-5 ;",
        "thing 0-9 1-9 ;",
        "work 0-1 0-2 to 0-9 by 0-999 for 0-99 ;",
        "heavy 0-1 0-2 to 0-9 by 0-999 for 0-99 behind 0-1 ;",
        "cart 0-1 0-2 to 0-9 by 0-999 for 0-99 behind 0-1 within 1-99 ;",
        "slow 0-1 0-2 to 0-9 by 0-999 for 0-99 behind 0-1 within 1-99 ;",
        "quick 0-1 0-2 to 0-9 by 0-999 for 0-99 behind 0-1 within 1-99 ;",
        "own 0-1 0-2 to 0-9 by 0-999 for 0-99 behind 0-1 within 1-99 ;",
        "water 0-9 ;",
        "call 0-8 1-30 ;",
        "bell 1-20 ;"};

    static boolean isRange(String part) {
        return part.indexOf('-') > 0;
    }

    static int least(String range) {
        return Integer.parseInt(range.substring(0, range.indexOf('-')));
    }

    static int most(String range) {
        return Integer.parseInt(range.substring(range.indexOf('-') + 1));
    }

    /** Parts from 0 to k with their least numbers, or their most. */
    static String joined(String[] parts, int k, boolean high) {
        StringBuilder s = new StringBuilder();
        for (int i = 0; i < k; i++) {
            s.append(isRange(parts[i]) ? "" + (high ? most(parts[i]) : least(parts[i])) : parts[i]).append(' ');
        }
        return s.toString();
    }

    /** Told in a town that has much already, of which a fault leaves all but the tape as it was. */
    static void faulty(String text, int fault) {
        String shown = text.startsWith(AHEAD) ? ".. " + text.substring(AHEAD.length()) : text;
        idle("town() of '" + shown + "'", TextEdges::withoutTape, x -> told(x, text), -100 - fault);
    }

    static OneMoves withoutTape() {
        OneMoves x = of("mover 2 3;thing 4 5;thing 4 2;work 0 0 to 6 by 30 for 40;own 0 1 to 9 by 50 for 8;water 3;call 2 6;bell 5;");
        x.rule(3, 3);
        x.keep();
        x.does(0);
        x.prove();
        return x;
    }

    static void eachPart() {
        for (String told : SENTENCES) {
            String[] parts = told.split(" ");
            says(3, "TEXT: { mover N N ; | thing N N ; | KIND N N to N by N for N [ behind N [ within N ] ] ; | water N ; | call N N ; | bell N ; }");
            int works = "mover thing water call bell".contains(parts[0]) ? 2 : 3;
            due("least of '" + told + "'", told(withoutTape(), AHEAD + joined(parts, parts.length, false)), works);
            due("most of '" + told + "'", told(withoutTape(), AHEAD + joined(parts, parts.length, true)), works);
            for (int k = 0; k < parts.length; k++) {
                String before = AHEAD + joined(parts, k, true);
                says(3, "or the end (how many bytes there are), if more must come.");
                if (k > 0) {
                    faulty(before, before.length());
                    faulty(before.trim(), before.trim().length());
                }
                says(3, "the first byte of the first NAME, NUMBER or other byte that can't stand there or is not as told");
                wrongParts(before, parts[k]);
            }
        }
    }

    static void wrongParts(String before, String part) {
        String behind = " 1 1 ;";
        String[] never = {"?", "" + (char) 0, "" + (char) 255, "-1", "+1", "M", "movers", "move", "x"};
        for (String other : never) faulty(before + other + behind, before.length());
        if (!isRange(part)) {
            faulty(before + "1" + behind, before.length());
            boolean mayEnd = part.equals(";") || part.equals("behind") || part.equals("within");
            faulty(before + (mayEnd ? "," : ";"), before.length());
            if (!part.equals(";")) faulty(before + (part.equals("within") ? "behind" : "within") + behind, before.length());
            return;
        }
        faulty(before + "to" + behind, before.length());
        faulty(before + ";" + behind, before.length());
        says(3, "a NUMBER out of range, of more digits");
        faulty(before + (most(part) + 1) + behind, before.length());
        faulty(before + "000" + least(part) + behind, before.length());
        faulty(before + "99999999999999999999" + behind, before.length());
        if (least(part) > 0) faulty(before + (least(part) - 1) + behind, before.length());
    }

    static void whatIsTold() {
        says(3, "mover: PLACE, PACE. thing: PLACE, WEIGHT. KIND (work | heavy | cart | slow | quick | own): MOVER, THING (both told ahead), TO, DUE, WORTH, WORK told ahead, minutes (1 to 99). call: CALL, LONG.");
        String[] kinds = {"work", "heavy", "cart", "slow", "quick", "own"};
        for (int kind = 0; kind < 6; kind++) {
            OneMoves x = of(AHEAD + kinds[kind] + " 1 2 to 9 by 999 for 99 behind 1 within 99;");
            int[] most = {kind, 1, 2, 9, 999, 99, 1, 99, 0, -9};
            for (int what = 0; what < 10; what++) due(kinds[kind] + ", most " + what, x.workOf(2, what), most[what]);
            OneMoves y = of(AHEAD + kinds[kind] + " 0 0 to 0 by 0 for 0 behind 0 within 1;");
            int[] least = {kind, 0, 0, 0, 0, 0, 0, 1, 0, -9};
            for (int what = 0; what < 10; what++) due(kinds[kind] + ", least " + what, y.workOf(2, what), least[what]);
        }
        OneMoves x = of("mover 0 1;mover 9 5;thing 9 9;thing 0 1;work 1 0 to 4 by 0 for 0;work 0 1 to 4 by 0 for 0 behind 0;");
        due("at(0, 0)", x.at(0, 0), 0);
        due("at(0, 1)", x.at(0, 1), 9);
        due("at(1, 0)", x.at(1, 0), 9);
        due("at(1, 1)", x.at(1, 1), 0);
        due("5 by 9, by pace 5", x.minutes(0), 9);
        due("4 by 1, by pace 1", x.minutes(1), 4);
        due("behind alone", x.workOf(1, 7), 0);
        faulty("work 0 0 to 1 by 1 for 1;", 5);
        faulty("mover 1 1;work 0 0 to 1 by 1 for 1;", 17);
        faulty("thing 1 1;work 0 0 to 1 by 1 for 1;", 15);
        faulty("mover 1 1;thing 1 1;own 0 0 to 1 by 1 for 1 behind 0;", 51);
        faulty("mover 1 1;thing 1 1;own 0 0 to 1 by 1 for 1 within 1;", 44);
        faulty(AHEAD + "own 0 0 to 1 by 1 for 1 behind 1 behind 0;", AHEAD.length() + 33);
        faulty(AHEAD + "own 0 0 to 1 by 1 for 1 behind 1 within 1 within 1;", AHEAD.length() + 42);
        faulty(AHEAD + "own 0 0 to 1 by 1 for 1 behind 1 within 1 behind 0;", AHEAD.length() + 42);
    }

    static void tooMany() {
        says(3, "the first NAME of one too many");
        String works = "mover 1 1;thing 1 1;" + "own 0 0 to 1 by 1 for 1;".repeat(6);
        due("three movers", told(withoutTape(), "mover 1 1;".repeat(3)), 0);
        faulty("mover 1 1;".repeat(4), 30);
        faulty("mover 1 1;".repeat(3) + "mover 99 ?", 30);
        due("six things", told(withoutTape(), "thing 1 1;".repeat(6)), 0);
        faulty("thing 1 1;".repeat(7), 60);
        due("six works", told(withoutTape(), works), 6);
        for (String kind : new String[] {"work", "heavy", "cart", "slow", "quick", "own"}) {
            faulty(works + kind + " 0 0 to 1 by 1 for 1;", works.length());
            faulty(works + kind, works.length());
        }
        due("laws as often as one likes", told(withoutTape(), "bell 1;".repeat(34)), 0);
        due("those of the town ahead don't count", told(full3(), "mover 1 1;".repeat(3)), 0);
    }

    static OneMoves full3() {
        return of("mover 1 1;".repeat(3));
    }

    static void namesAndNumbers() {
        says(3, "NAMES are rows of letters a to z, NUMBERS rows of digits (1 to 3), both as long as they go");
        // the bytes beside a, z, 0, 9, and those that Java would take for letters, digits or blanks
        int[] others = {0, 9, 10, 13, 31, 33, 47, 58, 59, 64, 65, 90, 91, 95, 96, 123, 127, 128, 160, 178, 223, 255};
        for (int b : others) {
            faulty("mover" + (char) b + "1 1;", 5);
            if (b != ';') faulty("mover 1 1" + (char) b, 9);
            faulty("" + (char) b + "mover 1 1;", 0);
            faulty("mover 1 1;" + (char) b, 10);
        }
        faulty("movera 1 1;", 0);
        faulty("moverz 1 1;", 0);
        faulty("amover 1 1;", 0);
        faulty("zmover 1 1;", 0);
        faulty("moverthing 1 1;", 0);
        faulty("mo ver 1 1;", 0);
        due("one digit", told(withoutTape(), "mover 0 1;"), 0);
        due("three digits", told(withoutTape(), "mover 009 005;"), 0);
        faulty("mover 0009 5;", 6);
        faulty("mover 9 0005;", 8);
        faulty("mover 11;", 6);
        faulty("mover 1 1 1;", 10);
        faulty("mover 1 1 mover 1 1;", 10);
        OneMoves x = of("mover 1 1;thing 1 1;own 0 0 to 009 by 099 for 009;");
        due("TO 009", x.workOf(0, 3), 9);
        due("DUE 099", x.workOf(0, 4), 99);
        due("WORTH 009", x.workOf(0, 5), 9);

        says(3, "blanks (32) part them, and stand elsewhere as one likes");
        due("nothing", new OneMoves().town(), 0);
        due("a blank", told(new OneMoves(), " "), 0);
        due("only blanks", told(new OneMoves(), " ".repeat(240)), 0);
        due("many", told(new OneMoves(), "  mover   1    1  ;  thing 1 1 ;own 0  0 to 1 by 1 for 1;  "), 1);
        due("none but what parts them", told(new OneMoves(), "mover 1 1;thing 1 1;own 0 0 to 1 by 1 for 1;"), 1);
        faulty("  ;", 2);
        faulty("mover 1 1 ; ;", 12);
        faulty("mover 1 1  ", 11);
    }

    static void asLongAsTheTape() {
        says(3, "FAULT: the place (from 0) of the first byte");
        String pad = " ".repeat(230);
        OneMoves x = new OneMoves();
        due("240 bytes", told(x, pad + "mover 1 1;"), 0);
        due("many(0)", x.many(0), 1);
        faulty("?", 0);
        faulty(pad + "mover 1 1?", 239);
        faulty(pad + "mover 1 11", 238);
        faulty(" ".repeat(239) + ";", 239);
        says(3, "or the end (how many bytes there are), if more must come.");
        faulty(pad + "mover 1 1 ", 240);
        faulty(" ".repeat(231) + "mover 1 1", 240);
        faulty("m", 0);
        faulty("mover", 5);
        faulty("mover ", 6);
    }

    static void laws() {
        says(3, "LAWS that it tells (the last one of each counts), others stay; MINUTE 0.");
        String[] texts = {"water 0;", "water 9;", "call 0 1;", "call 8 30;", "bell 1;", "bell 20;", "water 1;water 8;call 7 7;call 4 9;bell 2;bell 3;bell 4;", ""};
        int[][] want = {{0, 2, 6, 5}, {9, 2, 6, 5}, {3, 0, 1, 5}, {3, 8, 30, 5}, {3, 2, 6, 1}, {3, 2, 6, 20}, {8, 4, 9, 4}, {3, 2, 6, 5}};
        for (int i = 0; i < texts.length; i++) {
            OneMoves x = withoutTape();
            x.pass(7);
            due("town() of '" + texts[i] + "'", told(x, texts[i]), 0);
            for (int law = 0; law < 4; law++) due("law " + law, x.set(law, 1), want[i][law]);
            due("minute()", x.minute(), 0);
        }
        faulty("water 9;call 8 30;bell 20;x", 26);
        faulty("call 8 31;", 7);
        faulty("call 9 30;", 5);
    }

    static void whatBecomes() {
        says(3, "THE TAPE becomes THE TOWN: how many WORKS; -100 less its FAULT. There are no ROWS then; RULES stay.");
        OneMoves x = busy();
        due("town()", x.town(), 1);
        int[] many = {1, 1, 1, 1, 3, 0, 0, 11};
        for (int what = 0; what < 8; what++) due("many(" + what + ")", x.many(what), many[what]);
        due("row(0, 0)", x.row(0, 0), -9);
        due("had()", x.had(), 0);
        due("ruleOf(2, 0)", x.ruleOf(2, 0), 5);
        due("ruleOf(2, 1)", x.ruleOf(2, 1), 2);
        due("a sheet stays", x.item(0, 2, 1), 44);
        due("a shelf stays", x.taken(2, 5), 2);
        due("what is kept stays", x.again(), 5);
        OneMoves y = busy();
        due("nothing is told", emptied(y).town(), 0);
        for (int what = 0; what < 4; what++) due("many(" + what + ")", y.many(what), 0);
        due("no rows", y.many(5), 0);

        says(3, "It is THE TOWN: all by it alone");
        String start = "mover 0 1;thing 0 1;own 0 0 to 1 by 9 for 9;own 0 0 to 2 by 9 for 9";
        OneMoves w = of(start + " behind 0 within 5;");
        w.does(0);
        due("town()", told(w, start + ";"), 2);
        due("BEHIND isn't that of the town ahead", w.workOf(1, 6), -9);
        due("nor WITHIN", w.workOf(1, 7), 0);
        due("nor what was done", w.workOf(0, 8), 0);
        due("nor had()", w.had(), 0);
        due("nor where it was", w.at(1, 0), 0);
        told(w, start + " behind 0 within 5;?");
        due("nor is it that of a fault", told(w, start + " behind 0;"), 2);
        due("WITHIN", w.workOf(1, 7), 0);

        says(3, "such a call changes nothing (but that THE TAPE is used up by town())");
        OneMoves z = withoutTape();
        due("a fault", told(z, "mover 1 1;thing"), -115);
        due("many(6)", z.many(6), 0);
        due("rows stay", z.many(5), 1);
        due("an empty tape is a town", z.town(), 0);
        due("many(5)", z.many(5), 0);
    }

    static OneMoves emptied(OneMoves x) {
        x.town();
        x.prove();
        return x;
    }

    static void run() {
        eachPart();
        whatIsTold();
        tooMany();
        namesAndNumbers();
        asLongAsTheTape();
        laws();
        whatBecomes();
    }
}

import java.util.ArrayList;
import java.util.LinkedHashSet;
import java.util.List;
import java.util.Map;
import java.util.Set;
import java.util.TreeMap;
import java.util.TreeSet;

/** What the tests by hand share: answers that are due, towns told as text, a look at all that can be seen. */
abstract class Answers {
    static final int BAD = -1, FULL = -2, NONE = -3, STATE = -4;
    static final int LOW = Integer.MIN_VALUE, HIGH = Integer.MAX_VALUE;

    static int wrong = 0;
    static int promise = 0;
    static String sentence = "";
    static final Set<String> sentences = new LinkedHashSet<>();
    /** For each promise the answers that were due somewhere. */
    static final Map<Integer, Set<Long>> asked = new TreeMap<>();

    interface Call {
        long on(OneMoves x);
    }

    interface Maker {
        OneMoves make();
    }

    /** What follows tests these words of the document, which promise number so has or needs. */
    static void says(int number, String words) {
        promise = number;
        sentence = words;
        sentences.add(words);
    }

    static void due(String call, long got, long want) {
        asked.computeIfAbsent(promise, p -> new TreeSet<>()).add(want);
        if (got != want) {
            wrong++;
            String where = sentence.isEmpty() ? "" : " (" + sentence + ")";
            System.out.println("promise " + promise + where + ": " + call + " answered " + got + ", due is " + want);
        }
    }

    /** The call answers so, and all that can be seen is as it is without the call. */
    static void idle(String name, Maker maker, Call call, long want) {
        OneMoves x = maker.make();
        due(name, call.on(x), want);
        List<String> with = look(x);
        List<String> without = look(maker.make());
        for (int i = 0; i < without.size(); i++) {
            if (!with.get(i).equals(without.get(i))) {
                wrong++;
                System.out.println("promise " + promise + " (" + sentence + "): behind " + name + " "
                    + with.get(i) + ", without it " + without.get(i));
                return;
            }
        }
    }

    static void feedText(OneMoves x, String text) {
        for (int i = 0; i < text.length(); i += 8) {
            int n = Math.min(8, text.length() - i);
            long eight = 0;
            for (int k = n - 1; k >= 0; k--) eight = eight << 8 | text.charAt(i + k) & 255;
            x.feed(eight, n);
        }
    }

    static int told(OneMoves x, String text) {
        feedText(x, text);
        return x.town();
    }

    static OneMoves of(String text) {
        OneMoves x = new OneMoves();
        int got = told(x, text);
        if (got < 0) due("town of " + text, got, 0);
        return x;
    }

    static int digits(int... works) {
        int d = 0;
        for (int i = 0; i < works.length; i++) d |= works[i] << 3 * i;
        return d;
    }

    /** A town with something of everything: works open, done and spoilt, laws, rules, rows, sheets, shelves, a tape. */
    static OneMoves busy() {
        OneMoves x = of("mover 2 3;mover 7 1;thing 4 5;thing 4 2;thing 9 1;water 2;call 3 4;bell 6;"
            + "work 0 0 to 6 by 30 for 40;own 1 2 to 9 by 50 for 8 behind 0 within 3;heavy 1 1 to 3 by 90 for 30;"
            + "quick 0 2 to 1 by 60 for 20 behind 2;slow 0 1 to 8 by 99 for 9;");
        x.rule(4, 7);
        x.rule(3, 5);
        x.keep();
        x.rule(5, 2);
        x.does(0);
        x.pass(9);
        x.does(1);
        x.prove();
        x.alterRow(1, 1, 77);
        x.sheet(0, 2, 3);
        x.write(0, 1, 44);
        x.sheet(1, 0, 2);
        x.write(1, 0, -7);
        x.sheet(2, 3, 4);
        x.shelf(0, 0, 1);
        x.shelf(1, 1, 0);
        x.shelf(2, 0, 2);
        x.act(0, 3, 5);
        feedText(x, "mover 8 2;thing 1 3;slow 0 0 to 5 by 7 for 6;bell 9;");
        return x;
    }

    /** As many movers, things, works and rules as there may be, and a tape that takes no more. */
    static OneMoves full() {
        OneMoves x = of("mover 1 1;".repeat(3) + "thing 1 1;".repeat(6) + "own 0 0 to 1 by 1 for 1;".repeat(6));
        for (int k = 1; k < 5; k++) x.rule(k, k);
        feedText(x, "water 7;" + " ".repeat(232));
        return x;
    }

    /** Nothing is left to do: work 0 is done, work 1 spoilt. */
    static OneMoves through() {
        OneMoves x = of("mover 0 1;thing 0 1;own 0 0 to 0 by 9 for 9;own 0 0 to 5 by 9 for 9 behind 0 within 1;");
        x.rule(1, 0);
        x.does(0);
        x.pass(2);
        x.does(1);
        return x;
    }

    private static void note(List<String> seen, String call, long answer) {
        seen.add(call + " answers " + answer);
    }

    /** All that can be seen of an object, in some 350 calls; it is another one then. */
    static List<String> look(OneMoves x) {
        List<String> seen = new ArrayList<>();
        lookAtTown(x, seen);
        for (int rule = 0; rule < 4; rule++) {
            for (int what = 0; what < 2; what++) note(seen, "ruleOf(" + rule + ", " + what + ")", x.ruleOf(rule, what));
        }
        for (int i = 0; i < 6; i++) {
            for (int what = 0; what < 3; what++) note(seen, "row(" + i + ", " + what + ")", x.row(i, what));
        }
        for (int i = 0; i < 12; i++) note(seen, "trace(" + i + ")", x.trace(i));
        lookAtHost(x, seen);
        note(seen, "town()", x.town());
        for (int what = 0; what < 8; what++) note(seen, "many(" + what + ") of what was fed", x.many(what));
        lookAtLaws(x, seen);
        note(seen, "again()", x.again());
        lookAtTown(x, seen);
        return seen;
    }

    private static void lookAtTown(OneMoves x, List<String> seen) {
        for (int what = 0; what < 8; what++) note(seen, "many(" + what + ")", x.many(what));
        note(seen, "minute()", x.minute());
        note(seen, "had()", x.had());
        for (int w = 0; w < 6; w++) {
            int[] whats = {0, 1, 2, 3, 4, 5, 6, 7, 8, 9};
            for (int what : whats) note(seen, "workOf(" + w + ", " + what + ")", x.workOf(w, what));
            note(seen, "minutes(" + w + ")", x.minutes(w));
        }
        for (int k = 0; k < 3; k++) note(seen, "at(0, " + k + ")", x.at(0, k));
        for (int k = 0; k < 6; k++) note(seen, "at(1, " + k + ")", x.at(1, k));
        lookAtLaws(x, seen);
    }

    private static void lookAtLaws(OneMoves x, List<String> seen) {
        for (int law = 0; law < 4; law++) {
            int was = x.set(law, 1);
            note(seen, "law " + law, was);
            x.set(law, was);
        }
    }

    private static void lookAtHost(OneMoves x, List<String> seen) {
        for (int s = 0; s < 4; s++) {
            for (int sort = 0; sort < 4; sort++) {
                for (int i = 0; i < 3; i++) note(seen, "item(" + s + ", " + sort + ", " + i + ")", x.item(s, sort, i));
            }
            for (int as : new int[] {0, 1, 2, 3, 5, 10, 12}) note(seen, "taken(" + s + ", " + as + ")", x.taken(s, as));
        }
    }
}

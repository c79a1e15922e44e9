import java.nio.file.Files;
import java.nio.file.Path;
import java.util.Arrays;
import java.util.Map;
import java.util.Set;
import java.util.regex.Matcher;
import java.util.regex.Pattern;

/**
 * Each sentence of the document from its terms to its last promise. Where it names a boundary: a call just inside,
 * one just outside, and where a call is refused a look at what must not have changed. It also looks whether the
 * words stand in the document, whether all of its words are quoted, and whether each refusal that a promise names
 * was due somewhere.
 */
public final class SentencesTest extends Answers {
    static final Map<String, Long> REFUSALS = Map.ofEntries(
        Map.entry("BAD", -1L), Map.entry("FULL", -2L), Map.entry("NONE", -3L), Map.entry("STATE", -4L),
        Map.entry("-9", -9L), Map.entry("-11", -11L), Map.entry("-12", -12L), Map.entry("-13", -13L),
        Map.entry("-14", -14L), Map.entry("222", 222L));

    static void expect(boolean holds, String what) {
        if (!holds) {
            wrong++;
            System.out.println(what);
        }
    }

    static String plain(String text) {
        return text.replaceAll("\\s+", " ");
    }

    static void sentencesStand(String doc) {
        for (String words : sentences) {
            expect(plain(doc).contains(plain(words)), "the document doesn't say: " + words);
        }
    }

    /** What the document promises, without what is no sentence: heads, signatures, marks of parts. */
    static String promised(String doc) {
        String told = doc.substring(doc.indexOf("## Terms") + 8, doc.indexOf("## Not promised"));
        told = told.replaceAll("(?m)^## Promise .*$|^```.*$|^Ahead of the calls .*$|^======== [123]", "");
        return plain(told.replaceAll("(?m)^`.*?`: ", ""));
    }

    static void everyWordIsQuoted(String doc) {
        String told = promised(doc);
        boolean[] quoted = new boolean[told.length()];
        for (String words : sentences) {
            String w = plain(words);
            for (int i = told.indexOf(w); i >= 0; i = told.indexOf(w, i + 1)) {
                Arrays.fill(quoted, i, i + w.length(), true);
            }
        }
        StringBuilder left = new StringBuilder();
        for (int i = 0; i < quoted.length; i++) left.append(quoted[i] ? '\n' : told.charAt(i));
        for (String words : left.toString().split("\n+")) {
            expect(!words.matches(".*\\w.*"), "no test quotes: " + words);
        }
    }

    static void refusalsWereDue(String doc) {
        Matcher section = Pattern.compile("## Promise (\\d+): \\w.*\n\n(.*)\n").matcher(doc);
        int sections = 0;
        while (section.find()) {
            sections++;
            int number = Integer.parseInt(section.group(1));
            Set<Long> answers = asked.getOrDefault(number, Set.of());
            expect(!answers.isEmpty(), "promise " + number + " has no test of its edges");
            Matcher refusal = Pattern.compile("BAD|FULL|NONE|STATE|-9|-1[1-4]|222").matcher(section.group(2));
            while (refusal.find()) {
                expect(answers.contains(REFUSALS.get(refusal.group())),
                    "promise " + number + ": " + refusal.group() + " was due nowhere");
            }
        }
        expect(asked.get(40).contains(-15L), "parted by 0 (-15) was due nowhere");
        expect(sections == 44, "the document has " + sections + " promises");
    }

    public static void main(String[] args) throws Exception {
        PlainWords.run();
        TownEdges.run();
        TextEdges.run();
        OrderEdges.run();
        RuleEdges.run();
        RowEdges.run();
        HostEdges.run();
        KeptEdges.run();
        String doc = Files.readString(Path.of("../shared/DOC.md"));
        sentencesStand(doc);
        everyWordIsQuoted(doc);
        refusalsWereDue(doc);
        System.out.println(wrong == 0 ? sentences.size() + " sentences hold" : wrong + " answers are not as due");
        if (wrong != 0) System.exit(1);
    }
}

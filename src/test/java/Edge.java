import java.io.IOException;
import java.nio.file.Files;
import java.nio.file.Path;
import java.util.List;
import java.util.function.Supplier;
import java.util.regex.Matcher;
import java.util.regex.Pattern;

/**
 * Boundary cases, sentence by sentence: what is held stands under the document's own words, which are looked up there,
 * and at the end no words may be left over that no test has quoted.
 */
final class Edge {
    private final Due due = new Due();
    private final String doc;
    private final boolean[] quoted;
    private String sentence = "";

    /** Where the document is not at hand, what the sentences ask for is held all the same. */
    Edge(Path path) throws IOException {
        String whole = Files.exists(path) ? Files.readString(path) : "";
        if (whole.isEmpty()) {
            System.out.println(path + " is not there: no sentence is looked up");
        }
        doc = whole.isEmpty() ? "" : whole.substring(whole.indexOf("## Terms"), whole.indexOf("## Not promised"));
        quoted = new boolean[doc.length()];
    }

    /** The sentence of the Terms that the next answers are held for. */
    void term(String words) {
        quote(words, 0, doc.indexOf("## Promise 1:"));
    }

    /** The sentence of a promise that the next answers are held for. */
    void promise(int number, String words) {
        int from = doc.indexOf("## Promise " + number + ":");
        int to = doc.indexOf("## Promise " + (number + 1) + ":");
        quote(words, from, to < 0 ? doc.length() : to);
    }

    private void quote(String words, int from, int to) {
        sentence = words.length() > 60 ? words.substring(0, 57) + "..." : words;
        if (doc.isEmpty()) {
            return;
        }
        int at = doc.indexOf(words, from);
        due.holds("the document says <" + words + ">", at >= 0 && at + words.length() <= to);
        for (int i = at; at >= 0 && i < at + words.length(); i++) {
            quoted[i] = true;
        }
    }

    void is(House house, String call, long want) {
        due.is("<" + sentence + "> " + call, house.call(call), want);
    }

    void each(House house, String call, long want, int... numbers) {
        for (int number : numbers) {
            is(house, call.replace("#", "" + number), want);
        }
    }

    void refused(Supplier<House> maker, String call) {
        refused(maker, call, -1);
    }

    /** The call is answered as for what can't be, and then all is as with one who never made it. */
    void refused(Supplier<House> maker, String call, long want) {
        House house = maker.get();
        is(house, call, want);
        same(call, house.state(), maker.get().state());
    }

    void same(String what, List<String> got, List<String> want) {
        due.is("<" + sentence + "> answers after " + what, got.size(), want.size());
        for (int i = 0; i < got.size() && i < want.size(); i++) {
            due.holds("<" + sentence + "> after " + what + ": " + got.get(i) + ", without it " + want.get(i),
                    got.get(i).equals(want.get(i)));
        }
    }

    void good(String text) {
        fault(text, 0, -1);
    }

    void fault(String text, int number, int place) {
        House house = new House().put(text);
        due.is("<" + sentence + "> read of <" + text + ">", house.call("read()"), number);
        due.is("<" + sentence + "> place of <" + text + ">", house.call("place()"), place);
    }

    /** A condition that holds, or not, of a PERSON of minute 7, month 8, years 9, coat 3, way 0 .. 7 of 8 .. 1. */
    void holds(String condition, boolean isSo) {
        House house = new House().told("sign a if " + condition + ";say b all if " + condition + ";");
        house.call("person(7, 8, 9, 3, 12345678)");
        is(house, "signs(0, -1)", isSo ? 1 : 0);
        is(house, "holds(0, 0)", isSo ? 1 : 0);
    }

    /** As holds(), where the TOKENS are too many for a sign and a say in one text. */
    void holdsLong(String condition, boolean isSo) {
        House house = new House().told("sign a if " + condition + ";").people(1);
        due.is("<" + sentence + "> sign a if " + condition, house.call("signs(0, -1)"), isSo ? 1 : 0);
    }

    /** A law's value for that PERSON and an empty PAPER. */
    void value(String law, long want) {
        House house = new House().told("book b;law f=" + law + ";");
        house.call("person(7, 8, 9, 3, 12345678)");
        due.is("<" + sentence + "> law f=" + law, house.call("fit(0, 0, 0, 0, 0)"), want);
    }

    /** Headings, the calls' own lines and the marks of the parts are no sentences. */
    void end() {
        Matcher frame = Pattern.compile("(?m)^## .*$|^`[^`]*`: |^```.*$|^==== [IV]+\\. ").matcher(doc);
        while (frame.find()) {
            for (int i = frame.start(); i < frame.end(); i++) {
                quoted[i] = true;
            }
        }
        StringBuilder left = new StringBuilder();
        for (int i = 0; i < quoted.length; i++) {
            left.append(quoted[i] ? '\n' : doc.charAt(i));
        }
        due.holds("each sentence has a test, but <" + left.toString().trim().replaceAll("\\s*\\n\\s*", "> <") + ">",
                left.toString().trim().isEmpty());
        due.end();
    }
}

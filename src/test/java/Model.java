import java.math.BigInteger;
import java.util.ArrayList;
import java.util.Arrays;
import java.util.HashMap;
import java.util.HashSet;
import java.util.List;
import java.util.Map;
import java.util.Set;

/**
 * The document once more, written for plainness alone and by other means than the class: texts go through an Earley
 * recogniser, formulas are split where they are asked for, chances are counted person by person.
 */
final class Model {
    static final List<String> SORTS = List.of("all", "kind", "two", "sharp", "known", "age", "wrong");

    /** A TOKEN: its text, its place, and what the grammar calls it. */
    record Token(String text, int place, String kind) { }

    record Say(int sort, List<Token> cond) { }

    record When(int book, int sign, int say) { }

    record Fault(int place, int number) { }

    record Fact(String kind, int subject, int value) { }

    static final class Text {
        final List<List<Token>> signs = new ArrayList<>();
        final List<Say> says = new ArrayList<>();
        final List<When> whens = new ArrayList<>();
        final List<List<Token>> laws = new ArrayList<>();
        int books = 0;
    }

    StringBuilder tape = new StringBuilder();
    Text text = new Text();
    int place = -1;
    /** Each PERSON: minute, month, years, coat, way 0 .. 7. */
    final List<int[]> people = new ArrayList<>();
    final List<Fact> facts = new ArrayList<>();

    // ---- texts

    int feed(int... words) {
        if (tape.length() + 20 > 2000) {
            return -1;
        }
        for (int word : words) {
            for (int i = 3; i >= 0; i--) {
                tape.append((char) (word >> (8 * i) & 255));
            }
        }
        return tape.length();
    }

    int back(int n) {
        if (n < 0 || n > tape.length()) {
            return -1;
        }
        tape.setLength(tape.length() - n);
        return tape.length();
    }

    int read() {
        String bytes = tape.toString();
        tape.setLength(0);
        List<Token> tokens = tokens(bytes);
        Fault fault = earlyFault(tokens, bytes.length());
        Text fresh = new Text();
        if (fault == null) {
            fault = laterFault(tokens, fresh);
        }
        if (fault != null) {
            place = fault.place();
            return fault.number();
        }
        place = -1;
        text = fresh;
        return 0;
    }

    private static final Set<String> WORDS = new HashSet<>(List.of(("sign if say book when law all kind two sharp known "
            + "age wrong or and not way minute month years coat true false").split(" ")));

    private static List<Token> tokens(String bytes) {
        List<Token> found = new ArrayList<>();
        java.util.regex.Matcher at = java.util.regex.Pattern
                .compile("[\\t\\n\\r ]+|([a-z]+)|([0-9]+)|(==|!=|<=|[;=+\\-*<()])|([^\\t\\n\\r ])").matcher(bytes);
        while (at.find()) {
            String here = at.group();
            if (at.group(1) != null) {
                found.add(new Token(here, at.start(),
                        WORDS.contains(here) ? here : here.length() > 8 ? "none" : "NAME"));
            } else if (at.group(2) != null) {
                found.add(new Token(here, at.start(), here.length() > 4 ? "none" : "INT"));
            } else if (at.group(3) != null) {
                found.add(new Token(here, at.start(), here));
            } else if (at.group(4) != null) {
                found.add(new Token(here, at.start(), "none"));
            }
        }
        return found;
    }

    private static final Map<String, String[][]> GRAMMAR = new HashMap<>();

    private static void rule(String left, String... rights) {
        String[][] all = new String[rights.length][];
        for (int i = 0; i < rights.length; i++) {
            all[i] = rights[i].isEmpty() ? new String[0] : rights[i].split(" ");
        }
        GRAMMAR.put(left, all);
    }

    static {
        rule("TEXT", "", "TEXT TELL");
        rule("TELL", "sign NAME if COND ;", "say NAME SORT if COND ;", "book NAME ;", "when NAME say NAME ;",
                "law NAME = E ;");
        rule("SORT", SORTS.toArray(new String[0]));
        rule("COND", "EVERY", "COND or EVERY");
        rule("EVERY", "LIT", "EVERY and LIT");
        rule("LIT", "not LIT", "E == E", "E != E", "E < E", "E <= E");
        rule("E", "PART", "E + PART", "E - PART");
        rule("PART", "UNIT", "PART * UNIT");
        rule("UNIT", "INT", "VAR", "( E )");
        rule("VAR", "way INT", "minute", "month", "years", "coat", "true", "false", "SORT");
    }

    private record Item(String left, int rule, int dot, int from) { }

    private static void close(List<List<Item>> sets, int at) {
        List<Item> set = sets.get(at);
        Set<Item> seen = new HashSet<>(set);
        for (int i = 0; i < set.size(); i++) {
            Item item = set.get(i);
            String[] right = GRAMMAR.get(item.left())[item.rule()];
            List<Item> more = new ArrayList<>();
            if (item.dot() == right.length) {
                for (Item back : List.copyOf(sets.get(item.from()))) {
                    String[] waits = GRAMMAR.get(back.left())[back.rule()];
                    if (back.dot() < waits.length && waits[back.dot()].equals(item.left())) {
                        more.add(new Item(back.left(), back.rule(), back.dot() + 1, back.from()));
                    }
                }
            } else if (GRAMMAR.containsKey(right[item.dot()])) {
                for (int k = 0; k < GRAMMAR.get(right[item.dot()]).length; k++) {
                    more.add(new Item(right[item.dot()], k, 0, at));
                }
            }
            for (Item one : more) {
                if (seen.add(one)) {
                    set.add(one);
                }
            }
        }
    }

    private static Fault earlyFault(List<Token> tokens, int length) {
        List<List<Item>> sets = new ArrayList<>();
        List<Item> first = new ArrayList<>(List.of(new Item("TEXT", 0, 0, 0), new Item("TEXT", 1, 0, 0)));
        sets.add(first);
        close(sets, 0);
        Map<String, Integer> told = new HashMap<>();
        Map<String, Integer> most = Map.of("sign", 6, "say", 16, "book", 4, "when", 40, "law", 4);
        int open = 0;
        for (int i = 0; i < tokens.size(); i++) {
            Token token = tokens.get(i);
            List<Item> next = new ArrayList<>();
            for (Item item : sets.get(i)) {
                String[] right = GRAMMAR.get(item.left())[item.rule()];
                if (item.dot() < right.length && right[item.dot()].equals(token.kind())) {
                    next.add(new Item(item.left(), item.rule(), item.dot() + 1, item.from()));
                }
            }
            if (next.isEmpty()) {
                return new Fault(token.place(), 1);
            }
            sets.add(next);
            close(sets, i + 1);
            if (i == 400) {
                return new Fault(token.place(), 2);
            }
            boolean firstOfTell = i == 0 || tokens.get(i - 1).kind().equals(";");
            if (firstOfTell && told.merge(token.kind(), 1, Integer::sum) > most.get(token.kind())) {
                return new Fault(token.place(), 2);
            }
            open += token.kind().equals("(") ? 1 : token.kind().equals(")") ? -1 : 0;
            if (open == 7) {
                return new Fault(token.place(), 2);
            }
        }
        for (Item item : sets.get(tokens.size())) {
            if (item.left().equals("TEXT") && item.from() == 0
                    && item.dot() == GRAMMAR.get("TEXT")[item.rule()].length) {
                return null;
            }
        }
        return new Fault(length, 1);
    }

    private static Fault laterFault(List<Token> tokens, Text fresh) {
        List<Fault> faults = new ArrayList<>();
        Map<String, String> kinds = new HashMap<>();
        Map<String, Integer> numbers = new HashMap<>();
        for (int i = 0; i + 1 < tokens.size(); i++) {
            if (tokens.get(i).kind().equals("way") && Integer.parseInt(tokens.get(i + 1).text()) > 7) {
                faults.add(new Fault(tokens.get(i + 1).place(), 5));
            }
        }
        int start = 0;
        while (start < tokens.size()) {
            int end = start;
            while (!tokens.get(end).kind().equals(";")) {
                end++;
            }
            tell(tokens.subList(start, end), fresh, faults, kinds, numbers);
            start = end + 1;
        }
        faults.sort((x, y) -> x.place() != y.place() ? x.place() - y.place() : x.number() - y.number());
        return faults.isEmpty() ? null : faults.get(0);
    }

    private static void tell(List<Token> tell, Text fresh, List<Fault> faults, Map<String, String> kinds,
            Map<String, Integer> numbers) {
        String kind = tell.get(0).kind();
        Token name = tell.get(1);
        if (kind.equals("when")) {
            Token second = tell.get(3);
            if (fresh.books == 0) {
                faults.add(new Fault(tell.get(0).place(), 4));
            }
            if (!"sign".equals(kinds.get(name.text()))) {
                faults.add(new Fault(name.place(), 4));
            }
            if (!"say".equals(kinds.get(second.text()))) {
                faults.add(new Fault(second.place(), 4));
            }
            if (faults.isEmpty()) {
                When when = new When(fresh.books - 1, numbers.get(name.text()), numbers.get(second.text()));
                if (fresh.whens.contains(when)) {
                    faults.add(new Fault(second.place(), 3));
                }
                fresh.whens.add(when);
            }
            return;
        }
        if (kinds.containsKey(name.text())) {
            faults.add(new Fault(name.place(), 3));
        } else {
            kinds.put(name.text(), kind);
        }
        switch (kind) {
            case "sign" -> {
                numbers.putIfAbsent(name.text(), fresh.signs.size());
                fresh.signs.add(tell.subList(3, tell.size()));
            }
            case "say" -> {
                numbers.putIfAbsent(name.text(), fresh.says.size());
                fresh.says.add(new Say(SORTS.indexOf(tell.get(2).text()), tell.subList(4, tell.size())));
            }
            case "book" -> fresh.books++;
            default -> fresh.laws.add(tell.subList(3, tell.size()));
        }
    }

    // ---- formulas, split at their last joint of the loosest kind

    private static int lastOutside(List<Token> part, List<String> kinds) {
        int depth = 0;
        for (int i = part.size() - 1; i >= 0; i--) {
            String kind = part.get(i).kind();
            depth += kind.equals(")") ? 1 : kind.equals("(") ? -1 : 0;
            if (depth == 0 && kinds.contains(kind)) {
                return i;
            }
        }
        return -1;
    }

    private static boolean isSo(List<Token> part, Map<String, Integer> vars) {
        int or = lastOutside(part, List.of("or"));
        if (or >= 0) {
            return isSo(part.subList(0, or), vars) | isSo(part.subList(or + 1, part.size()), vars);
        }
        int and = lastOutside(part, List.of("and"));
        if (and >= 0) {
            return isSo(part.subList(0, and), vars) & isSo(part.subList(and + 1, part.size()), vars);
        }
        if (part.get(0).kind().equals("not")) {
            return !isSo(part.subList(1, part.size()), vars);
        }
        int joint = lastOutside(part, List.of("==", "!=", "<", "<="));
        int left = number(part.subList(0, joint), vars);
        int right = number(part.subList(joint + 1, part.size()), vars);
        return switch (part.get(joint).kind()) {
            case "==" -> left == right;
            case "!=" -> left != right;
            case "<" -> left < right;
            default -> left <= right;
        };
    }

    private static int number(List<Token> part, Map<String, Integer> vars) {
        int joint = lastOutside(part, List.of("+", "-"));
        if (joint < 0) {
            joint = lastOutside(part, List.of("*"));
        }
        if (joint >= 0) {
            BigInteger left = BigInteger.valueOf(number(part.subList(0, joint), vars));
            BigInteger right = BigInteger.valueOf(number(part.subList(joint + 1, part.size()), vars));
            return switch (part.get(joint).kind()) {
                case "+" -> left.add(right).intValue();
                case "-" -> left.subtract(right).intValue();
                default -> left.multiply(right).intValue();
            };
        }
        String first = part.get(0).kind();
        if (first.equals("(")) {
            return number(part.subList(1, part.size() - 1), vars);
        }
        if (first.equals("INT")) {
            return Integer.parseInt(part.get(0).text());
        }
        String var = first.equals("way") ? "way" + Integer.parseInt(part.get(1).text()) : first;
        return vars.getOrDefault(var, 0);
    }

    private static Map<String, Integer> vars(int[] person) {
        Map<String, Integer> vars = new HashMap<>();
        vars.put("minute", person[0]);
        vars.put("month", person[1]);
        vars.put("years", person[2]);
        vars.put("coat", person[3]);
        for (int i = 0; i < 8; i++) {
            vars.put("way" + i, person[4 + i]);
        }
        return vars;
    }

    // ---- people

    private boolean isPerson(int p) {
        return p >= 0 && p < people.size();
    }

    int person(int minute, int month, int years, int coat, int ways) {
        if (people.size() == 20 || minute < 0 || minute > 59 || month < 0 || month > 11 || years < 0 || years > 9
                || coat < 0 || coat > 3 || ways < 0 || ways > 99999999) {
            return -1;
        }
        int[] one = new int[12];
        one[0] = minute;
        one[1] = month;
        one[2] = years;
        one[3] = coat;
        String digits = new StringBuilder(String.format("%08d", ways)).reverse().toString();
        for (int i = 0; i < 8; i++) {
            one[4 + i] = digits.charAt(i) - '0';
        }
        people.add(one);
        return people.size() - 1;
    }

    /** By numbers without a sign of 32 bits, held in longs. */
    static int lot(int n, int seed, int which) {
        long full = 0xFFFFFFFFL;
        long h = seed & full;
        for (long with : new long[] {7, which & full}) {
            h = BigInteger.valueOf(h ^ with).multiply(BigInteger.valueOf(1103515245)).add(BigInteger.valueOf(12345))
                    .mod(BigInteger.ONE.shiftLeft(32)).longValue();
            h = h ^ (h / 32768);
        }
        return (int) (h / 2 % n);
    }

    int world(int seed, int n, int strength) {
        if (n < 0 || n > 20 || strength < 0 || strength > 10) {
            return -1;
        }
        people.clear();
        for (int i = 0; i < n; i++) {
            int[] one = new int[12];
            one[0] = lot(60, seed, 20 * i);
            one[1] = lot(12, seed, 20 * i + 1);
            one[2] = lot(10, seed, 20 * i + 2);
            one[3] = lot(4, seed, 20 * i + 3);
            for (int k = 0; k < 8; k++) {
                one[4 + k] = lot(10, seed, 20 * i + 4 + k);
            }
            for (int k = 0; k < text.signs.size(); k++) {
                if (isSo(text.signs.get(k), vars(one)) && lot(10, seed, 20 * i + 12 + k) < strength) {
                    one[4 + k] = 9;
                }
            }
            people.add(one);
        }
        return n;
    }

    int of(int p, int what) {
        if (!isPerson(p)) {
            return -1;
        }
        if (what >= 0 && what <= 3) {
            return people.get(p)[what];
        }
        return what >= 10 && what <= 17 ? people.get(p)[what - 6] : -1;
    }

    private int up(int p, int minute) {
        int[] one = people.get(p).clone();
        one[0] = minute;
        int bits = 0;
        for (int k = 0; k < text.signs.size(); k++) {
            bits |= isSo(text.signs.get(k), vars(one)) ? 1 << k : 0;
        }
        return bits;
    }

    private boolean isUp(int p, int sign) {
        return (up(p, people.get(p)[0]) >> sign & 1) == 1;
    }

    private boolean isTrue(int p, int say) {
        return isSo(text.says.get(say).cond(), vars(people.get(p)));
    }

    int signs(int p, int minute) {
        if (!isPerson(p) || minute < -1 || minute > 59) {
            return -1;
        }
        return up(p, minute < 0 ? people.get(p)[0] : minute);
    }

    /** The multiple of the step that is nearest; of two as near, the higher one. */
    private int round(int minute, int step) {
        int best = 0;
        for (int m = 0; m <= 120; m += step) {
            if (Math.abs(m - minute) <= Math.abs(best - minute)) {
                best = m;
            }
        }
        return best >= 60 ? best - 60 : best;
    }

    int rounded(int p, int step) {
        return !isPerson(p) || step < 2 || step > 30 ? -1 : up(p, round(people.get(p)[0], step));
    }

    int moved(int p, int m, boolean some) {
        if (!isPerson(p) || m < 0 || m > 30) {
            return -1;
        }
        int any = 0;
        int all = -1;
        for (int minute = 0; minute < 60; minute++) {
            int away = Math.abs(minute - people.get(p)[0]);
            if (Math.min(away, 60 - away) <= m) {
                any |= up(p, minute);
                all &= up(p, minute);
            }
        }
        return some ? any : all;
    }

    // ---- sentences and papers

    private boolean isSay(int s) {
        return s >= 0 && s < text.says.size();
    }

    private boolean isSign(int s) {
        return s >= 0 && s < text.signs.size();
    }

    private boolean isBook(int b) {
        return b >= 0 && b < text.books;
    }

    private boolean isLaw(int l) {
        return l >= 0 && l < text.laws.size();
    }

    int holds(int s, int p) {
        return !isSay(s) || !isPerson(p) ? -1 : isTrue(p, s) ? 1 : 0;
    }

    int sort(int s) {
        return isSay(s) ? text.says.get(s).sort() : -1;
    }

    private Set<Integer> paperAt(int book, int p, int minute) {
        Set<Integer> says = new HashSet<>();
        int up = up(p, minute);
        for (When when : text.whens) {
            if (when.book() == book && (up >> when.sign() & 1) == 1) {
                says.add(when.say());
            }
        }
        return says;
    }

    private Set<Integer> paperOf(int book, int p) {
        return paperAt(book, p, people.get(p)[0]);
    }

    int paper(int book, int p) {
        if (!isBook(book) || !isPerson(p)) {
            return -1;
        }
        int bits = 0;
        for (int s : paperOf(book, p)) {
            bits += 1 << s;
        }
        return bits;
    }

    int altered(int book, int step) {
        if (!isBook(book) || step < 2 || step > 30) {
            return -1;
        }
        int found = 0;
        for (int p = 0; p < people.size(); p++) {
            found += paperOf(book, p).equals(paperAt(book, p, round(people.get(p)[0], step))) ? 0 : 1;
        }
        return found;
    }

    int truly(int s, int book, int what) {
        if (!isSay(s) || !isBook(book) || what < 0 || what > 3) {
            return -1;
        }
        int[] found = new int[4];
        for (int p = 0; p < people.size(); p++) {
            boolean there = paperOf(book, p).contains(s);
            if (isTrue(p, s)) {
                found[0]++;
                found[there ? 1 : 2]++;
            }
            if (there) {
                found[3]++;
            }
        }
        return found[what];
    }

    int left(int book, int p, int most) {
        if (!isBook(book) || !isPerson(p) || most < 0 || most > 20) {
            return -1;
        }
        int found = 0;
        for (int s : paperOf(book, p)) {
            int trueOf = 0;
            for (int q = 0; q < people.size(); q++) {
                trueOf += isTrue(q, s) ? 1 : 0;
            }
            found += isTrue(p, s) && trueOf <= most ? 1 : 0;
        }
        return found;
    }

    private int fitOf(int law, int book, int p, int from, int without) {
        Map<String, Integer> vars = vars(people.get(p));
        for (int s : paperOf(book, from)) {
            int sort = text.says.get(s).sort();
            if ((without >> sort & 1) == 0) {
                vars.merge(isTrue(p, s) ? "true" : "false", 1, Integer::sum);
                if (isTrue(p, s)) {
                    vars.merge(SORTS.get(sort), 1, Integer::sum);
                }
            }
        }
        return number(text.laws.get(law), vars);
    }

    int fit(int law, int book, int p, int from, int without) {
        if (!isLaw(law) || !isBook(book) || !isPerson(p) || !isPerson(from) || without < 0 || without > 127) {
            return Integer.MIN_VALUE;
        }
        return fitOf(law, book, p, from, without);
    }

    private int sixths(int law, int book, int p, int q, int r) {
        return sixths(fitOf(law, book, p, p, 0), fitOf(law, book, p, q, 0), fitOf(law, book, p, r, 0));
    }

    private static int sixths(int own, int second, int third) {
        if (Math.max(second, third) > own) {
            return 0;
        }
        return 6 / (1 + (second == own ? 1 : 0) + (third == own ? 1 : 0));
    }

    int choose(int law, int book, int p, int q, int r) {
        if (!isLaw(law) || !isBook(book) || !isPerson(p) || !isPerson(q) || !isPerson(r)
                || Set.copyOf(Arrays.asList(p, q, r)).size() < 3) {
            return -1;
        }
        return sixths(law, book, p, q, r);
    }

    private int[] givenTo(int p, int seed) {
        List<Integer> others = new ArrayList<>();
        for (int i = 0; i < people.size(); i++) {
            others.add(i);
        }
        int n = others.size();
        others.remove(p);
        int q = others.remove(lot(n - 1, seed, 2 * p));
        int r = others.get(lot(n - 2, seed, 2 * p + 1));
        return new int[] {q, r};
    }

    int trial(int law, int book, int seed) {
        if (!isLaw(law) || !isBook(book) || people.size() < 3) {
            return -1;
        }
        int sum = 0;
        for (int p = 0; p < people.size(); p++) {
            int[] two = givenTo(p, seed);
            sum += sixths(law, book, p, two[0], two[1]);
        }
        return sum;
    }

    int given(int p, int seed, int what) {
        return !isPerson(p) || people.size() < 3 || what < 0 || what > 1 ? -1 : givenTo(p, seed)[what];
    }

    int whole(int law, int book) {
        if (!isLaw(law) || !isBook(book)) {
            return -1;
        }
        int twice = 0;
        int n = people.size();
        for (int p = 0; p < n; p++) {
            int[] fits = new int[n];
            for (int from = 0; from < n; from++) {
                fits[from] = fitOf(law, book, p, from, 0);
            }
            for (int q = 0; q < n; q++) {
                for (int r = 0; r < n; r++) {
                    twice += p != q && p != r && q != r ? sixths(fits[p], fits[q], fits[r]) : 0;
                }
            }
        }
        return twice / 2;
    }

    int pleased(int law, int book, int least, boolean others) {
        if (!isLaw(law) || !isBook(book)) {
            return -1;
        }
        int own = 0;
        int all = 0;
        for (int p = 0; p < people.size(); p++) {
            for (int q = 0; q < people.size(); q++) {
                int isPleased = fitOf(law, book, p, q, 0) >= least ? 1 : 0;
                all += isPleased;
                own += p == q ? isPleased : 0;
            }
        }
        return others ? all - own : own;
    }

    // ---- chances

    private static BigInteger rows(int n, int right, int a, int b) {
        BigInteger ways = BigInteger.ONE;
        for (int i = 0; i < right; i++) {
            ways = ways.multiply(BigInteger.valueOf(n - i)).divide(BigInteger.valueOf(i + 1));
        }
        return ways.multiply(BigInteger.valueOf(a).pow(right)).multiply(BigInteger.valueOf(b - a).pow(n - right));
    }

    private static BigInteger tailOf(int n, int r, int a, int b) {
        BigInteger sum = BigInteger.ZERO;
        for (int right = r; right <= n; right++) {
            sum = sum.add(rows(n, right, a, b));
        }
        return sum;
    }

    long tail(int n, int r, int a, int b) {
        if (n < 0 || n > 30 || r < 0 || r > 31 || b < 1 || b > 4 || a < 0 || a > b) {
            return -1;
        }
        return tailOf(n, r, a, b).longValueExact();
    }

    int agree(int u, int v, int what) {
        if (u < 2 || u > 1000 || v < 2 || v > 1000 || what < 0 || what > 1) {
            return -1;
        }
        for (int n = 1; n <= 30; n++) {
            BigInteger three = BigInteger.valueOf(3).pow(n);
            BigInteger two = BigInteger.TWO.pow(n);
            for (int r = 0; r <= 31; r++) {
                BigInteger chance = tailOf(n, r, 1, 3).multiply(BigInteger.valueOf(u));
                BigInteger miss = two.subtract(tailOf(n, r, 1, 2)).multiply(BigInteger.valueOf(v));
                if (chance.compareTo(three) <= 0 && miss.compareTo(two) <= 0) {
                    return what == 0 ? n : r;
                }
            }
        }
        return -2;
    }

    int table(int sign, int say, int what) {
        if (!isSign(sign) || !isSay(say) || what < 0 || what > 3) {
            return -1;
        }
        int[] parts = new int[4];
        for (int p = 0; p < people.size(); p++) {
            parts[0]++;
            parts[1] += isUp(p, sign) ? 1 : 0;
            parts[2] += isTrue(p, say) ? 1 : 0;
            parts[3] += isUp(p, sign) && isTrue(p, say) ? 1 : 0;
        }
        return parts[what];
    }

    /** One PERSON of a class after the other is taken or not: in how many ways as many as are UP, so many of them in. */
    private static long[] takingsOf(boolean[] up, boolean[] in, int[] classes, int number) {
        long[][] ways = new long[21][21];
        ways[0][0] = 1;
        int quota = 0;
        for (int p = 0; p < up.length; p++) {
            if (classes[p] == number) {
                quota += up[p] ? 1 : 0;
                for (int taken = 19; taken >= 0; taken--) {
                    for (int inside = 19; inside >= 0; inside--) {
                        ways[taken + 1][inside + (in[p] ? 1 : 0)] += ways[taken][inside];
                    }
                }
            }
        }
        return ways[quota];
    }

    private static long[] takings(boolean[] up, boolean[] in, int[] classes) {
        long[] found = new long[21];
        found[0] = 1;
        for (int number = 0; number < 10; number++) {
            long[] here = takingsOf(up, in, classes, number);
            long[] both = new long[21];
            for (int i = 0; i <= 20; i++) {
                for (int k = 0; i + k <= 20; k++) {
                    both[i + k] += found[i] * here[k];
                }
            }
            found = both;
        }
        return found;
    }

    private long ways(boolean[] up, boolean[] in, int[] classes, boolean more) {
        int both = 0;
        for (int p = 0; p < up.length; p++) {
            both += up[p] && in[p] ? 1 : 0;
        }
        long sum = 0;
        long[] takings = takings(up, in, classes);
        for (int inside = more ? both : 0; inside <= 20; inside++) {
            sum += takings[inside];
        }
        return sum;
    }

    private boolean[] upOnes(int sign) {
        boolean[] up = new boolean[people.size()];
        for (int p = 0; p < up.length; p++) {
            up[p] = isUp(p, sign);
        }
        return up;
    }

    private boolean[] trueOnes(int say) {
        boolean[] in = new boolean[people.size()];
        for (int p = 0; p < in.length; p++) {
            in[p] = isTrue(p, say);
        }
        return in;
    }

    long chances(int sign, int say, boolean more) {
        if (!isSign(sign) || !isSay(say)) {
            return -1;
        }
        return ways(upOnes(sign), trueOnes(say), new int[people.size()], more);
    }

    long within(int sign, int say, int by, boolean more) {
        if (!isSign(sign) || !isSay(say) || by < 0 || by > 2) {
            return -1;
        }
        int[] classes = new int[people.size()];
        for (int p = 0; p < classes.length; p++) {
            int[] one = people.get(p);
            classes[p] = by == 0 ? one[1] / 3 : by == 1 ? one[2] : one[3];
        }
        return ways(upOnes(sign), trueOnes(say), classes, more);
    }

    int striking() {
        int best = -1;
        long bestMore = 0;
        long bestAll = 0;
        for (int sign = 0; sign < text.signs.size(); sign++) {
            for (int say = 0; say < text.says.size(); say++) {
                long more = chances(sign, say, true);
                long all = chances(sign, say, false);
                if (best < 0 || BigInteger.valueOf(more).multiply(BigInteger.valueOf(bestAll))
                        .compareTo(BigInteger.valueOf(bestMore).multiply(BigInteger.valueOf(all))) < 0) {
                    best = 100 * sign + say;
                    bestMore = more;
                    bestAll = all;
                }
            }
        }
        return best;
    }

    int bound(int k) {
        if (k < 1 || k > 10000) {
            return -1;
        }
        int found = 0;
        for (int sign = 0; sign < text.signs.size(); sign++) {
            for (int say = 0; say < text.says.size(); say++) {
                found += chances(sign, say, true) * k <= chances(sign, say, false) ? 1 : 0;
            }
        }
        return found;
    }

    // ---- facts

    private int add(Fact fact) {
        if (facts.size() == 60) {
            return -1;
        }
        facts.add(fact);
        return facts.size() - 1;
    }

    int choice(int p, boolean right, int sure) {
        return !isPerson(p) || sure < 1 || sure > 5 ? -1 : add(new Fact(right ? "right" : "missed", p, sure));
    }

    int list(int p, boolean is) {
        return !isPerson(p) ? -1 : add(new Fact(is ? "on" : "left", p, 0));
    }

    int tried(int sign, int sort) {
        return !isSign(sign) || sort < 0 || sort > 9 ? -1 : add(new Fact("tried", sign, sort));
    }

    int annul(int fact) {
        if (fact < 0 || fact >= facts.size() || facts.get(fact).kind().equals("void")) {
            return -1;
        }
        return add(new Fact("void", fact, 0));
    }

    private List<Fact> known(int n) {
        Set<Integer> gone = new HashSet<>();
        for (Fact fact : facts.subList(0, n)) {
            if (fact.kind().equals("void")) {
                gone.add(fact.subject());
            }
        }
        List<Fact> known = new ArrayList<>();
        for (int i = 0; i < n; i++) {
            if (!gone.contains(i)) {
                known.add(facts.get(i));
            }
        }
        return known;
    }

    private boolean isKnowable(int n) {
        return n >= 0 && n <= facts.size();
    }

    int choices(int n, int what) {
        if (!isKnowable(n) || what < 0 || what > 3) {
            return -1;
        }
        int[] found = new int[4];
        for (Fact fact : known(n)) {
            if (fact.kind().equals("right")) {
                found[0]++;
                found[1]++;
                found[2] += fact.value();
            } else if (fact.kind().equals("missed")) {
                found[0]++;
                found[3] += fact.value();
            }
        }
        return found[what];
    }

    int sure(int n, int sure, int what) {
        if (!isKnowable(n) || sure < 1 || sure > 5 || what < 0 || what > 1) {
            return -1;
        }
        int found = 0;
        for (Fact fact : known(n)) {
            boolean right = fact.kind().equals("right");
            boolean missed = fact.kind().equals("missed");
            found += fact.value() == sure && (right || missed && what == 0) ? 1 : 0;
        }
        return found;
    }

    int surer(int n, int what) {
        if (!isKnowable(n) || what < 0 || what > 2) {
            return -1;
        }
        int[] found = new int[3];
        for (Fact right : known(n)) {
            for (Fact missed : known(n)) {
                if (right.kind().equals("right") && missed.kind().equals("missed")) {
                    found[right.value() > missed.value() ? 0 : right.value() == missed.value() ? 1 : 2]++;
                }
            }
        }
        return found[what];
    }

    private boolean isOn(int p, int n) {
        List<Fact> known = known(n);
        int on = known.lastIndexOf(new Fact("on", p, 0));
        return on >= 0 && known.lastIndexOf(new Fact("left", p, 0)) < on;
    }

    int on(int p, int n) {
        return !isPerson(p) || !isKnowable(n) ? -1 : isOn(p, n) ? 1 : 0;
    }

    private boolean[] listed(int n) {
        boolean[] in = new boolean[people.size()];
        for (int p = 0; p < in.length; p++) {
            in[p] = isOn(p, n);
        }
        return in;
    }

    private int tries(int n) {
        Set<Fact> unlike = new HashSet<>();
        for (Fact fact : known(n)) {
            if (fact.kind().equals("tried")) {
                unlike.add(fact);
            }
        }
        return unlike.size();
    }

    private boolean stands(int sign, int n) {
        return odds(sign, n, true) * Math.max(1, tries(n)) * 20 <= odds(sign, n, false);
    }

    int red(int sign, int n, int what) {
        if (!isSign(sign) || !isKnowable(n) || what < 0 || what > 4) {
            return -1;
        }
        int[] found = new int[5];
        boolean[] in = listed(n);
        for (int p = 0; p < in.length; p++) {
            found[0] += in[p] ? 1 : 0;
            found[1] += in[p] && isUp(p, sign) ? 1 : 0;
            found[2] += isUp(p, sign) ? 1 : 0;
        }
        found[3] = tries(n);
        found[4] = stands(sign, n) ? 1 : 0;
        return found[what];
    }

    long odds(int sign, int n, boolean more) {
        if (!isSign(sign) || !isKnowable(n)) {
            return -1;
        }
        return ways(upOnes(sign), listed(n), new int[people.size()], more);
    }

    int turned(int sign, int from) {
        if (!isSign(sign) || from < 0 || from >= facts.size()) {
            return -1;
        }
        for (int fact = from; fact < facts.size(); fact++) {
            if (stands(sign, fact) != stands(sign, fact + 1)) {
                return fact;
            }
        }
        return -1;
    }

    int count(int what) {
        int[] all = {people.size(), text.signs.size(), text.says.size(), text.books, text.laws.size(),
            text.whens.size(), facts.size(), tape.length()};
        return what >= 0 && what < all.length ? all[what] : -1;
    }
}

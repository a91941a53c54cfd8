import java.util.ArrayList;
import java.util.List;
import java.util.Random;

/** Random texts: such as the grammar makes, and such as it nearly makes. */
final class Texts {
    private final Random random;
    private final List<String> parts = new ArrayList<>();

    Texts(Random random) {
        this.random = random;
    }

    private static final String[] MARKS = {";", "=", "+", "-", "*", "==", "!=", "<", "<=", "(", ")"};
    private static final String[] VARS = {"minute", "month", "years", "coat", "true", "false", "all", "kind", "two",
        "sharp", "known", "age", "wrong"};
    private static final String[] WORDS = {"sign", "if", "say", "book", "when", "law", "or", "and", "not", "way"};
    private static final String[] ODD = {".", "!", ">", "A", "a9", "99999", "ninechars", "eightchr", "0007", "\u00e9",
        "\u0000", "\u00ff", "_", ">=", "===", "<==", "\u000b", "12345678901234567890", "signs", "x", "8", "way 8"};
    private static final String[] BLANKS = {" ", "\n", "\t", "\r", "  ", " \r\n "};

    /** A text without FAULTS, unless its formulas grow too long. */
    String good() {
        parts.clear();
        int signs = 1 + random.nextInt(6);
        int says = 1 + random.nextInt(random.nextBoolean() ? 4 : 16);
        for (int i = 0; i < signs; i++) {
            add("sign", "s" + letter(i), "if");
            condition(2);
            add(";");
        }
        for (int i = 0; i < says; i++) {
            add("say", "t" + letter(i), Model.SORTS.get(random.nextInt(7)), "if");
            condition(2);
            add(";");
        }
        int laws = 1 + random.nextInt(3);
        for (int i = 0; i < laws; i++) {
            add("law", "l" + letter(i), "=");
            if (random.nextBoolean()) {
                add("true", "*", "2", "-", "false", "+");
            }
            sum(2);
            add(";");
        }
        books(signs, says);
        return joined();
    }

    private void books(int signs, int says) {
        int books = 1 + random.nextInt(4);
        int whens = 0;
        for (int b = 0; b < books; b++) {
            add("book", "b" + letter(b), ";");
            List<String> told = new ArrayList<>();
            for (int i = random.nextInt(10); i > 0 && whens < 40; i--) {
                String sign = "s" + letter(random.nextInt(signs));
                String say = "t" + letter(random.nextInt(says));
                if (!told.contains(sign + say)) {
                    told.add(sign + say);
                    add("when", sign, "say", say, ";");
                    whens++;
                }
            }
        }
    }

    /** TELLS in any order with few names, more than there is room for now and then: FAULTS of all kinds. */
    String mixed() {
        parts.clear();
        int tells = random.nextInt(random.nextBoolean() ? 8 : 60);
        int kind = random.nextInt(5);
        for (int i = 0; i < tells; i++) {
            tell(random.nextInt(3) == 0 ? random.nextInt(5) : kind, i);
        }
        return joined();
    }

    private void tell(int kind, int i) {
        boolean fresh = random.nextInt(8) > 0;
        String name = fresh ? "n" + letter(i) : "n" + letter(random.nextInt(i + 1));
        switch (kind) {
            case 0 -> {
                add("sign", name, "if");
                condition(1);
                add(";");
            }
            case 1 -> {
                add("say", name, Model.SORTS.get(random.nextInt(7)), "if");
                condition(1);
                add(";");
            }
            case 2 -> add("book", name, ";");
            case 3 -> add("when", "n" + letter(random.nextInt(i + 1)), "say", "n" + letter(random.nextInt(i + 1)), ";");
            default -> {
                add("law", name, "=");
                sum(random.nextInt(9));
                add(";");
            }
        }
    }

    /** A good or mixed text with some of its parts left out, doubled, changed or put in. */
    String broken() {
        String ignored = random.nextBoolean() ? good() : mixed();
        int changes = 1 + random.nextInt(3);
        for (int i = 0; i < changes && !parts.isEmpty(); i++) {
            int at = random.nextInt(parts.size());
            switch (random.nextInt(5)) {
                case 0 -> parts.remove(at);
                case 1 -> parts.add(at, parts.get(at));
                case 2 -> parts.set(at, any());
                case 3 -> parts.add(at, any());
                default -> parts.subList(at, parts.size()).clear();
            }
        }
        return joined();
    }

    /** Parts by chance alone. */
    String loose() {
        parts.clear();
        for (int i = random.nextInt(12); i > 0; i--) {
            add(any());
        }
        return joined();
    }

    /** A law of about so many TOKENS, with brackets about so deep. */
    String longOne(int tokens, int deep) {
        parts.clear();
        add("law", "x", "=");
        for (int i = 0; i < deep; i++) {
            add("(");
        }
        add("1");
        while (parts.size() < tokens - deep - 2) {
            add(random.nextBoolean() ? "+" : "*", String.valueOf(random.nextInt(10)));
        }
        for (int i = 0; i < deep; i++) {
            add(")");
        }
        add(";");
        return joinedTightly();
    }

    private String any() {
        return switch (random.nextInt(6)) {
            case 0 -> pick(MARKS);
            case 1 -> pick(VARS);
            case 2 -> pick(WORDS);
            case 3 -> pick(ODD);
            case 4 -> String.valueOf(random.nextInt(12));
            default -> "n" + letter(random.nextInt(5));
        };
    }

    private void condition(int size) {
        literal(size);
        while (random.nextInt(4) == 0) {
            add(random.nextBoolean() ? "and" : "or");
            literal(size);
        }
    }

    private void literal(int size) {
        while (random.nextInt(5) == 0) {
            add("not");
        }
        switch (random.nextInt(4)) {
            case 0 -> add("minute", pick("<", "<="), String.valueOf(random.nextInt(60)));
            case 1 -> add("way", String.valueOf(random.nextInt(8)), pick("<", "<="), String.valueOf(random.nextInt(10)));
            default -> {
                sum(size);
                add(pick("==", "!=", "<", "<="));
                sum(size);
            }
        }
    }

    private void sum(int size) {
        unit(size);
        while (random.nextInt(3) == 0) {
            add(pick("+", "-", "*"));
            unit(size);
        }
    }

    private void unit(int size) {
        int kind = random.nextInt(size > 0 ? 4 : 3);
        if (size > 4 && random.nextInt(3) > 0) {
            kind = 3;
        }
        switch (kind) {
            case 0 -> add(String.valueOf(random.nextInt(random.nextBoolean() ? 10 : 10000)));
            case 1 -> add("way", String.valueOf(random.nextInt(40) == 0 ? 8 : random.nextInt(8)));
            case 2 -> add(pick(VARS));
            default -> {
                add("(");
                sum(size - 1);
                add(")");
            }
        }
    }

    private String pick(String... from) {
        return from[random.nextInt(from.length)];
    }

    private static String letter(int i) {
        return i < 26 ? String.valueOf((char) ('a' + i)) : "z" + (char) ('a' + i % 26) + (char) ('a' + i / 26);
    }

    private void add(String... some) {
        parts.addAll(List.of(some));
    }

    private String joined() {
        StringBuilder text = new StringBuilder();
        for (String part : parts) {
            boolean touches = text.length() > 0 && !part.isEmpty()
                    && isWordy(text.charAt(text.length() - 1)) && isWordy(part.charAt(0));
            if (touches ? random.nextInt(200) > 0 : random.nextInt(3) == 0) {
                text.append(random.nextInt(20) == 0 ? pick(BLANKS) : " ");
            }
            text.append(part);
        }
        if (random.nextInt(4) == 0) {
            text.append(pick(BLANKS));
        }
        return text.length() <= 1980 ? text.toString() : text.substring(0, 1980);
    }

    private String joinedTightly() {
        StringBuilder text = new StringBuilder();
        for (int i = 0; i < parts.size(); i++) {
            text.append(parts.get(i)).append(i == 0 ? " " : "");
        }
        return text.toString();
    }

    private static boolean isWordy(char c) {
        return Character.isLetterOrDigit(c);
    }
}

import java.nio.charset.StandardCharsets;
import java.util.Random;

/** Random runs of calls: each answer is held against the Model's. Arguments: how many runs, the first seed. */
public final class ModelTest {
    private static final Due DUE = new Due();

    private final Random random;
    private final Texts texts;
    private final SkyTrial house = new SkyTrial();
    private final Model model = new Model();
    private final String run;

    private ModelTest(int seed) {
        random = new Random(seed);
        texts = new Texts(random);
        run = "run " + seed + ": ";
    }

    public static void main(String[] args) {
        int runs = args.length > 0 ? Integer.parseInt(args[0]) : 90;
        int first = args.length > 1 ? Integer.parseInt(args[1]) : 1;
        for (int seed = first; seed < first + runs && DUE.isAsDue(); seed++) {
            ModelTest one = new ModelTest(seed);
            if (seed % 3 == 0) {
                one.readTexts();
            } else {
                one.callAll();
            }
        }
        DUE.end();
    }

    /** Many texts on one object, good ones after broken ones: what a FAULT leaves behind would show. */
    private void readTexts() {
        for (int i = 0; i < 40; i++) {
            String text = switch (random.nextInt(6)) {
                case 0 -> texts.good();
                case 1 -> texts.mixed();
                case 2 -> texts.loose();
                case 3 -> texts.longOne(396 + random.nextInt(8), random.nextInt(9));
                default -> texts.broken();
            };
            readText(text);
        }
    }

    private void readText(String text) {
        byte[] bytes = text.getBytes(StandardCharsets.ISO_8859_1);
        int length = (bytes.length + 19) / 20 * 20;
        int[] words = Due.words(bytes, length);
        for (int i = 0; i < words.length; i += 5) {
            int got = house.feed(words[i], words[i + 1], words[i + 2], words[i + 3], words[i + 4]);
            due("feed", got, model.feed(words[i], words[i + 1], words[i + 2], words[i + 3], words[i + 4]));
        }
        due("back", house.back(length - bytes.length), model.back(length - bytes.length));
        due("read of <" + text + ">", house.read(), model.read());
        due("place of <" + text + ">", house.place(), model.place);
        for (int what = -1; what <= 8; what++) {
            due("count(" + what + ")", house.count(what), model.count(what));
        }
    }

    private void due(String call, long got, long want) {
        DUE.is(run + call, got, want);
    }

    private int near(int least, int most) {
        if (random.nextInt(40) == 0) {
            return random.nextInt();
        }
        return least - (random.nextInt(15) == 0 ? 1 : 0) + random.nextInt(Math.max(1, most - least + 1))
                + (random.nextInt(15) == 0 ? 1 : 0);
    }

    private int who() {
        return near(0, model.people.size() - 1);
    }

    private int sign() {
        return near(0, model.text.signs.size() - 1);
    }

    private int say() {
        return near(0, model.text.says.size() - 1);
    }

    private int book() {
        return near(0, model.text.books - 1);
    }

    private int law() {
        return near(0, model.text.laws.size() - 1);
    }

    private int known() {
        return near(0, model.facts.size());
    }

    private void callAll() {
        readText(texts.good());
        if (random.nextBoolean()) {
            int seed = random.nextInt();
            int n = random.nextInt(21);
            due("world", house.world(seed, n, 7), model.world(seed, n, 7));
        }
        for (int i = 0; i < 300; i++) {
            switch (random.nextInt(12)) {
                case 0, 1 -> change();
                case 2, 3 -> askPeople();
                case 4, 5 -> askPapers();
                case 6 -> askTrials();
                case 7 -> askChances();
                case 8, 9 -> addFact();
                default -> askFacts();
            }
        }
    }

    private void change() {
        int kind = random.nextInt(40);
        if (kind == 0) {
            readText(texts.good());
        } else if (kind == 1) {
            readText(texts.broken());
        } else if (kind == 2) {
            int a = random.nextInt();
            due("feed", house.feed(a, a, a, a, a), model.feed(a, a, a, a, a));
            int n = near(0, 20);
            due("back(" + n + ")", house.back(n), model.back(n));
        } else if (kind < 7) {
            int seed = random.nextInt();
            int n = near(0, 20);
            int strength = near(0, 10);
            due("world(" + seed + ", " + n + ", " + strength + ")", house.world(seed, n, strength),
                    model.world(seed, n, strength));
        } else {
            int minute = near(0, 59);
            int month = near(0, 11);
            int years = near(0, 9);
            int coat = near(0, 3);
            int ways = random.nextInt(10) == 0 ? 99999999 + random.nextInt(2) : random.nextInt(100000000);
            due("person", house.person(minute, month, years, coat, ways),
                    model.person(minute, month, years, coat, ways));
        }
    }

    private void askPeople() {
        int p = who();
        int n = near(-1, 59);
        int step = near(2, 30);
        int m = near(0, 30);
        boolean some = random.nextBoolean();
        int what = near(0, 17);
        int s = say();
        String of = "(" + p + ", ";
        due("of" + of + what + ")", house.of(p, what), model.of(p, what));
        due("signs" + of + n + ")", house.signs(p, n), model.signs(p, n));
        due("rounded" + of + step + ")", house.rounded(p, step), model.rounded(p, step));
        due("moved" + of + m + ", " + some + ")", house.moved(p, m, some), model.moved(p, m, some));
        due("holds(" + s + ", " + p + ")", house.holds(s, p), model.holds(s, p));
        due("sort(" + s + ")", house.sort(s), model.sort(s));
    }

    private void askPapers() {
        int p = who();
        int b = book();
        int s = say();
        int step = near(2, 30);
        int what = near(0, 3);
        int most = near(0, 20);
        int without = near(0, 127);
        int from = who();
        int l = law();
        due("paper(" + b + ", " + p + ")", house.paper(b, p), model.paper(b, p));
        due("altered(" + b + ", " + step + ")", house.altered(b, step), model.altered(b, step));
        due("truly(" + s + ", " + b + ", " + what + ")", house.truly(s, b, what), model.truly(s, b, what));
        due("left(" + b + ", " + p + ", " + most + ")", house.left(b, p, most), model.left(b, p, most));
        due("fit(" + l + ", " + b + ", " + p + ", " + from + ", " + without + ")",
                house.fit(l, b, p, from, without), model.fit(l, b, p, from, without));
    }

    private void askTrials() {
        int l = law();
        int b = book();
        int p = who();
        int q = who();
        int r = who();
        int seed = random.nextInt();
        int what = near(0, 1);
        int least = random.nextInt(9) - 3;
        boolean others = random.nextBoolean();
        String by = "(" + l + ", " + b + ", ";
        due("choose" + by + p + ", " + q + ", " + r + ")", house.choose(l, b, p, q, r), model.choose(l, b, p, q, r));
        due("trial" + by + seed + ")", house.trial(l, b, seed), model.trial(l, b, seed));
        due("given(" + p + ", " + seed + ", " + what + ")", house.given(p, seed, what), model.given(p, seed, what));
        due("pleased" + by + least + ", " + others + ")", house.pleased(l, b, least, others),
                model.pleased(l, b, least, others));
        if (random.nextInt(3) == 0) {
            due("whole" + by + ")", house.whole(l, b), model.whole(l, b));
        }
    }

    private void askChances() {
        int n = near(0, 30);
        int r = near(0, 31);
        int b = near(1, 4);
        int a = near(0, Math.max(0, Math.min(b, 4)));
        int u = near(2, random.nextBoolean() ? 40 : 1000);
        int v = near(2, random.nextBoolean() ? 40 : 1000);
        int what = near(0, 3);
        int g = sign();
        int s = say();
        int by = near(0, 2);
        boolean more = random.nextBoolean();
        due("tail(" + n + ", " + r + ", " + a + ", " + b + ")", house.tail(n, r, a, b), model.tail(n, r, a, b));
        due("table(" + g + ", " + s + ", " + what + ")", house.table(g, s, what), model.table(g, s, what));
        due("chances(" + g + ", " + s + ")", house.chances(g, s, more), model.chances(g, s, more));
        due("within(" + g + ", " + s + ", " + by + ")", house.within(g, s, by, more), model.within(g, s, by, more));
        if (random.nextInt(8) == 0) {
            int k = near(1, random.nextBoolean() ? 10 : 10000);
            due("agree(" + u + ", " + v + ", " + what + ")", house.agree(u, v, what), model.agree(u, v, what));
            due("striking()", house.striking(), model.striking());
            due("bound(" + k + ")", house.bound(k), model.bound(k));
        }
    }

    private void addFact() {
        int p = who();
        boolean is = random.nextInt(3) > 0;
        int sure = near(1, 5);
        int g = sign();
        int sort = near(0, random.nextBoolean() ? 1 : 9);
        int fact = near(0, model.facts.size() - 1);
        switch (random.nextInt(9)) {
            case 0, 1 -> due("choice", house.choice(p, is, sure), model.choice(p, is, sure));
            case 2 -> due("tried", house.tried(g, sort), model.tried(g, sort));
            case 3 -> due("annul(" + fact + ")", house.annul(fact), model.annul(fact));
            case 4, 5 -> {
                // A list that follows a SIGN is the one that may stand.
                boolean up = model.signs(p, -1) > 0 && (model.signs(p, -1) & 1) == 1;
                due("list", house.list(p, up), model.list(p, up));
            }
            default -> due("list", house.list(p, is), model.list(p, is));
        }
    }

    private void askFacts() {
        int n = known();
        int what = near(0, 4);
        int sure = near(1, 5);
        int p = who();
        int g = sign();
        boolean more = random.nextBoolean();
        String by = "(" + n + ", ";
        due("choices" + by + what + ")", house.choices(n, what), model.choices(n, what));
        due("sure" + by + sure + ", " + what + ")", house.sure(n, sure, what), model.sure(n, sure, what));
        due("surer" + by + what + ")", house.surer(n, what), model.surer(n, what));
        due("on(" + p + ", " + n + ")", house.on(p, n), model.on(p, n));
        due("red(" + g + ", " + n + ", " + what + ")", house.red(g, n, what), model.red(g, n, what));
        due("odds(" + g + ", " + n + ")", house.odds(g, n, more), model.odds(g, n, more));
        if (random.nextInt(6) == 0) {
            int from = near(0, model.facts.size() - 1);
            due("turned(" + g + ", " + from + ")", house.turned(g, from), model.turned(g, from));
        }
    }
}

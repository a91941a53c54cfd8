import java.lang.reflect.Constructor;
import java.lang.reflect.Field;
import java.lang.reflect.Method;
import java.lang.reflect.Modifier;
import java.nio.file.Files;
import java.nio.file.Path;
import java.util.Arrays;
import java.util.HashSet;
import java.util.Random;
import java.util.Set;
import java.util.TreeSet;
import java.util.regex.Matcher;
import java.util.regex.Pattern;

/** The public face, the rules of LANGUAGE.md that can be seen from outside, and calls with any arguments. */
public final class FaceTest {
    private static final Due DUE = new Due();

    private static final String FACE = "int feed(int,int,int,int,int)|int back(int)|int read()|int place()"
            + "|int person(int,int,int,int,int)|int world(int,int,int)|int of(int,int)|int signs(int,int)"
            + "|int rounded(int,int)|int moved(int,int,boolean)|int holds(int,int)|int sort(int)|int paper(int,int)"
            + "|int altered(int,int)|int truly(int,int,int)|int left(int,int,int)|int fit(int,int,int,int,int)"
            + "|int choose(int,int,int,int,int)|int trial(int,int,int)|int given(int,int,int)|int whole(int,int)"
            + "|int pleased(int,int,int,boolean)|long tail(int,int,int,int)|int agree(int,int,int)"
            + "|int table(int,int,int)|long chances(int,int,boolean)|long within(int,int,int,boolean)|int striking()"
            + "|int bound(int)|int choice(int,boolean,int)|int list(int,boolean)|int tried(int,int)|int annul(int)"
            + "|int choices(int,int)|int sure(int,int,int)|int surer(int,int)|int on(int,int)|int red(int,int,int)"
            + "|long odds(int,int,boolean)|int turned(int,int)|int count(int)";

    public static void main(String[] args) throws Exception {
        faceIsAsTold();
        nothingElseShows();
        sourceKeepsToTheLanguage();
        anyCallEnds();
        callsMakeNoObjects();
        DUE.end();
    }

    private static void faceIsAsTold() throws Exception {
        Set<String> found = new TreeSet<>();
        for (Method method : SkyTrial.class.getDeclaredMethods()) {
            if (Modifier.isPublic(method.getModifiers())) {
                StringBuilder sign = new StringBuilder(method.getReturnType() + " " + method.getName() + "(");
                for (Class<?> type : method.getParameterTypes()) {
                    sign.append(sign.charAt(sign.length() - 1) == '(' ? "" : ",").append(type);
                }
                found.add(sign.append(")").toString());
                DUE.holds(method + " is no static one", !Modifier.isStatic(method.getModifiers()));
            }
        }
        Set<String> told = new TreeSet<>(Arrays.asList(FACE.split("\\|")));
        DUE.holds("the face is " + found, found.equals(told));
        Path doc = Path.of("../shared/DOC.md");
        if (Files.exists(doc)) {
            DUE.holds("the document's face is " + told, faceOf(Files.readString(doc)).equals(told));
        }
        int modifiers = SkyTrial.class.getModifiers();
        DUE.holds("the class is public and final", Modifier.isPublic(modifiers) && Modifier.isFinal(modifiers));
        Field none = SkyTrial.class.getField("NONE");
        DUE.is("NONE", none.getInt(null), -1);
        DUE.holds("NONE is a constant", Modifier.isStatic(none.getModifiers()) && Modifier.isFinal(none.getModifiers()));
        Constructor<?>[] all = SkyTrial.class.getDeclaredConstructors();
        DUE.holds("one public constructor", all.length == 1 && Modifier.isPublic(all[0].getModifiers())
                && all[0].getParameterCount() == 0);
    }

    /** The methods of the document's first program, their parameters without names. */
    private static Set<String> faceOf(String doc) {
        Set<String> face = new TreeSet<>();
        int from = doc.indexOf("public final class SkyTrial {");
        Matcher line = Pattern.compile("(?m)^ *public (\\w+ \\w+\\(.*\\));$")
                .matcher(doc.substring(from, doc.indexOf("\n}", from)));
        while (line.find()) {
            face.add(line.group(1).replaceAll("(int|boolean) \\w+(, |\\))", "$1$2").replace(", ", ","));
        }
        return face;
    }

    private static void nothingElseShows() {
        Set<String> faceNames = new HashSet<>();
        for (String sign : FACE.split("\\|")) {
            faceNames.add(sign.replaceAll(".* |\\(.*", ""));
        }
        for (Field field : SkyTrial.class.getDeclaredFields()) {
            DUE.holds(field + " is private", Modifier.isPrivate(field.getModifiers()) || field.getName().equals("NONE"));
        }
        for (Method method : SkyTrial.class.getDeclaredMethods()) {
            DUE.holds(method + " is public or private", (method.getModifiers() & (Modifier.PUBLIC | Modifier.PRIVATE)) != 0);
            if (Modifier.isPrivate(method.getModifiers())) {
                DUE.holds(method + " has a name of its own", !faceNames.contains(method.getName()));
            }
        }
        Class<?>[] inside = SkyTrial.class.getDeclaredClasses();
        DUE.holds("twelve classes at most", inside.length < 12);
        for (Class<?> one : inside) {
            DUE.holds(one + " is static and private", Modifier.isStatic(one.getModifiers())
                    && Modifier.isPrivate(one.getModifiers()));
            int fields = 0;
            for (Field field : one.getDeclaredFields()) {
                fields += Modifier.isStatic(field.getModifiers()) ? 0 : 1;
                DUE.holds(field + " is final, if static",
                        !Modifier.isStatic(field.getModifiers()) || Modifier.isFinal(field.getModifiers()));
            }
            DUE.holds(one + " has twenty fields at most", fields <= 20);
            for (Method method : one.getDeclaredMethods()) {
                DUE.holds(method + " has a name of its own", !faceNames.contains(method.getName()));
                DUE.holds(method + " has seven parameters at most", method.getParameterCount() <= 7);
            }
        }
    }

    private static void sourceKeepsToTheLanguage() throws Exception {
        String source = Files.readString(Path.of("src/main/java/SkyTrial.java"));
        String code = source.replaceAll("(?s)/\\*.*?\\*/", "").replaceAll("//[^\n]*", "").replaceAll("\"[^\"\n]*\"", "\"\"");
        String[] banned = {"throw", "throws", "try", "catch", "finally", "synchronized", "assert", "package", "import",
            "protected", "volatile", "transient", "native", "Object", "Thread", "Random", "hashCode", "toString"};
        for (String word : banned) {
            DUE.holds("the source has no " + word, !Pattern.compile("\\b" + word + "\\b").matcher(code).find());
        }
        DUE.holds("no lambda, no method reference", !code.contains("->") && !code.contains("::"));
        Matcher library = Pattern.compile("\\b(System|Math|Integer|Long|Arrays|String)\\.(\\w+)").matcher(code);
        Set<String> allowed = Set.of("System.arraycopy", "Math.floorMod", "Math.max", "Math.min", "Integer.compare",
                "Long.bitCount");
        while (library.find()) {
            DUE.holds("the library's " + library.group() + " is allowed", allowed.contains(library.group()));
        }
        int start = 0;
        String[] lines = source.split("\n");
        for (int i = 0; i < lines.length; i++) {
            DUE.holds("line " + (i + 1) + " is short", lines[i].length() <= 130);
            if (lines[i].matches("( {4}| {8})(public|private|static|final|int|long|void|boolean).*\\) \\{")) {
                start = i;
            }
            if (lines[i].matches("( {4}| {8})\\}") && lines[start].indexOf(lines[start].trim()) == lines[i].indexOf('}')) {
                DUE.holds("the method of line " + (start + 1) + " is short", i - start < 60);
            }
        }
    }

    private static final int[] EDGES = {-2147483648, 2147483647, -1, 0, 1, 2, 3, 4, 5, 6, 7, 9, 10, 19, 20, 30, 31, 59, 60};

    /** A call that throws ends the test with what it threw. */
    private static void anyCallEnds() throws Exception {
        Random random = new Random(5);
        Method[] methods = SkyTrial.class.getDeclaredMethods();
        Arrays.sort(methods, (x, y) -> x.getName().compareTo(y.getName()));
        Texts texts = new Texts(random);
        for (int run = 0; run < 60; run++) {
            SkyTrial house = new SkyTrial();
            for (int i = 0; i < 1500; i++) {
                Method method = methods[random.nextInt(methods.length)];
                if (Modifier.isPublic(method.getModifiers())) {
                    method.invoke(house, arguments(method, random));
                }
                if (i % 300 == 100) {
                    house.back(house.count(7));
                    Due.tape(house, random.nextBoolean() ? texts.good() : texts.broken());
                    house.read();
                }
            }
            DUE.holds("run " + run + " ended", house.count(0) <= 20 && house.count(6) <= 60 && house.count(7) <= 2000);
        }
    }

    private static Object[] arguments(Method method, Random random) {
        Object[] arguments = new Object[method.getParameterCount()];
        for (int k = 0; k < arguments.length; k++) {
            if (method.getParameterTypes()[k] == boolean.class) {
                arguments[k] = random.nextBoolean();
            } else {
                arguments[k] = random.nextInt(3) == 0 ? random.nextInt(4) : EDGES[random.nextInt(EDGES.length)];
            }
        }
        return arguments;
    }

    /** What a new object makes is all that it makes: calls by the hundred leave no trace in the room. */
    private static void callsMakeNoObjects() {
        com.sun.management.ThreadMXBean bean =
                (com.sun.management.ThreadMXBean) java.lang.management.ManagementFactory.getThreadMXBean();
        SkyTrial house = new SkyTrial();
        byte[] text = new Texts(new Random(3)).good().getBytes(java.nio.charset.StandardCharsets.ISO_8859_1);
        int[] words = Due.words(text, (text.length + 19) / 20 * 20);
        all(house, words);
        long before = bean.getThreadAllocatedBytes(Thread.currentThread().getId());
        long again = bean.getThreadAllocatedBytes(Thread.currentThread().getId());
        long own = again - before;
        before = bean.getThreadAllocatedBytes(Thread.currentThread().getId());
        for (int i = 0; i < 20; i++) {
            all(house, words);
        }
        long made = bean.getThreadAllocatedBytes(Thread.currentThread().getId()) - before - own;
        DUE.holds("calls made " + made + " bytes of objects", made < 1000);
        before = bean.getThreadAllocatedBytes(Thread.currentThread().getId());
        house = new SkyTrial();
        made = bean.getThreadAllocatedBytes(Thread.currentThread().getId()) - before - own;
        DUE.holds("a new object makes " + made + " bytes", made < 60000 && house.count(0) == 0);
    }

    private static long all(SkyTrial x, int[] words) {
        long sum = 0;
        for (int i = 0; i < words.length; i += 5) {
            sum += x.feed(words[i], words[i + 1], words[i + 2], words[i + 3], words[i + 4]);
        }
        sum += x.read() + x.place() + x.back(0) + x.world(4, 19, 5) + x.person(1, 2, 3, 1, 5) + x.of(1, 10);
        sum += x.signs(0, -1) + x.rounded(0, 5) + x.moved(0, 20, true) + x.holds(0, 0) + x.sort(0) + x.paper(0, 0);
        sum += x.altered(0, 5) + x.truly(0, 0, 1) + x.left(0, 0, 5) + x.fit(0, 0, 0, 1, 0) + x.choose(0, 0, 0, 1, 2);
        sum += x.trial(0, 0, 5) + x.given(0, 5, 1) + x.whole(0, 0) + x.pleased(0, 0, 1, true) + x.tail(30, 3, 1, 4);
        sum += x.agree(9, 9, 0) + x.table(0, 0, 1) + x.chances(0, 0, true) + x.within(0, 0, 1, true) + x.striking();
        sum += x.bound(5) + x.choice(0, true, 3) + x.list(0, true) + x.tried(0, 1) + x.annul(0) + x.choices(2, 0);
        sum += x.sure(2, 1, 0) + x.surer(2, 0) + x.on(0, 2) + x.red(0, 2, 4) + x.odds(0, 2, true) + x.turned(0, 0);
        return sum;
    }
}

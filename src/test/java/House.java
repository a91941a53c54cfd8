import java.lang.reflect.InvocationTargetException;
import java.lang.reflect.Method;
import java.nio.charset.StandardCharsets;
import java.util.ArrayList;
import java.util.HashMap;
import java.util.List;
import java.util.Map;

/** An object whose calls are written as issues write them, "of(0, 17)", and are counted: 512 are promised, no more. */
final class House {
    private static final int MOST_CALLS = 512;
    private static final Map<String, Method> METHODS = new HashMap<>();

    static {
        for (Method method : SkyTrial.class.getMethods()) {
            METHODS.put(method.getName(), method);
        }
    }

    private final SkyTrial trial = new SkyTrial();
    private int calls = 0;

    long call(String call) {
        calls++;
        if (calls > MOST_CALLS) {
            throw new IllegalStateException("the test makes more than 512 calls, the last being " + call);
        }
        Method method = METHODS.get(call.substring(0, call.indexOf('(')));
        String inside = call.substring(call.indexOf('(') + 1, call.lastIndexOf(')')).trim();
        String[] words = inside.isEmpty() ? new String[0] : inside.split(",");
        Object[] arguments = new Object[words.length];
        for (int i = 0; i < words.length; i++) {
            String word = words[i].trim();
            boolean isFlag = method.getParameterTypes()[i] == boolean.class;
            arguments[i] = isFlag ? (Object) word.equals("true") : (Object) Integer.valueOf(word);
        }
        try {
            return ((Number) method.invoke(trial, arguments)).longValue();
        } catch (IllegalAccessException | InvocationTargetException broken) {
            throw new IllegalStateException(call + " threw", broken);
        }
    }

    House did(String... all) {
        for (String one : all) {
            call(one);
        }
        return this;
    }

    /** So many PEOPLE of MINUTES 0, 1, 2 .., all else 0. */
    House people(int n) {
        for (int i = 0; i < n; i++) {
            call("person(" + i + ", 0, 0, 0, 0)");
        }
        return this;
    }

    /** Puts a text on the tape and then as many bytes back as were blanks behind it. */
    House put(String text) {
        byte[] bytes = text.getBytes(StandardCharsets.ISO_8859_1);
        int length = (bytes.length + 19) / 20 * 20;
        int[] words = Due.words(bytes, length);
        for (int i = 0; i < words.length; i += 5) {
            call("feed(" + words[i] + "," + words[i + 1] + "," + words[i + 2] + "," + words[i + 3] + "," + words[i + 4] + ")");
        }
        if (length > bytes.length) {
            call("back(" + (length - bytes.length) + ")");
        }
        return this;
    }

    /** A text that is without a FAULT. */
    House told(String text) {
        long fault = put(text).call("read()");
        if (fault != 0) {
            throw new IllegalStateException("FAULT " + fault + " at " + call("place()") + " of " + text);
        }
        return this;
    }

    /** All that can be seen of it, each call with its answer; the tape is read at the end, for what is on it. */
    List<String> state() {
        List<String> seen = new ArrayList<>();
        int[] counts = new int[8];
        for (int what = 0; what < 8; what++) {
            counts[what] = (int) see(seen, "count(" + what + ")");
        }
        see(seen, "place()");
        for (int p = 0; p < counts[0]; p++) {
            seePerson(seen, p, counts[6]);
        }
        seeText(seen, counts);
        seeFacts(seen, counts[6]);
        see(seen, "read()");
        see(seen, "place()");
        for (int what = 1; what < 8; what++) {
            see(seen, "count(" + what + ")");
        }
        return seen;
    }

    private long see(List<String> seen, String call) {
        long answer = call(call);
        seen.add(call + " answered " + answer);
        return answer;
    }

    private void seePerson(List<String> seen, int p, int facts) {
        for (int what = 0; what < 18; what++) {
            if (what < 4 || what >= 10) {
                see(seen, "of(" + p + ", " + what + ")");
            }
        }
        see(seen, "signs(" + p + ", -1)");
        see(seen, "on(" + p + ", " + facts + ")");
    }

    private void seeText(List<String> seen, int[] counts) {
        for (int s = 0; s < counts[2]; s++) {
            see(seen, "sort(" + s + ")");
            see(seen, "holds(" + s + ", 0)");
        }
        for (int b = 0; b < counts[3]; b++) {
            see(seen, "paper(" + b + ", 0)");
        }
        for (int l = 0; l < counts[4]; l++) {
            see(seen, "fit(" + l + ", 0, 0, 0, 0)");
        }
    }

    private void seeFacts(List<String> seen, int n) {
        for (int what = 0; what < 4; what++) {
            see(seen, "choices(" + n + ", " + what + ")");
        }
        for (int sure = 1; sure <= 5; sure++) {
            see(seen, "sure(" + n + ", " + sure + ", 0)");
            see(seen, "sure(" + n + ", " + sure + ", 1)");
        }
        for (int what = 0; what < 5; what++) {
            see(seen, "red(0, " + n + ", " + what + ")");
        }
        see(seen, "turned(0, 0)");
    }
}

import java.nio.charset.StandardCharsets;

/** What the tests share: answers held against those that are due, and texts put on the tape. */
final class Due {
    private int wrong = 0;
    private int held = 0;

    void is(String call, long got, long want) {
        held++;
        if (got != want) {
            wrong++;
            if (wrong <= 50) {
                System.out.println(call + " answered " + got + ", due is " + want);
            }
        }
    }

    void holds(String what, boolean isSo) {
        held++;
        if (!isSo) {
            wrong++;
            System.out.println("not so: " + what);
        }
    }

    boolean isAsDue() {
        return wrong == 0;
    }

    void end() {
        if (wrong != 0 || held == 0) {
            System.out.println(wrong + " of " + held + " answers are not as due");
            System.exit(1);
        }
        System.out.println(held + " answers are as due");
    }

    static void tape(SkyTrial house, String text) {
        tape(house, text.getBytes(StandardCharsets.ISO_8859_1));
    }

    /** The tape grows by twenty bytes at a time; what is too much goes again. Texts of 1,981 bytes on may not fit. */
    static void tape(SkyTrial house, byte[] text) {
        int length = (text.length + 19) / 20 * 20;
        int[] words = words(text, length);
        for (int i = 0; i < words.length; i += 5) {
            house.feed(words[i], words[i + 1], words[i + 2], words[i + 3], words[i + 4]);
        }
        house.back(length - text.length);
    }

    static int[] words(byte[] text, int length) {
        int[] words = new int[length / 4];
        for (int i = 0; i < length; i++) {
            int here = i < text.length ? text[i] & 255 : 32;
            words[i / 4] |= here << (24 - i % 4 * 8);
        }
        return words;
    }

    static int read(SkyTrial house, String text) {
        tape(house, text);
        return house.read();
    }

    /** A fault and its place as one number, so that one line can hold both against what is due. */
    void fault(String text, int number, int place) {
        SkyTrial house = new SkyTrial();
        is("read of <" + text + ">", read(house, text), number);
        is("place of <" + text + ">", house.place(), place);
    }
}

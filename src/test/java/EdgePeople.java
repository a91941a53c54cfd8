import java.util.function.IntBinaryOperator;

/** Boundary cases of promises 6 to 11: PEOPLE, WORLDS, LOTS, and SIGNS of other MINUTES. */
final class EdgePeople {
    private final Edge edge;

    EdgePeople(Edge edge) {
        this.edge = edge;
    }

    void run() {
        traits();
        ways();
        twentyPeople();
        whatTheyAre();
        lots();
        worlds();
        worldsWithSigns();
        refusedWorlds();
        signs();
        rounded();
        moved();
    }

    /** Three PEOPLE, a text of each kind and FACTS: what must stay as it is where nothing happens. */
    private static House three() {
        return new House().told("sign s if minute<30;say t two if coat==1;book m;when s say t;law f=true-false;")
                .did("person(7, 3, 2, 1, 12345678)", "person(45, 11, 9, 3, 5)", "person(0, 0, 0, 0, 99)",
                        "choice(1, true, 4)", "list(2, true)", "tried(0, 9)");
    }

    private void traits() {
        edge.promise(6, "A PERSON: its number.");
        House house = new House();
        edge.is(house, "person(0, 0, 0, 0, 0)", 0);
        edge.is(house, "person(59, 11, 9, 3, 99999999)", 1);
        edge.is(house, "person(0, 0, 0, 0, 0)", 2);
        edge.term("A PERSON has a MINUTE (0 .. 59), MONTH (0 .. 11), YEARS (0 .. 9), COAT (0 .. 3),");
        edge.promise(6, "NONE, and nothing happens: 20 are there, no such MINUTE, MONTH, YEARS, COAT, WAYS (0 .. 99999999).");
        int[] highest = {59, 11, 9, 3, 99999999};
        for (int field = 0; field < 5; field++) {
            int[] one = new int[5];
            edge.is(three(), person(one), 3);
            one[field] = highest[field];
            House taken = three();
            edge.is(taken, person(one), 3);
            edge.is(taken, "of(3, " + (field == 4 ? 17 : field) + ")", field == 4 ? 9 : highest[field]);
            one[field] = highest[field] + 1;
            edge.refused(EdgePeople::three, person(one));
            one[field] = -1;
            edge.refused(EdgePeople::three, person(one));
            one[field] = 2147483647;
            edge.refused(EdgePeople::three, person(one));
            one[field] = -2147483648;
            edge.refused(EdgePeople::three, person(one));
        }
        edge.refused(EdgePeople::three, "person(60, 12, 10, 4, 100000000)");
    }

    private static String person(int... fields) {
        return "person(" + fields[0] + ", " + fields[1] + ", " + fields[2] + ", " + fields[3] + ", " + fields[4] + ")";
    }

    private void ways() {
        edge.term("eight WAYS (0 .. 9 each; the digits of a number, the lowest is way 0).");
        int[] numbers = {0, 1, 9, 10, 90, 10000000, 90000000, 87654321, 99999999, 9999999, 10203040};
        House house = new House();
        for (int i = 0; i < numbers.length; i++) {
            edge.is(house, "person(0, 0, 0, 0, " + numbers[i] + ")", i);
            int rest = numbers[i];
            for (int way = 0; way < 8; way++) {
                edge.is(house, "of(" + i + ", " + (10 + way) + ")", rest % 10);
                rest /= 10;
            }
        }
    }

    private void twentyPeople() {
        edge.term("PEOPLE, 20 at most, are numbered from 0 on.");
        House house = new House();
        for (int i = 0; i < 20; i++) {
            edge.is(house, "person(" + i + ", 0, 0, 0, " + i + ")", i);
            edge.is(house, "count(0)", i + 1);
        }
        edge.is(house, "of(0, 0)", 0);
        edge.is(house, "of(19, 0)", 19);
        edge.refused(() -> new House().people(20), "person(0, 0, 0, 0, 0)");
        edge.refused(() -> new House().did("world(5, 20, 0)"), "person(0, 0, 0, 0, 0)");
        house = new House().did("world(5, 19, 0)");
        edge.is(house, "person(3, 2, 1, 0, 0)", 19);
        edge.is(house, "of(19, 0)", 3);
        edge.is(house, "person(3, 2, 1, 0, 0)", -1);
        // A refused PERSON leaves no gap in the numbers; a WORLD in place of all makes room again.
        edge.is(house, "world(5, 1, 0)", 1);
        edge.is(house, "person(60, 0, 0, 0, 0)", -1);
        edge.is(house, "person(59, 0, 0, 0, 0)", 1);
    }

    private void whatTheyAre() {
        edge.promise(8, "Of a PERSON: what 0 MINUTE, 1 MONTH, 2 YEARS, 3 COAT, 10 .. 17 WAYS.");
        House house = new House().did("person(59, 11, 9, 3, 12345678)", "person(1, 2, 3, 0, 90000000)");
        long[] first = {59, 11, 9, 3};
        long[] second = {1, 2, 3, 0};
        for (int what = 0; what < 4; what++) {
            edge.is(house, "of(0, " + what + ")", first[what]);
            edge.is(house, "of(1, " + what + ")", second[what]);
        }
        for (int way = 0; way < 8; way++) {
            edge.is(house, "of(0, " + (10 + way) + ")", 8 - way);
            edge.is(house, "of(1, " + (10 + way) + ")", way == 7 ? 9 : 0);
        }
        edge.promise(8, "NONE for others.");
        edge.each(house, "of(0, #)", -1, -1, 4, 5, 9, 18, 19, -10, 2147483647, -2147483648);
        edge.each(house, "of(#, 0)", -1, -1, 2, 19, 20, 2147483647, -2147483648);
        edge.each(house, "of(#, 10)", -1, -1, 2);
        edge.is(house.did("world(1, 1, 0)"), "of(1, 0)", -1);
    }

    private void lots() {
        edge.term("LOT n of a SEED and a which: h is the SEED; for each of 7, which: h becomes (h and it, each bit of which is "
                + "in just one) times 1103515245 and 12345 more, then h and h moved 15 bits down (zeros come in), likewise; "
                + "the rest of h, moved 1 bit down likewise, by n (32 bits that wrap).");
        for (int seed : new int[] {0, 7, -8, 1, -1, 2147483647, -2147483648, 123456789}) {
            House house = new House().did("world(" + seed + ", 20, 0)");
            for (int p : new int[] {0, 1, 18, 19}) {
                int[] sizes = {60, 12, 10, 4, 10, 10, 10, 10, 10, 10, 10, 10};
                for (int i = 0; i < sizes.length; i++) {
                    int what = i < 4 ? i : i + 6;
                    edge.is(house, "of(" + p + ", " + what + ")", lot(sizes[i], seed, 20 * p + i));
                }
            }
        }
    }

    /** By longs that are cut to 32 bits, so that zeros come in from above. */
    static long lot(int n, int seed, int which) {
        long full = 4294967295L;
        long h = seed & full;
        for (int it : new int[] {7, which}) {
            h = ((h ^ it) * 1103515245L + 12345) & full;
            h = h ^ (h >> 15);
        }
        return (h >> 1) % n;
    }

    private void worlds() {
        edge.promise(7, "A WORLD, in place of all PEOPLE: n.");
        House house = new House().people(20);
        edge.is(house, "world(9, 20, 10)", 20);
        edge.is(house, "count(0)", 20);
        edge.is(house, "world(9, 1, 10)", 1);
        edge.is(house, "count(0)", 1);
        edge.is(house, "of(0, 0)", lot(60, 9, 0));
        edge.is(house, "of(1, 0)", -1);
        edge.is(house, "world(9, 0, 10)", 0);
        edge.is(house, "count(0)", 0);
        edge.is(house, "of(0, 0)", -1);
        edge.is(house, "person(5, 0, 0, 0, 0)", 0);
        edge.is(house, "of(0, 0)", 5);
        edge.is(house, "world(9, 2, 0)", 2);
        edge.is(house, "of(0, 0)", lot(60, 9, 0));
        edge.promise(7, "(FACTS stay.)");
        house = three().did("world(1, 0, 0)");
        edge.is(house, "count(6)", 3);
        edge.is(house, "choices(3, 2)", 4);
        edge.is(house, "red(0, 3, 3)", 1);
        edge.is(house, "list(0, true)", -1);
        edge.is(house, "tried(0, 0)", 3);
        edge.term("(FACTS of PERSONS that a WORLD has not stay FACTS.)");
        house = three().did("world(1, 2, 0)");
        edge.is(house, "count(6)", 3);
        edge.is(house, "on(2, 3)", -1);
        edge.is(house, "red(0, 3, 0)", 0);
        edge.is(house, "annul(1)", 3);
        edge.is(house.did("world(1, 3, 0)"), "on(2, 3)", 1);
        edge.is(house, "on(2, 4)", 0);
        edge.is(house, "red(0, 3, 0)", 1);
        edge.is(house, "red(0, 4, 0)", 0);
        edge.is(house.did("world(1, 1, 0)"), "choices(4, 0)", 1);
    }

    private void worldsWithSigns() {
        edge.term("A WORLD of n PEOPLE (0 .. 20), a SEED, a STRENGTH s (0 .. 10): PERSON i has by LOTS of which 20 * i, "
                + "20 * i + 1, ..: MINUTE (60), MONTH (12), YEARS (10), COAT (4), WAYS 0 .. 7 (10 each); then, SIGN by SIGN k "
                + "that is UP for him as he is by then: if LOT 10 of which 20 * i + 12 + k is below s, way k becomes 9.");
        String six = "sign a if 0<1;sign b if 0<1;sign c if 0<1;sign d if 0<1;sign e if 0<1;sign f if 0<1;";
        for (int s = 0; s <= 10; s++) {
            House house = new House().told(six).did("world(77, 20, " + s + ")");
            for (int p = 0; p < 20; p++) {
                for (int k = 0; k < 8; k++) {
                    boolean isSet = k < 6 && lot(10, 77, 20 * p + 12 + k) < s;
                    edge.is(house, "of(" + p + ", " + (10 + k) + ")", isSet ? 9 : lot(10, 77, 20 * p + 4 + k));
                }
            }
        }
        // By strength 10 all that is UP counts: each SIGN sets the way that puts the next one UP.
        House chain = new House().told("sign a if 0<1;sign b if way 0==9;sign c if way 1==9;sign d if way 2==9;"
                + "sign e if way 3==9;sign f if way 4==9;").did("world(77, 20, 10)");
        House against = new House().told("sign a if way 0==9 and 1<0;sign b if way 2==10;sign c if 0<1;")
                .did("world(77, 20, 10)");
        for (int p = 0; p < 20; p++) {
            for (int k = 0; k < 6; k++) {
                edge.is(chain, "of(" + p + ", " + (10 + k) + ")", 9);
            }
            edge.is(against, "of(" + p + ", 10)", lot(10, 77, 20 * p + 4));
            edge.is(against, "of(" + p + ", 11)", lot(10, 77, 20 * p + 5));
            edge.is(against, "of(" + p + ", 12)", 9);
        }
        // A SIGN that its own way puts down, and one of a MINUTE that the WORLD drew.
        House own = new House().told("sign a if way 0!=9;sign b if way 0!=9;sign c if minute<30;").did("world(3, 20, 10)");
        for (int p = 0; p < 20; p++) {
            edge.is(own, "of(" + p + ", 10)", 9);
            edge.is(own, "of(" + p + ", 11)", lot(10, 3, 20 * p + 5));
            edge.is(own, "of(" + p + ", 12)", lot(60, 3, 20 * p) < 30 ? 9 : lot(10, 3, 20 * p + 6));
        }
    }

    private void refusedWorlds() {
        edge.promise(7, "NONE, and nothing happens: no such n, STRENGTH.");
        String[] calls = {"world(1, -1, 5)", "world(1, 21, 5)", "world(1, 5, -1)", "world(1, 5, 11)", "world(1, 0, 11)",
            "world(1, 0, -1)", "world(1, 21, 11)", "world(1, 2147483647, 0)", "world(1, -2147483648, 0)",
            "world(1, 2, 2147483647)", "world(1, 2, -2147483648)"};
        for (String call : calls) {
            edge.refused(EdgePeople::three, call);
        }
        edge.is(three(), "world(1, 0, 0)", 0);
        edge.is(three(), "world(1, 20, 0)", 20);
        edge.is(three(), "world(1, 0, 10)", 0);
        edge.is(three(), "world(1, 20, 10)", 20);
    }

    private void signs() {
        edge.term("SIGNS that are UP for a PERSON: those whose COND holds of him (also of another MINUTE of his: all else as it is).");
        House house = new House().told("sign a if minute==0;sign b if minute==59;sign c if minute==7 and month==11;"
                + "sign d if month==11 and way 7==9;sign e if 1<0;sign f if minute<59 and coat==3;");
        house.did("person(7, 11, 9, 3, 90000000)", "person(59, 0, 0, 0, 0)");
        edge.is(house, "signs(0, 7)", 4 + 8 + 32);
        edge.is(house, "signs(0, 0)", 1 + 8 + 32);
        edge.is(house, "signs(0, 59)", 2 + 8);
        edge.is(house, "signs(0, 58)", 8 + 32);
        edge.is(house, "of(0, 0)", 7);
        edge.is(house, "signs(1, 0)", 1);
        edge.promise(9, "SIGNS that are UP for a PERSON (bits); with a MINUTE (NONE: his own).");
        edge.is(house, "signs(0, -1)", 4 + 8 + 32);
        edge.is(house, "signs(1, -1)", 2);
        House all = new House().people(1);
        edge.is(all, "signs(0, -1)", 0);
        edge.is(all.told("sign a if 0<1;sign b if 0<1;sign c if 0<1;sign d if 0<1;sign e if 0<1;sign f if 0<1;"), "signs(0, -1)", 63);
        edge.promise(9, "NONE: no such ones.");
        edge.each(house, "signs(0, #)", -1, 60, -2, 61, 2147483647, -2147483648);
        edge.each(house, "signs(#, 0)", -1, 2, -1, 20, 2147483647, -2147483648);
        edge.each(house, "signs(#, -1)", -1, 2, -1);
    }

    /** SIGNS that are the bits of the MINUTE, so that an answer tells which MINUTE was looked at. */
    private static String minuteBits() {
        StringBuilder text = new StringBuilder();
        for (int bit = 0; bit < 6; bit++) {
            text.append("sign ").append((char) ('a' + bit)).append(" if ").append(hasBit(bit, 60)).append(";");
        }
        return text.toString();
    }

    /** The condition that a MINUTE below a bound has the bit. */
    static String hasBit(int bit, int bound) {
        StringBuilder text = new StringBuilder();
        int width = 1 << bit;
        for (int from = width; from < bound; from += 2 * width) {
            text.append(from > width ? " or " : "");
            if (bit == 0) {
                text.append("minute==").append(from);
            } else {
                text.append(from).append("<=minute and minute<").append(from + width);
            }
        }
        return text.toString();
    }

    private void rounded() {
        edge.promise(10, "SIGNS likewise if his MINUTE is rounded to the nearest whole number of steps (2 .. 30), "
                + "up from the half on; 60 is 0, and so on.");
        for (int first = 0; first < 60; first += 10) {
            House house = new House().told(minuteBits());
            for (int i = 0; i < 10; i++) {
                house.call("person(" + (first + i) + ", 0, 0, 0, 0)");
                edge.is(house, "signs(" + i + ", -1)", first + i);
                for (int step = 2; step <= 30; step++) {
                    edge.is(house, "rounded(" + i + ", " + step + ")", nearest(first + i, step));
                }
                edge.is(house, "of(" + i + ", 0)", first + i);
            }
        }
        House half = new House().told(minuteBits()).did("person(14, 0, 0, 0, 0)", "person(15, 0, 0, 0, 0)",
                "person(44, 0, 0, 0, 0)", "person(45, 0, 0, 0, 0)", "person(59, 0, 0, 0, 0)", "person(58, 0, 0, 0, 0)");
        long[] by30 = {0, 30, 30, 0, 0, 0};
        for (int p = 0; p < 6; p++) {
            edge.is(half, "rounded(" + p + ", 30)", by30[p]);
        }
        edge.is(half, "rounded(4, 13)", 5);
        edge.is(half, "rounded(5, 13)", 52);
        edge.is(half, "rounded(4, 23)", 9);
        edge.is(half, "rounded(4, 2)", 0);
        edge.is(half, "rounded(5, 2)", 58);
        edge.promise(10, "NONE: no such ones.");
        edge.each(half, "rounded(0, #)", -1, 1, 0, -1, -2, 31, 60, 2147483647, -2147483648);
        edge.each(half, "rounded(#, 2)", -1, 6, -1, 2147483647, -2147483648);
        edge.is(half, "rounded(5, 30)", 0);
        edge.is(half, "rounded(0, 2)", 14);
    }

    /** Of all whole numbers of steps the one that is the least way off; of two such the higher one. */
    private static int nearest(int minute, int step) {
        int best = 0;
        for (int at = 0; at <= 90; at += step) {
            if (Math.abs(at - minute) <= Math.abs(best - minute)) {
                best = at;
            }
        }
        return best < 60 ? best : best - 60;
    }

    private void moved() {
        edge.promise(11, "SIGNS that are UP in all (some: in some) MINUTES that are m (0 .. 30) away at most, either way, "
                + "59 and 0 being neighbours.");
        for (int minute : new int[] {0, 1, 15, 29, 30, 31, 58, 59}) {
            House house = new House().told(minuteBits()).did("person(" + minute + ", 0, 0, 0, 0)");
            for (int m = 0; m <= 30; m++) {
                edge.is(house, "moved(0, " + m + ", true)", around(minute, m, (x, y) -> x | y));
                edge.is(house, "moved(0, " + m + ", false)", around(minute, m, (x, y) -> x & y));
            }
            edge.is(house, "of(0, 0)", minute);
        }
        House house = new House().told("sign a if minute==0;sign b if minute==59;sign c if minute!=29;sign d if minute!=30;");
        house.did("person(0, 0, 0, 0, 0)", "person(59, 0, 0, 0, 0)");
        edge.is(house, "moved(0, 0, true)", 1 + 4 + 8);
        edge.is(house, "moved(0, 1, true)", 1 + 2 + 4 + 8);
        edge.is(house, "moved(1, 1, true)", 1 + 2 + 4 + 8);
        edge.is(house, "moved(0, 29, false)", 8);
        edge.is(house, "moved(0, 28, false)", 4 + 8);
        edge.is(house, "moved(0, 30, false)", 0);
        edge.is(house, "moved(1, 29, false)", 4);
        edge.promise(11, "NONE: no such ones.");
        for (String some : new String[] {"true", "false"}) {
            edge.each(house, "moved(0, #, " + some + ")", -1, -1, 31, 60, 2147483647, -2147483648);
            edge.each(house, "moved(#, 0, " + some + ")", -1, -1, 2, 2147483647, -2147483648);
        }
    }

    private static int around(int minute, int m, IntBinaryOperator join) {
        int found = minute;
        for (int other = 0; other < 60; other++) {
            int away = Math.abs(other - minute);
            if (away <= m || 60 - away <= m) {
                found = join.applyAsInt(found, other);
            }
        }
        return found;
    }
}

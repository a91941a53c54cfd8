import java.math.BigInteger;

/** Boundary cases of promises 24 to 30: TAILS, what is AGREED, TABLES and their CHANCES. */
final class EdgeChances {
    private static final String[] FLAGS = {"true", "false"};

    private final Edge edge;

    EdgeChances(Edge edge) {
        this.edge = edge;
    }

    void run() {
        tails();
        noSuchTails();
        agreed();
        noneAgreed();
        tables();
        chances();
        mostChances();
        withinSeasons();
        withinYearsAndCoats();
        noSuchWithin();
        striking();
        bounds();
    }

    /** Counted try by try: so many rows have so many right. */
    private static BigInteger[] rows(int n, int a, int b) {
        BigInteger[] rows = new BigInteger[33];
        java.util.Arrays.fill(rows, BigInteger.ZERO);
        rows[0] = BigInteger.ONE;
        for (int tries = 0; tries < n; tries++) {
            for (int right = 31; right >= 0; right--) {
                BigInteger one = right > 0 ? rows[right - 1].multiply(BigInteger.valueOf(a)) : BigInteger.ZERO;
                rows[right] = rows[right].multiply(BigInteger.valueOf(b - a)).add(one);
            }
        }
        return rows;
    }

    private static BigInteger sum(BigInteger[] rows, int from, int to) {
        BigInteger sum = BigInteger.ZERO;
        for (int i = from; i <= to; i++) {
            sum = sum.add(rows[i]);
        }
        return sum;
    }

    private void tails() {
        edge.term("WAYS OF CHANCE are told as whole numbers: of n tries (0 .. 30) that each are right a of b times (b 1 .. 4, a 0 .. b): "
                + "how many of b to the n rows (each try: b things that may be, a of them right) have r right or more (TAIL).");
        edge.promise(24, "TAIL;");
        for (int n = 0; n <= 30; n++) {
            House house = new House();
            for (int b = 1; b <= 4; b++) {
                for (int a = 0; a <= b; a++) {
                    BigInteger[] rows = rows(n, a, b);
                    for (int r = 0; r <= 31; r++) {
                        edge.is(house, "tail(" + n + ", " + r + ", " + a + ", " + b + ")", sum(rows, r, 31).longValueExact());
                    }
                }
            }
        }
        House house = new House();
        edge.is(house, "tail(0, 0, 0, 1)", 1);
        edge.is(house, "tail(0, 1, 1, 1)", 0);
        edge.is(house, "tail(30, 0, 1, 4)", 1152921504606846976L);
        edge.is(house, "tail(30, 30, 4, 4)", 1152921504606846976L);
        edge.is(house, "tail(30, 31, 4, 4)", 0);
        edge.is(house, "tail(30, 30, 1, 1)", 1);
        edge.is(house, "tail(30, 1, 0, 4)", 0);
        edge.is(house, "tail(30, 0, 0, 4)", 1152921504606846976L);
    }

    private void noSuchTails() {
        edge.promise(24, "-1: no such ones (n 0 .. 30, r 0 .. 31).");
        House house = new House();
        edge.each(house, "tail(#, 0, 1, 2)", -1, -1, 31, 2147483647, -2147483648);
        edge.each(house, "tail(30, #, 1, 2)", -1, -1, 32, 2147483647, -2147483648);
        edge.each(house, "tail(0, #, 1, 2)", -1, -1, 32);
        edge.each(house, "tail(2, 1, #, 2)", -1, -1, 3, 2147483647, -2147483648);
        edge.each(house, "tail(2, 1, #, 4)", -1, -1, 5);
        edge.each(house, "tail(2, 1, #, 1)", -1, -1, 2);
        edge.each(house, "tail(2, 1, 0, #)", -1, 0, -1, 5, 2147483647, -2147483648);
        edge.each(house, "tail(2, 1, 1, #)", -1, 0, 5);
    }

    private void agreed() {
        edge.term("AGREED by u and v (2 .. 1000): the fewest n (1 .. 30) for which there is an r, and the least such r, so that u times "
                + "the TAIL of r by one of three is not above 3 to the n, and v times the rows by one of two with fewer than r right "
                + "is not above 2 to the n.");
        edge.promise(25, "AGREED: what 0 n, 1 r;");
        // By one try: 3 * 1 is not above 3, and 2 * 1 not above 2; one more of either is too much.
        agrees(new House(), 2, 2, 1, 1);
        agrees(new House(), 3, 2, 1, 1);
        agrees(new House(), 4, 2, 5, 3);
        agrees(new House(), 3, 3, 11, 5);
        agrees(new House(), 2, 3, 4, 2);
        BigInteger[][] thirds = new BigInteger[31][];
        BigInteger[][] halves = new BigInteger[31][];
        for (int n = 1; n <= 30; n++) {
            thirds[n] = rows(n, 1, 3);
            halves[n] = rows(n, 1, 2);
        }
        for (int u = 2; u <= 40; u++) {
            House house = new House();
            for (int v = 2; v <= 30; v++) {
                int[] found = found(thirds, halves, u, v);
                agrees(house, u, v, found[0], found[1]);
            }
        }
        // The last that thirty tries, or fewer, are enough for.
        int[][] last = {{32, 2, 29, 15}, {11, 3, 30, 14}, {7, 4, 29, 13}, {6, 5, 30, 13}, {4, 7, 29, 12}, {3, 10, 28, 11},
            {2, 22, 28, 10}};
        for (int[] one : last) {
            agrees(new House(), one[0], one[1], one[2], one[3]);
        }
    }

    private static int[] found(BigInteger[][] thirds, BigInteger[][] halves, int u, int v) {
        for (int n = 1; n <= 30; n++) {
            for (int r = 0; r <= n + 1; r++) {
                BigInteger chance = sum(thirds[n], r, n).multiply(BigInteger.valueOf(u));
                BigInteger miss = sum(halves[n], 0, r - 1).multiply(BigInteger.valueOf(v));
                if (chance.compareTo(BigInteger.valueOf(3).pow(n)) <= 0 && miss.compareTo(BigInteger.TWO.pow(n)) <= 0) {
                    return new int[] {n, r};
                }
            }
        }
        return new int[] {-2, -2};
    }

    private void agrees(House house, int u, int v, int n, int r) {
        edge.is(house, "agree(" + u + ", " + v + ", 0)", n);
        edge.is(house, "agree(" + u + ", " + v + ", 1)", r);
    }

    private void noneAgreed() {
        edge.promise(25, "-2: there is none;");
        int[][] beyond = {{33, 2}, {12, 3}, {8, 4}, {7, 5}, {6, 6}, {5, 6}, {5, 7}, {4, 8}, {3, 11}, {2, 23}, {1000, 2}, {2, 1000},
            {1000, 1000}, {999, 999}};
        for (int[] one : beyond) {
            agrees(new House(), one[0], one[1], -2, -2);
        }
        edge.promise(25, "NONE: no such ones.");
        House house = new House();
        edge.each(house, "agree(#, 2, 0)", -1, 1, 0, -1, -2, 1001, 2147483647, -2147483648);
        edge.each(house, "agree(2, #, 0)", -1, 1, 0, -1, -2, 1001, 2147483647, -2147483648);
        edge.each(house, "agree(2, 2, #)", -1, -1, 2, 2147483647, -2147483648);
        edge.each(house, "agree(1000, 1000, #)", -1, -1, 2);
        edge.is(house, "agree(1, 1, 1)", -1);
        edge.is(house, "agree(1001, 1000, 1)", -1);
    }

    /** So many PEOPLE; the SIGN is UP for the first u, the SENTENCE is TRUE of t from a number on. */
    private static House house(int n, int u, int from, int t) {
        return new House().told("sign a if minute<" + u + ";say t all if " + from + "<=minute and minute<" + (from + t) + ";")
                .people(n);
    }

    private void tables() {
        edge.term("A TABLE of a SIGN and a SENTENCE: n PEOPLE, for u of them the SIGN is UP, of t the SENTENCE is TRUE, of a both.");
        edge.promise(26, "A TABLE: what 0 n, 1 u, 2 t, 3 a;");
        int[][] tables = {{0, 0, 0, 0, 0}, {1, 0, 0, 0, 0}, {1, 1, 0, 1, 1}, {20, 20, 0, 20, 20}, {20, 0, 0, 20, 0}, {20, 20, 0, 0, 0},
            {20, 10, 10, 10, 0}, {20, 10, 9, 10, 1}, {20, 13, 5, 11, 8}};
        for (int[] one : tables) {
            House house = house(one[0], one[1], one[2], one[3]);
            long[] want = {one[0], one[1], one[3], one[4]};
            for (int what = 0; what < 4; what++) {
                edge.is(house, "table(0, 0, " + what + ")", want[what]);
            }
        }
        edge.promise(26, "NONE: no such ones.");
        House house = house(3, 1, 0, 1);
        edge.each(house, "table(#, 0, 0)", -1, -1, 1, 6, 2147483647, -2147483648);
        edge.each(house, "table(0, #, 0)", -1, -1, 1, 16, 2147483647, -2147483648);
        edge.each(house, "table(0, 0, #)", -1, -1, 4, 2147483647, -2147483648);
        edge.is(new House().told("sign a if 0<1;"), "table(0, 0, 0)", -1);
        edge.is(new House().told("say a all if 0<1;"), "table(0, 0, 0)", -1);
    }

    private void chances() {
        edge.term("CHANCES: of all ways to take u of the n PEOPLE (ALL) those by which a or more that it is TRUE of are taken (MORE).");
        edge.promise(27, "CHANCES of a TABLE (more: MORE, else ALL);");
        for (int n = 0; n <= 6; n++) {
            for (int u = 0; u <= n; u++) {
                for (int from = 0; from <= n; from++) {
                    for (int t = 0; from + t <= n; t++) {
                        int up = (1 << u) - 1;
                        int in = ((1 << t) - 1) << from;
                        House house = house(n, u, from, t);
                        edge.is(house, "chances(0, 0, true)", ways(up, in, new int[n], true));
                        edge.is(house, "chances(0, 0, false)", ways(up, in, new int[n], false));
                    }
                }
            }
        }
        edge.promise(27, "-1: no such ones.");
        House house = house(3, 1, 0, 1);
        for (String more : FLAGS) {
            edge.each(house, "chances(#, 0, " + more + ")", -1, -1, 1, 6, 2147483647, -2147483648);
            edge.each(house, "chances(0, #, " + more + ")", -1, -1, 1, 16, 2147483647, -2147483648);
        }
    }

    /** All sets of PEOPLE are looked at, one by one: as many of each class are taken as are UP in it. */
    private static long ways(int up, int in, int[] classes, boolean more) {
        long found = 0;
        for (int set = 0; set < 1 << classes.length; set++) {
            boolean fits = true;
            for (int number = 0; number < 10 && fits; number++) {
                int there = 0;
                for (int p = 0; p < classes.length; p++) {
                    there |= classes[p] == number ? 1 << p : 0;
                }
                fits = Integer.bitCount(set & there) == Integer.bitCount(up & there);
            }
            found += fits && (!more || Integer.bitCount(set & in) >= Integer.bitCount(up & in)) ? 1 : 0;
        }
        return found;
    }

    private void mostChances() {
        // Of twenty: the least and the most that can be taken, and the most ways of all.
        long[][] twenty = {{0, 0, 20, 1, 1}, {20, 0, 20, 1, 1}, {1, 0, 1, 1, 20}, {19, 0, 19, 1, 20}, {19, 1, 19, 20, 20},
            {10, 0, 10, 1, 184756}, {10, 0, 0, 184756, 184756}, {10, 10, 10, 184756, 184756}, {10, 1, 10, 101, 184756},
            {10, 9, 10, 184755, 184756}};
        for (long[] one : twenty) {
            House house = house(20, (int) one[0], (int) one[1], (int) one[2]);
            edge.is(house, "chances(0, 0, true)", one[3]);
            edge.is(house, "chances(0, 0, false)", one[4]);
            edge.is(house, "within(0, 0, 1, true)", one[3]);
            edge.is(house, "within(0, 0, 1, false)", one[4]);
        }
        House none = house(0, 0, 0, 0);
        edge.is(none, "chances(0, 0, true)", 1);
        edge.is(none, "chances(0, 0, false)", 1);
    }

    private void withinSeasons() {
        edge.term("WITHIN a class (0 seasons: MONTH / 3, 1 YEARS, 2 COAT): of all ways by which of each class as many are taken as are UP "
                + "in it those by which a or more are so.");
        edge.promise(28, "CHANCES WITHIN a class (0 .. 2);");
        // One of each MONTH: each season begins and ends where it must, whoever the SIGN is UP for.
        int[] seasons = {0, 0, 0, 1, 1, 1, 2, 2, 2, 3, 3, 3};
        for (int up : new int[] {0, 4095, 1, 4, 8, 12, 2048, 0x0c3, 0x30c, 0x924, 0x249, 0x5a5, 0x7fe}) {
            for (int in : new int[] {0, 4095, 4, 8, 0x924, 0x249, 0x3f0, up}) {
                House house = new House().told("sign a if " + oneOf("month", up) + ";say t all if " + oneOf("month", in) + ";");
                for (int month = 0; month < 12; month++) {
                    house.call("person(0, " + month + ", 0, 0, 0)");
                }
                edge.is(house, "within(0, 0, 0, true)", ways(up, in, seasons, true));
                edge.is(house, "within(0, 0, 0, false)", ways(up, in, seasons, false));
                edge.is(house, "within(0, 0, 1, true)", ways(up, in, new int[12], true));
                edge.is(house, "within(0, 0, 2, false)", ways(up, in, new int[12], false));
            }
        }
        House full = new House().told("sign a if way 0==1;say t all if way 1==1;");
        for (int i = 0; i < 20; i++) {
            int ways = (i / 4 < 2 ? 1 : 0) + (i / 4 < 2 ? 10 : 0);
            full.call("person(0, " + i % 4 * 3 + ", 0, 0, " + ways + ")");
        }
        // Two of five in each of four seasons: ten to the fourth, and all eight as they are by one way.
        edge.is(full, "within(0, 0, 0, false)", 10000);
        edge.is(full, "within(0, 0, 0, true)", 1);
    }

    private static String oneOf(String var, int set) {
        StringBuilder text = new StringBuilder("1<0");
        for (int i = 0; i < 12; i++) {
            text.append((set >> i & 1) == 1 ? " or " + var + "==" + i : "");
        }
        return text.toString();
    }

    private void withinYearsAndCoats() {
        // YEARS 0 .. 9 and COATS 0 .. 3 are each a class of their own, also the first and the last of them.
        for (int up : new int[] {0x000, 0xfff, 0x111, 0x803, 0x0f1, 0xa5a}) {
            for (int in : new int[] {0xfff, 0x0f0, 0x333, up}) {
                House house = new House().told("sign a if " + oneOf("minute", up) + ";say t all if " + oneOf("minute", in) + ";");
                int[] years = {0, 0, 0, 9, 9, 9, 8, 8, 1, 1, 5, 0};
                int[] coats = {0, 3, 3, 3, 0, 0, 1, 1, 2, 2, 3, 0};
                for (int p = 0; p < 12; p++) {
                    house.call("person(" + p + ", 0, " + years[p] + ", " + coats[p] + ", 0)");
                }
                for (String more : FLAGS) {
                    edge.is(house, "within(0, 0, 1, " + more + ")", ways(up, in, years, more.equals("true")));
                    edge.is(house, "within(0, 0, 2, " + more + ")", ways(up, in, coats, more.equals("true")));
                }
            }
        }
    }

    private void noSuchWithin() {
        edge.promise(28, "-1: no such ones.");
        House house = house(3, 1, 0, 1);
        for (String more : FLAGS) {
            edge.each(house, "within(0, 0, #, " + more + ")", -1, -1, 3, 2147483647, -2147483648);
            edge.each(house, "within(#, 0, 0, " + more + ")", -1, -1, 1, 6, 2147483647, -2147483648);
            edge.each(house, "within(0, #, 0, " + more + ")", -1, -1, 1, 16, 2147483647, -2147483648);
        }
        House none = house(0, 0, 0, 0);
        for (int by = 0; by < 3; by++) {
            edge.is(none, "within(0, 0, " + by + ", true)", 1);
            edge.is(none, "within(0, 0, " + by + ", false)", 1);
        }
    }

    private void striking() {
        edge.term("STRIKING of two TABLES is the one with MORE / ALL less; of all SIGNS and SENTENCES, the first by SIGN, then SENTENCE.");
        edge.promise(29, "The most STRIKING TABLE: 100 * SIGN + SENTENCE;");
        StringBuilder text = new StringBuilder();
        for (int i = 0; i < 6; i++) {
            text.append("sign s").append((char) ('a' + i)).append(i < 5 ? " if 1<0;" : " if minute<10;");
        }
        for (int i = 0; i < 16; i++) {
            text.append("say t").append((char) ('a' + i)).append(i < 15 ? " all if minute<20;" : " all if minute<10;");
        }
        House last = new House().told(text.toString()).people(20);
        edge.is(last, "striking()", 515);
        edge.is(new House().told(text.toString()), "striking()", 0);
        // As much by SIGN 0 and SENTENCE 1 as by SIGN 1 and SENTENCE 0, or by SIGN 1 and SENTENCE 1.
        String cross = "sign a if minute<2;sign b if 2<=minute and minute<4;";
        edge.is(new House().told(cross + "say t all if 2<=minute and minute<4;say u all if minute<2;").people(6), "striking()", 1);
        edge.is(new House().told(cross + "say t all if minute<2;say u all if 2<=minute and minute<4;").people(6), "striking()", 0);
        // 10 of 20 and 3 of 6 are the same share, whichever comes first; 1 of 6 is less than 10 of 20, more than 1 of 20.
        String half = "say t all if minute<2 or minute==3;";
        String three = "sign a if minute<3;";
        String one = "sign b if minute==0;";
        edge.is(new House().told(three + one + half).people(6), "striking()", 0);
        edge.is(new House().told(one + three + half).people(6), "striking()", 0);
        edge.is(new House().told(one + three + half).people(6), "chances(0, 0, true)", 3);
        edge.is(new House().told(one + three + half).people(6), "chances(1, 0, true)", 10);
        edge.is(new House().told(three + one + "say t all if minute==0;").people(6), "striking()", 100);
        edge.is(new House().told(one + three + "say t all if minute<3;").people(6), "striking()", 100);
        edge.is(new House().told(one + three + "say t all if minute==0;say u all if minute<3;").people(6), "striking()", 101);
        edge.promise(29, "NONE: there is none.");
        edge.is(new House(), "striking()", -1);
        edge.is(new House().told("sign a if 0<1;").people(2), "striking()", -1);
        edge.is(new House().told("sign a if 0<1;sign b if 0<1;sign c if 1<0;").people(2), "striking()", -1);
        edge.is(new House().told("say t all if 0<1;").people(2), "striking()", -1);
        edge.is(new House().told("sign a if 0<1;say t all if 0<1;").people(2), "striking()", 0);
    }

    private void bounds() {
        edge.promise(30, "How many TABLES have MORE * k not above ALL (k 1 .. 10000);");
        House house = house(20, 3, 0, 3);
        edge.each(house, "bound(#)", 1, 1, 2, 1139, 1140);
        edge.each(house, "bound(#)", 0, 1141, 9999, 10000);
        // 1 of 184756 bears ten thousand; 101 of 184756 bears 1829 and no more.
        edge.each(house(20, 10, 0, 10), "bound(#)", 1, 1, 10000);
        edge.each(house(20, 10, 1, 10), "bound(#)", 1, 1, 1829);
        edge.each(house(20, 10, 1, 10), "bound(#)", 0, 1830, 10000);
        StringBuilder text = new StringBuilder();
        for (int i = 0; i < 22; i++) {
            text.append(i < 6 ? "sign s" : "say t").append((char) ('a' + i)).append(i < 6 ? "" : " all").append(" if 0<1;");
        }
        House most = new House().told(text.toString()).people(1);
        edge.is(most, "bound(1)", 96);
        edge.is(most, "bound(2)", 0);
        edge.is(new House(), "bound(1)", 0);
        edge.is(new House(), "bound(10000)", 0);
        edge.promise(30, "NONE: no such k.");
        edge.each(house, "bound(#)", -1, 0, -1, 10001, 2147483647, -2147483648);
        edge.each(new House(), "bound(#)", -1, 0, 10001);
    }
}

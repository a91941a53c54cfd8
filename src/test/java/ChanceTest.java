/** Promises 24 to 30: TAILS, what is AGREED, TABLES and their CHANCES. */
public final class ChanceTest {
    private static final Due DUE = new Due();
    private static final long FOUR_TO_30 = 1L << 60;

    public static void main(String[] args) {
        tails();
        agreements();
        tables();
        chancesOfTables();
        chancesWithin();
        strikingOnes();
        bounds();
        withoutPeople();
        DUE.end();
    }

    private static void tails() {
        tail(3, 2, 1, 3, 7);
        tail(4, 2, 1, 2, 11);
        tail(5, 3, 2, 3, 192);
        tail(2, 1, 3, 4, 15);
        tail(3, 3, 2, 2, 8);
        tail(3, 4, 2, 2, 0);
        tail(3, 0, 0, 2, 8);
        tail(3, 1, 0, 2, 0);
        tail(0, 0, 0, 1, 1);
        tail(0, 0, 1, 1, 1);
        tail(0, 1, 1, 1, 0);
        tail(0, 31, 1, 4, 0);
        tail(30, 0, 1, 4, FOUR_TO_30);
        tail(30, 0, 4, 4, FOUR_TO_30);
        tail(30, 30, 4, 4, FOUR_TO_30);
        tail(30, 0, 0, 4, FOUR_TO_30);
        tail(30, 31, 4, 4, 0);
        tail(30, 1, 1, 2, (1L << 30) - 1);
        tail(30, 30, 3, 4, 205891132094649L);
        tail(30, 29, 1, 4, 91);
        int[][] wrong = {{-1, 0, 1, 2}, {31, 0, 1, 2}, {2, -1, 1, 2}, {2, 32, 1, 2}, {2, 1, -1, 2}, {2, 1, 3, 2},
            {2, 1, 0, 0}, {2, 1, 1, 5}, {2, 1, 0, -1}, {2, 1, 0, -2147483648}};
        for (int[] one : wrong) {
            tail(one[0], one[1], one[2], one[3], -1);
        }
    }

    private static void tail(int n, int r, int a, int b, long due) {
        DUE.is("tail(" + n + ", " + r + ", " + a + ", " + b + ")", new SkyTrial().tail(n, r, a, b), due);
    }

    /** The pairs were worked out from the document by another program. */
    private static void agreements() {
        agree(2, 2, 1, 1);
        agree(3, 2, 1, 1);
        agree(2, 3, 4, 2);
        agree(3, 3, 11, 5);
        agree(4, 4, 18, 8);
        agree(5, 2, 7, 4);
        agree(5, 5, 28, 12);
        agree(20, 2, 23, 12);
        agree(6, 5, 30, 13);
        agree(11, 3, 30, 14);
        agree(12, 3, -2, -2);
        agree(6, 6, -2, -2);
        agree(2, 1000, -2, -2);
        agree(1000, 2, -2, -2);
        agree(1000, 1000, -2, -2);
        int[][] wrong = {{1, 2}, {2, 1}, {1001, 2}, {2, 1001}, {0, 0}, {-2, 2}};
        for (int[] one : wrong) {
            agree(one[0], one[1], -1, -1);
        }
        DUE.is("agree(2, 2, 2)", new SkyTrial().agree(2, 2, 2), -1);
        DUE.is("agree(2, 2, -1)", new SkyTrial().agree(2, 2, -1), -1);
    }

    private static void agree(int u, int v, int n, int r) {
        SkyTrial house = new SkyTrial();
        DUE.is("agree(" + u + ", " + v + ", 0)", house.agree(u, v, 0), n);
        DUE.is("agree(" + u + ", " + v + ", 1)", house.agree(u, v, 1), r);
    }

    // The sign is UP for 0, 1, 2; t is TRUE of 0, 1, 3; u of 0, 1, 2; v of none, as is the second sign.
    private static SkyTrial six() {
        SkyTrial house = new SkyTrial();
        DUE.is("read", Due.read(house, "sign a if minute<3; sign b if 1<0;"
                + "say t all if minute<2 or minute==3; say u all if minute<3; say v all if 1<0;"), 0);
        house.person(0, 0, 0, 0, 0);
        house.person(1, 2, 0, 1, 0);
        house.person(2, 3, 0, 1, 0);
        house.person(3, 5, 9, 0, 0);
        house.person(4, 11, 9, 1, 0);
        house.person(5, 6, 9, 1, 0);
        return house;
    }

    private static void tables() {
        SkyTrial house = six();
        table(house, 0, 0, 6, 3, 3, 2);
        table(house, 0, 1, 6, 3, 3, 3);
        table(house, 0, 2, 6, 3, 0, 0);
        table(house, 1, 0, 6, 0, 3, 0);
        DUE.is("table(2, 0, 0)", house.table(2, 0, 0), -1);
        DUE.is("table(-1, 0, 0)", house.table(-1, 0, 0), -1);
        DUE.is("table(0, 3, 0)", house.table(0, 3, 0), -1);
        DUE.is("table(0, -1, 0)", house.table(0, -1, 0), -1);
        DUE.is("table(0, 0, 4)", house.table(0, 0, 4), -1);
        DUE.is("table(0, 0, -1)", house.table(0, 0, -1), -1);
    }

    private static void table(SkyTrial house, int sign, int sentence, int... due) {
        for (int what = 0; what < 4; what++) {
            DUE.is("table(" + sign + ", " + sentence + ", " + what + ")", house.table(sign, sentence, what), due[what]);
        }
    }

    private static void chancesOfTables() {
        SkyTrial house = six();
        chances(house, 0, 0, 10, 20);
        chances(house, 0, 1, 1, 20);
        chances(house, 0, 2, 20, 20);
        chances(house, 1, 0, 1, 1);
        chances(house, 2, 0, -1, -1);
        chances(house, -1, 0, -1, -1);
        chances(house, 0, 3, -1, -1);
        chances(house, 0, -1, -1, -1);
        SkyTrial full = new SkyTrial();
        Due.read(full, "sign a if minute<10; say t all if minute<10;");
        for (int i = 0; i < 20; i++) {
            full.person(i, 0, 0, 0, 0);
        }
        chances(full, 0, 0, 1, 184756);
        Due.read(full, "sign a if minute<10; say t all if 5<=minute and minute<15;");
        // Five or more of ten with ten: half of all, and half of those with just five.
        chances(full, 0, 0, (184756 + 252 * 252) / 2, 184756);
    }

    private static void chances(SkyTrial house, int sign, int sentence, long more, long all) {
        DUE.is("chances(" + sign + ", " + sentence + ", true)", house.chances(sign, sentence, true), more);
        DUE.is("chances(" + sign + ", " + sentence + ", false)", house.chances(sign, sentence, false), all);
    }

    private static void chancesWithin() {
        SkyTrial house = six();
        within(house, 0, 0, 0, 2, 2);
        within(house, 0, 0, 1, 1, 1);
        within(house, 0, 0, 2, 6, 12);
        within(house, 0, 1, 2, 1, 12);
        within(house, 0, 1, 0, 1, 2);
        within(house, 0, 2, 2, 12, 12);
        within(house, 1, 0, 2, 1, 1);
        SkyTrial full = new SkyTrial();
        Due.read(full, "sign a if 0<1; sign b if minute<19; say t all if 0<1;");
        for (int i = 0; i < 20; i++) {
            full.person(i, i % 12, 9, 3, 0);
        }
        within(full, 0, 0, 0, 1, 1);
        within(full, 0, 0, 1, 1, 1);
        within(full, 1, 0, 2, 20, 20);
        within(house, 0, 0, 3, -1, -1);
        within(house, 0, 0, -1, -1, -1);
        within(house, 2, 0, 0, -1, -1);
        within(house, -1, 0, 0, -1, -1);
        within(house, 0, 3, 0, -1, -1);
        within(house, 0, -1, 0, -1, -1);
    }

    private static void within(SkyTrial house, int sign, int sentence, int by, long more, long all) {
        String call = "within(" + sign + ", " + sentence + ", " + by + ", ";
        DUE.is(call + "true)", house.within(sign, sentence, by, true), more);
        DUE.is(call + "false)", house.within(sign, sentence, by, false), all);
    }

    private static void strikingOnes() {
        DUE.is("striking() of none", new SkyTrial().striking(), -1);
        SkyTrial house = six();
        DUE.is("striking()", house.striking(), 1);
        Due.read(house, "sign a if minute<2; sign b if minute<3; sign c if minute<3;"
                + "say t all if 0<1; say u all if minute<2; say v all if minute<3; say w all if minute<3;");
        // 1 of 15 by a and u; 1 of 20 by b and v first.
        DUE.is("the first of the least", house.striking(), 102);
        Due.read(house, "sign a if minute<2;");
        DUE.is("striking() without sentences", house.striking(), -1);
        Due.read(house, "say a all if minute<2;");
        DUE.is("striking() without signs", house.striking(), -1);
        Due.read(house, "sign a if 0<1; sign b if 0<1; say t all if 0<1; say u all if 0<1;");
        DUE.is("all alike", house.striking(), 0);
        // 10 of 20 against 1 of 6; then 1 of 1 against 10 of 20, where the fewest ways are not the least share.
        Due.read(house, "sign a if minute<3; sign b if minute==0; say t all if minute==0;");
        DUE.is("a share of 1 of 6", house.striking(), 100);
        Due.read(house, "sign a if 0<1; sign b if minute<3; say t all if minute<2 or minute==3;");
        DUE.is("shares, not ways", house.striking(), 100);
        house.world(1, 0, 0);
        for (int i = 0; i < 5; i++) {
            house.person(i, 0, 0, 0, 0);
        }
        // 7 of 10 by a, 2 of 5 by b, 1 of 10 by c, which comes last.
        Due.read(house, "sign a if minute==0 or minute==4; sign b if minute==0; sign c if minute<2; say t all if minute<2;");
        DUE.is("7 of 10, 2 of 5, 1 of 10", house.striking(), 200);
    }

    private static void bounds() {
        SkyTrial house = six();
        int[][] due = {{1, 6}, {2, 2}, {3, 1}, {20, 1}, {21, 0}, {10000, 0}, {0, -1}, {10001, -1}, {-1, -1},
            {-2147483648, -1}};
        for (int[] one : due) {
            DUE.is("bound(" + one[0] + ")", house.bound(one[0]), one[1]);
        }
        DUE.is("bound(1) of none", new SkyTrial().bound(1), 0);
    }

    private static void withoutPeople() {
        SkyTrial house = new SkyTrial();
        Due.read(house, "sign a if 0<1; say t all if 0<1; say u all if 1<0;");
        table(house, 0, 0, 0, 0, 0, 0);
        chances(house, 0, 0, 1, 1);
        within(house, 0, 0, 0, 1, 1);
        DUE.is("striking()", house.striking(), 0);
        DUE.is("bound(1)", house.bound(1), 2);
        DUE.is("bound(2)", house.bound(2), 0);
    }
}

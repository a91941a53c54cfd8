/** Promises 31 to 41: FACTS, THE LIST and THE RED ONE. */
public final class FactTest {
    private static final Due DUE = new Due();

    public static void main(String[] args) {
        factsAreNumbered();
        noSuchFacts();
        sixtyAtMost();
        choicesAsKnown();
        surerOnes();
        theList();
        factsStayInWorlds();
        theRedOne();
        triesAreUnlike();
        oneTryIsForFree();
        fewerPeople();
        turnedBack();
        DUE.end();
    }

    private static SkyTrial house(int people) {
        SkyTrial house = new SkyTrial();
        DUE.is("read", Due.read(house, "sign a if way 0==9; sign b if 0<1; sign c if 1<0;"), 0);
        for (int i = 0; i < people; i++) {
            house.person(i, 0, 0, 0, i < 2 ? 9 : 0);
        }
        return house;
    }

    private static void factsAreNumbered() {
        SkyTrial house = house(3);
        DUE.is("choice", house.choice(0, true, 5), 0);
        DUE.is("list", house.list(2, true), 1);
        DUE.is("tried", house.tried(2, 9), 2);
        DUE.is("annul", house.annul(0), 3);
        DUE.is("list again", house.list(2, false), 4);
        DUE.is("annul once more", house.annul(0), 5);
        DUE.is("annul the last", house.annul(4), 6);
        DUE.is("count(6)", house.count(6), 7);
    }

    private static void noSuchFacts() {
        SkyTrial house = house(3);
        DUE.is("annul(0) of none", house.annul(0), -1);
        house.list(0, true);
        house.annul(0);
        DUE.is("choice(3)", house.choice(3, true, 1), -1);
        DUE.is("choice(-1)", house.choice(-1, true, 1), -1);
        DUE.is("sure 0", house.choice(0, true, 0), -1);
        DUE.is("sure 6", house.choice(0, true, 6), -1);
        DUE.is("list(3)", house.list(3, true), -1);
        DUE.is("list(-1)", house.list(-1, false), -1);
        DUE.is("tried(3, 0)", house.tried(3, 0), -1);
        DUE.is("tried(-1, 0)", house.tried(-1, 0), -1);
        DUE.is("tried(0, 10)", house.tried(0, 10), -1);
        DUE.is("tried(0, -1)", house.tried(0, -1), -1);
        DUE.is("annul a VOID", house.annul(1), -1);
        DUE.is("annul(2)", house.annul(2), -1);
        DUE.is("annul(-1)", house.annul(-1), -1);
        DUE.is("nothing happened", house.count(6), 2);
    }

    private static void sixtyAtMost() {
        SkyTrial house = house(3);
        for (int i = 0; i < 60; i++) {
            DUE.is("fact " + i, house.choice(0, true, 1), i);
        }
        DUE.is("choice 61", house.choice(0, true, 1), -1);
        DUE.is("list 61", house.list(0, true), -1);
        DUE.is("tried 61", house.tried(0, 1), -1);
        DUE.is("annul 61", house.annul(0), -1);
        DUE.is("count(6)", house.count(6), 60);
        DUE.is("choices(60, 0)", house.choices(60, 0), 60);
        DUE.is("choices(61, 0)", house.choices(61, 0), -1);
    }

    private static void choicesAsKnown() {
        SkyTrial house = house(3);
        house.choice(0, true, 5);
        house.choice(1, false, 2);
        house.list(1, true);
        house.choice(2, true, 2);
        house.annul(0);
        house.choice(2, false, 4);
        house.annul(1);
        int[][] due = {{0, 0, 0, 0}, {1, 1, 5, 0}, {2, 1, 5, 2}, {2, 1, 5, 2}, {3, 2, 7, 2}, {2, 1, 2, 2},
            {3, 1, 2, 6}, {2, 1, 2, 4}};
        for (int n = 0; n < due.length; n++) {
            for (int what = 0; what < 4; what++) {
                DUE.is("choices(" + n + ", " + what + ")", house.choices(n, what), due[n][what]);
            }
        }
        DUE.is("sure(4, 2, 0)", house.sure(4, 2, 0), 2);
        DUE.is("sure(4, 2, 1)", house.sure(4, 2, 1), 1);
        DUE.is("sure(4, 5, 1)", house.sure(4, 5, 1), 1);
        DUE.is("sure(5, 5, 1)", house.sure(5, 5, 1), 0);
        DUE.is("sure(7, 2, 0)", house.sure(7, 2, 0), 1);
        DUE.is("sure(7, 4, 0)", house.sure(7, 4, 0), 1);
        DUE.is("sure(7, 4, 1)", house.sure(7, 4, 1), 0);
        DUE.is("sure(0, 1, 0)", house.sure(0, 1, 0), 0);
        for (int n : new int[] {-1, 8, -2147483648, 2147483647}) {
            DUE.is("choices(" + n + ", 0)", house.choices(n, 0), -1);
            DUE.is("sure(" + n + ", 1, 0)", house.sure(n, 1, 0), -1);
            DUE.is("surer(" + n + ", 0)", house.surer(n, 0), -1);
            DUE.is("on(0, " + n + ")", house.on(0, n), -1);
            DUE.is("red(0, " + n + ", 0)", house.red(0, n, 0), -1);
            DUE.is("odds(0, " + n + ", true)", house.odds(0, n, true), -1);
        }
        DUE.is("choices(1, 4)", house.choices(1, 4), -1);
        DUE.is("choices(1, -1)", house.choices(1, -1), -1);
        DUE.is("sure(1, 0, 0)", house.sure(1, 0, 0), -1);
        DUE.is("sure(1, 6, 0)", house.sure(1, 6, 0), -1);
        DUE.is("sure(1, 1, 2)", house.sure(1, 1, 2), -1);
        DUE.is("sure(1, 1, -1)", house.sure(1, 1, -1), -1);
    }

    private static void surerOnes() {
        SkyTrial house = house(3);
        house.choice(0, true, 5);
        house.choice(0, true, 3);
        house.choice(1, true, 1);
        house.choice(1, false, 3);
        house.choice(1, false, 1);
        house.annul(0);
        surer(house, 3, 0, 0, 0);
        surer(house, 4, 1, 1, 1);
        surer(house, 5, 3, 2, 1);
        surer(house, 6, 1, 2, 1);
        house.choice(1, false, 5);
        surer(house, 7, 1, 2, 3);
        house.choice(1, true, 5);
        surer(house, 8, 3, 3, 3);
        DUE.is("surer(5, 3)", house.surer(5, 3), -1);
        DUE.is("surer(5, -1)", house.surer(5, -1), -1);
    }

    private static void surer(SkyTrial house, int n, int... due) {
        for (int what = 0; what < 3; what++) {
            DUE.is("surer(" + n + ", " + what + ")", house.surer(n, what), due[what]);
        }
    }

    private static void theList() {
        SkyTrial house = house(3);
        house.list(0, false);
        house.list(0, true);
        house.list(1, true);
        house.list(0, false);
        house.list(0, true);
        house.annul(3);
        house.annul(4);
        house.annul(1);
        int[] zero = {0, 0, 1, 1, 0, 1, 1, 1, 0};
        int[] one = {0, 0, 0, 1, 1, 1, 1, 1, 1};
        for (int n = 0; n <= 8; n++) {
            DUE.is("on(0, " + n + ")", house.on(0, n), zero[n]);
            DUE.is("on(1, " + n + ")", house.on(1, n), one[n]);
            DUE.is("on(2, " + n + ")", house.on(2, n), 0);
            DUE.is("red(1, " + n + ", 0)", house.red(1, n, 0), zero[n] + one[n]);
        }
        DUE.is("on(3, 0)", house.on(3, 0), -1);
        DUE.is("on(-1, 0)", house.on(-1, 0), -1);
    }

    private static void factsStayInWorlds() {
        SkyTrial house = house(5);
        house.list(4, true);
        house.choice(4, true, 3);
        house.tried(2, 1);
        house.world(1, 2, 0);
        DUE.is("count(6)", house.count(6), 3);
        DUE.is("on(4, 1)", house.on(4, 1), -1);
        DUE.is("red(1, 3, 0)", house.red(1, 3, 0), 0);
        DUE.is("choices(3, 0)", house.choices(3, 0), 1);
        Due.read(house, "sign a if 0<1;");
        DUE.is("tries of a sign that is gone", house.red(0, 3, 3), 1);
        house.world(1, 5, 0);
        DUE.is("on(4, 1) again", house.on(4, 1), 1);
        DUE.is("on(4, 0) again", house.on(4, 0), 0);
    }

    private static void theRedOne() {
        SkyTrial house = house(20);
        house.list(0, true);
        house.list(5, true);
        house.tried(0, 3);
        house.tried(1, 3);
        red(house, 0, 0, 0, 0, 2, 0, 0);
        red(house, 0, 1, 1, 1, 2, 0, 0);
        red(house, 0, 2, 2, 1, 2, 0, 0);
        red(house, 0, 4, 2, 1, 2, 2, 0);
        red(house, 1, 2, 2, 2, 20, 0, 0);
        red(house, 2, 2, 2, 0, 0, 0, 0);
        odds(house, 0, 0, 190, 190);
        odds(house, 0, 1, 19, 190);
        // One of two with one of two listed, or both: 2 * 18 + 1.
        odds(house, 0, 2, 37, 190);
        odds(house, 1, 2, 1, 1);
        odds(house, 2, 2, 1, 1);
        house.list(1, true);
        odds(house, 0, 5, 3, 190);
        DUE.is("3 * 2 * 20 is not above 190", house.red(0, 5, 4), 1);
        house.tried(1, 3);
        DUE.is("an alike one is none more", house.red(0, 6, 4), 1);
        house.tried(1, 4);
        DUE.is("3 * 3 * 20", house.red(0, 7, 4), 1);
        house.tried(2, 4);
        DUE.is("3 * 4 * 20", house.red(0, 8, 4), 0);
        DUE.is("red(3, 0, 0)", house.red(3, 0, 0), -1);
        DUE.is("red(-1, 0, 0)", house.red(-1, 0, 0), -1);
        DUE.is("red(0, 0, 5)", house.red(0, 0, 5), -1);
        DUE.is("red(0, 0, -1)", house.red(0, 0, -1), -1);
        odds(house, 3, 0, -1, -1);
        odds(house, -1, 0, -1, -1);
        odds(house, 0, 9, -1, -1);
    }

    private static void red(SkyTrial house, int sign, int n, int... due) {
        for (int what = 0; what < due.length; what++) {
            DUE.is("red(" + sign + ", " + n + ", " + what + ")", house.red(sign, n, what), due[what]);
        }
    }

    private static void odds(SkyTrial house, int sign, int n, long more, long all) {
        DUE.is("odds(" + sign + ", " + n + ", true)", house.odds(sign, n, true), more);
        DUE.is("odds(" + sign + ", " + n + ", false)", house.odds(sign, n, false), all);
    }

    private static void triesAreUnlike() {
        SkyTrial house = new SkyTrial();
        Due.read(house, "sign a if minute<3;sign b if 0<1;sign c if 0<1;sign d if 0<1;sign e if 0<1;sign f if 0<1;");
        for (int i = 0; i < 20; i++) {
            house.person(i, 0, 0, 0, 0);
        }
        for (int i = 0; i < 3; i++) {
            house.list(i, true);
        }
        for (int i = 0; i < 57; i++) {
            DUE.is("tried " + i, house.tried(i / 10, i % 10), i + 3);
        }
        for (int n = 3; n <= 60; n++) {
            DUE.is("red(5, " + n + ", 3)", house.red(5, n, 3), n - 3);
            DUE.is("red(0, " + n + ", 4)", house.red(0, n, 4), 1);
        }
        // 57 * 20 is 1140, which are all ways to take three of twenty.
        DUE.is("odds", house.odds(0, 60, false), 1140);
        house.world(1, 0, 0);
        for (int i = 0; i < 19; i++) {
            house.person(i, 0, 0, 0, 0);
        }
        // 969 ways of nineteen: 48 times 20 is 960.
        DUE.is("red of nineteen, 48 tries", house.red(0, 51, 4), 1);
        DUE.is("red of nineteen, 49 tries", house.red(0, 52, 4), 0);
        DUE.is("turned of nineteen", house.turned(0, 10), 51);
    }

    /** One of one and listed: 1 of 20 ways, which bears one try or none. */
    private static void oneTryIsForFree() {
        SkyTrial house = new SkyTrial();
        Due.read(house, "sign a if minute==0;");
        for (int i = 0; i < 20; i++) {
            house.person(i, 0, 0, 0, 0);
        }
        house.tried(0, 0);
        house.list(0, true);
        house.annul(0);
        house.tried(0, 1);
        house.tried(0, 1);
        house.tried(0, 2);
        int[] tries = {0, 1, 1, 0, 1, 1, 2};
        int[] stands = {0, 0, 1, 1, 1, 1, 0};
        DUE.is("odds asked first", house.odds(0, 2, true), 1);
        for (int n = 0; n <= 6; n++) {
            DUE.is("red(0, " + n + ", 3)", house.red(0, n, 3), tries[n]);
            DUE.is("red(0, " + n + ", 4)", house.red(0, n, 4), stands[n]);
        }
    }

    /** Those who are there no more count in nothing, though FACTS name them. */
    private static void fewerPeople() {
        SkyTrial house = house(4);
        house.list(3, true);
        house.list(1, true);
        house.world(7, 0, 0);
        house.person(0, 0, 0, 0, 9);
        house.person(1, 0, 0, 0, 0);
        red(house, 0, 2, 1, 0, 1, 0, 0);
        DUE.is("odds of two", house.odds(0, 2, false), 2);
        DUE.is("on(3, 2)", house.on(3, 2), -1);
    }

    private static void turnedBack() {
        SkyTrial house = house(20);
        DUE.is("turned without facts", house.turned(0, 0), -1);
        house.list(0, true);
        house.list(1, true);
        for (int i = 0; i < 10; i++) {
            house.tried(1, i);
        }
        house.annul(11);
        house.list(0, false);
        house.choice(0, true, 1);
        int[] due = {1, 1, 11, 11, 11, 11, 11, 11, 11, 11, 11, 11, 12, 13, -1, -1, -1};
        for (int from = 0; from < due.length; from++) {
            DUE.is("turned(0, " + from + ")", house.turned(0, from), due[from]);
        }
        DUE.is("turned(0, -1)", house.turned(0, -1), -1);
        DUE.is("turned(1, 0)", house.turned(1, 0), -1);
        DUE.is("turned(3, 0)", house.turned(3, 0), -1);
        DUE.is("turned(-1, 0)", house.turned(-1, 0), -1);
        DUE.is("turned(0, 2147483647)", house.turned(0, 2147483647), -1);
    }
}

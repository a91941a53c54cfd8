import java.util.function.Supplier;

/** Boundary cases of promises 31 to 41: FACTS, THE LIST, SURER and THE RED ONE. */
final class EdgeFacts {
    private static final int[] FAR = {2147483647, -2147483648};

    private final Edge edge;

    EdgeFacts(Edge edge) {
        this.edge = edge;
    }

    void run() {
        sixtyFacts();
        knownBy();
        choices();
        lists();
        tried();
        voids();
        howChoicesWent();
        howSure();
        surer();
        onTheList();
        redOne();
        tries();
        stands();
        odds();
        turned();
        turnedAtTheEnds();
        questionsChangeNothing();
    }

    /** Two SIGNS, the first UP for PERSON 0 alone. */
    private static House house(int people) {
        return new House().told("sign a if minute==0;sign b if 0<1;").people(people);
    }

    private static House many(House house, int n, String call) {
        for (int i = 0; i < n; i++) {
            house.call(call);
        }
        return house;
    }

    private void sixtyFacts() {
        edge.term("FACTS, numbered from 0 on, 60 at most;");
        String[] calls = {"choice(0, true, 1)", "list(0, true)", "list(0, false)", "tried(0, 0)", "annul(0)"};
        for (String call : calls) {
            House house = many(house(2), 59, "list(1, true)");
            edge.is(house, "count(6)", 59);
            edge.is(house, call, 59);
            edge.is(house, "count(6)", 60);
            edge.is(house, call, -1);
            edge.is(house, "count(6)", 60);
        }
        House mixed = house(2);
        for (int i = 0; i < 60; i++) {
            edge.is(mixed, i == 0 ? calls[1] : calls[i % 5], i);
        }
        edge.is(mixed, "annul(0)", -1);
        // VOIDS are FACTS too: what they make none leaves no room.
        edge.is(mixed, "choices(60, 0)", 11);
        Supplier<House> full = () -> many(house(2), 60, "choice(1, false, 5)");
        edge.promise(31, "NONE, and nothing happens: 60 FACTS are there, no such ones.");
        edge.refused(full, "choice(0, true, 1)");
        edge.promise(32, "NONE, and nothing happens: 60 are there, no such one.");
        edge.refused(full, "list(0, true)");
        edge.refused(full, "list(0, false)");
        edge.promise(33, "NONE, and nothing happens: 60 are there, no such ones.");
        edge.refused(full, "tried(0, 0)");
        edge.promise(34, "NONE, and nothing happens: 60 are there, no such FACT, a VOID.");
        edge.refused(full, "annul(0)");
        edge.refused(full, "annul(59)");
    }

    private void knownBy() {
        edge.term("as KNOWN by n: the first n of them.");
        String[] calls = {"choices(#, 0)", "sure(#, 1, 0)", "surer(#, 0)", "on(0, #)", "red(0, #, 0)", "odds(0, #, true)"};
        int[] promises = {35, 36, 37, 38, 39, 40};
        for (int i = 0; i < calls.length; i++) {
            edge.promise(promises[i], i == 5 ? "-1: no such ones." : "NONE: no such ones.");
            House none = house(2);
            edge.is(none, calls[i].replace("#", "0"), i == 5 ? 2 : 0);
            edge.each(none, calls[i], -1, 1, -1, 60, 2147483647, -2147483648);
            House some = house(2).did("choice(0, true, 1)", "list(0, true)", "annul(0)");
            edge.is(some, calls[i].replace("#", "3"), new long[] {0, 0, 0, 1, 1, 1}[i]);
            edge.each(some, calls[i], -1, 4, -1, 60, 2147483647, -2147483648);
            House full = many(house(2), 60, "list(0, true)");
            edge.is(full, calls[i].replace("#", "60"), new long[] {0, 0, 0, 1, 1, 1}[i]);
            edge.each(full, calls[i], -1, 61, -1);
        }
    }

    private void choices() {
        edge.term("A CHOICE: a PERSON was right (or not), so sure (1 .. 5).");
        edge.promise(31, "A CHOICE: its number.");
        House house = house(3);
        for (int sure = 1; sure <= 5; sure++) {
            edge.is(house, "choice(0, true, " + sure + ")", 2 * sure - 2);
            edge.is(house, "choice(2, false, " + sure + ")", 2 * sure - 1);
        }
        edge.is(house, "choices(10, 2)", 15);
        edge.is(house, "choices(10, 3)", 15);
        edge.promise(31, "NONE, and nothing happens: 60 FACTS are there, no such ones.");
        Supplier<House> maker = () -> house(3).did("choice(1, true, 3)", "list(2, true)");
        String[] wrong = {"choice(0, true, 0)", "choice(0, true, 6)", "choice(0, false, -1)", "choice(-1, true, 1)",
            "choice(3, true, 1)", "choice(3, false, 6)"};
        for (String call : wrong) {
            edge.refused(maker, call);
        }
        for (int far : FAR) {
            edge.refused(maker, "choice(0, true, " + far + ")");
            edge.refused(maker, "choice(" + far + ", true, 1)");
        }
        edge.refused(() -> house(0), "choice(0, true, 1)");
    }

    private void lists() {
        edge.term("ON: a PERSON comes on THE LIST. LEFT: one is left out.");
        edge.promise(32, "ON (is) or LEFT of a PERSON: its number;");
        House house = house(20);
        edge.is(house, "list(0, true)", 0);
        edge.is(house, "list(19, true)", 1);
        edge.is(house, "list(19, false)", 2);
        edge.is(house, "list(5, false)", 3);
        edge.is(house, "on(0, 4)", 1);
        edge.is(house, "on(19, 2)", 1);
        edge.is(house, "on(19, 3)", 0);
        edge.is(house, "on(5, 4)", 0);
        edge.promise(32, "NONE, and nothing happens: 60 are there, no such one.");
        Supplier<House> maker = () -> house(3).did("list(2, true)");
        for (String is : new String[] {"true", "false"}) {
            edge.refused(maker, "list(3, " + is + ")");
            edge.refused(maker, "list(-1, " + is + ")");
            edge.refused(maker, "list(2147483647, " + is + ")");
            edge.refused(maker, "list(-2147483648, " + is + ")");
            edge.refused(() -> house(0), "list(0, " + is + ")");
        }
    }

    private void tried() {
        edge.term("TRIED: a SIGN and a SORT of LIST (0 .. 9) was tried.");
        edge.promise(33, "TRIED: its number;");
        House house = house(0);
        for (int sort = 0; sort < 10; sort++) {
            edge.is(house, "tried(0, " + sort + ")", 2 * sort);
            edge.is(house, "tried(1, " + sort + ")", 2 * sort + 1);
        }
        edge.is(house, "red(0, 20, 3)", 20);
        edge.promise(33, "NONE, and nothing happens: 60 are there, no such ones.");
        Supplier<House> maker = () -> house(2).did("tried(1, 9)");
        for (String call : new String[] {"tried(0, -1)", "tried(0, 10)", "tried(-1, 0)", "tried(2, 0)", "tried(6, 0)", "tried(2, 10)"}) {
            edge.refused(maker, call);
        }
        for (int far : FAR) {
            edge.refused(maker, "tried(0, " + far + ")");
            edge.refused(maker, "tried(" + far + ", 0)");
        }
        edge.refused(() -> new House().people(1), "tried(0, 0)");
        edge.is(new House().told("sign a if 0<1;sign b if 0<1;sign c if 0<1;sign d if 0<1;sign e if 0<1;sign f if 0<1;"), "tried(5, 9)", 0);
    }

    private void voids() {
        edge.term("A VOID makes an earlier FACT none (no VOID); FACTS are KNOWN without those that a VOID among them names.");
        edge.promise(34, "A VOID: its number;");
        House house = house(2).did("choice(0, true, 5)", "list(0, true)", "tried(0, 1)");
        edge.is(house, "annul(0)", 3);
        edge.is(house, "annul(2)", 4);
        edge.is(house, "annul(1)", 5);
        // Up to the VOID the FACT is KNOWN, with it no more.
        edge.each(house, "choices(#, 0)", 1, 1, 2, 3);
        edge.each(house, "choices(#, 0)", 0, 0, 4, 5, 6);
        edge.each(house, "red(0, #, 3)", 1, 3, 4);
        edge.each(house, "red(0, #, 3)", 0, 0, 1, 2, 5, 6);
        edge.each(house, "on(0, #)", 1, 2, 3, 4, 5);
        edge.each(house, "on(0, #)", 0, 0, 1, 6);
        // A FACT that a VOID names is there: one more VOID of it changes nothing but how many FACTS there are.
        edge.is(house, "annul(0)", 6);
        edge.is(house, "choices(7, 0)", 0);
        edge.is(house, "choices(3, 0)", 1);
        edge.is(house, "count(6)", 7);
        edge.promise(34, "NONE, and nothing happens: 60 are there, no such FACT, a VOID.");
        Supplier<House> maker = () -> house(2).did("choice(0, true, 5)", "annul(0)", "list(0, true)", "annul(2)");
        edge.is(maker.get(), "annul(0)", 4);
        edge.is(maker.get(), "annul(2)", 4);
        for (String call : new String[] {"annul(1)", "annul(3)", "annul(4)", "annul(5)", "annul(-1)", "annul(60)"}) {
            edge.refused(maker, call);
        }
        for (int far : FAR) {
            edge.refused(maker, "annul(" + far + ")");
        }
        edge.refused(() -> house(2), "annul(0)");
    }

    private void howChoicesWent() {
        edge.promise(35, "CHOICES as KNOWN by n: what 0 how many, 1 how many were right, 2 the sum of sureness of right ones, 3 of others;");
        House house = house(2).did("list(0, true)", "choice(0, true, 5)", "choice(1, false, 1)", "tried(0, 3)", "choice(0, true, 2)",
                "annul(1)", "choice(1, false, 4)", "annul(2)", "annul(4)", "annul(6)");
        long[][] want = {{0, 0, 0, 0}, {0, 0, 0, 0}, {1, 1, 5, 0}, {2, 1, 5, 1}, {2, 1, 5, 1}, {3, 2, 7, 1}, {2, 1, 2, 1},
            {3, 1, 2, 5}, {2, 1, 2, 4}, {1, 0, 0, 4}, {0, 0, 0, 0}};
        for (int n = 0; n < want.length; n++) {
            for (int what = 0; what < 4; what++) {
                edge.is(house, "choices(" + n + ", " + what + ")", want[n][what]);
            }
        }
        House full = many(house(1), 60, "choice(0, true, 5)");
        edge.is(full, "choices(60, 0)", 60);
        edge.is(full, "choices(60, 2)", 300);
        edge.is(full, "choices(60, 3)", 0);
        edge.is(full, "choices(59, 1)", 59);
        edge.promise(35, "NONE: no such ones.");
        edge.each(house, "choices(0, #)", -1, -1, 4, 2147483647, -2147483648);
        edge.each(house, "choices(10, #)", -1, -1, 4);
        edge.each(house, "choices(11, #)", -1, 0, 1, 2, 3);
    }

    private void howSure() {
        edge.promise(36, "CHOICES so sure (1 .. 5): what 0 how many, 1 how many were right, as KNOWN by n;");
        House house = house(2);
        for (int sure = 1; sure <= 5; sure++) {
            many(house, sure, "choice(0, true, " + sure + ")");
            many(house, 1, "choice(0, false, " + sure + ")");
        }
        for (int sure = 1; sure <= 5; sure++) {
            edge.is(house, "sure(20, " + sure + ", 0)", sure + 1);
            edge.is(house, "sure(20, " + sure + ", 1)", sure);
            edge.is(house, "sure(0, " + sure + ", 0)", 0);
        }
        edge.is(house, "sure(19, 5, 0)", 5);
        edge.is(house, "sure(14, 5, 0)", 0);
        edge.is(house, "sure(15, 5, 1)", 1);
        edge.is(house.did("annul(0)"), "sure(21, 1, 0)", 1);
        edge.is(house, "sure(21, 1, 1)", 0);
        // Of a TRIED, a SORT of LIST is no sureness.
        edge.is(house.did("tried(0, 1)"), "sure(22, 1, 0)", 1);
        edge.promise(36, "NONE: no such ones.");
        edge.each(house, "sure(1, #, 0)", -1, 0, 6, -1, 2147483647, -2147483648);
        edge.each(house, "sure(1, 1, #)", -1, -1, 2, 2147483647, -2147483648);
        edge.each(house, "sure(#, 1, 0)", -1, -1, 23, 2147483647, -2147483648);
    }

    private void surer() {
        edge.term("SURER, as KNOWN by n: of all two CHOICES one of which was right and one not, how many had the right one surer (0), "
                + "as sure (1), less sure (2).");
        edge.promise(37, "SURER (what 0 .. 2);");
        for (int right = 1; right <= 5; right++) {
            for (int missed = 1; missed <= 5; missed++) {
                House two = house(1).did("choice(0, true, " + right + ")", "choice(0, false, " + missed + ")");
                edge.is(two, "surer(2, 0)", right > missed ? 1 : 0);
                edge.is(two, "surer(2, 1)", right == missed ? 1 : 0);
                edge.is(two, "surer(2, 2)", right < missed ? 1 : 0);
                edge.each(two, "surer(1, #)", 0, 0, 1, 2);
            }
        }
        // Thirty of each make as many twos as there can be.
        House most = many(many(house(1), 30, "choice(0, true, 5)"), 30, "choice(0, false, 1)");
        edge.is(most, "surer(60, 0)", 900);
        edge.is(most, "surer(59, 0)", 870);
        edge.each(most, "surer(60, #)", 0, 1, 2);
        edge.each(most, "surer(30, #)", 0, 0, 1, 2);
        House mixed = house(1).did("choice(0, true, 3)", "choice(0, true, 3)", "choice(0, false, 3)", "choice(0, false, 4)",
                "choice(0, false, 2)", "annul(0)");
        long[][] want = {{0, 0, 0}, {0, 0, 0}, {0, 0, 0}, {0, 2, 0}, {0, 2, 2}, {2, 2, 2}, {1, 1, 1}};
        for (int n = 0; n < want.length; n++) {
            for (int what = 0; what < 3; what++) {
                edge.is(mixed, "surer(" + n + ", " + what + ")", want[n][what]);
            }
        }
        edge.promise(37, "NONE: no such ones.");
        edge.each(mixed, "surer(0, #)", -1, -1, 3, 2147483647, -2147483648);
        edge.each(mixed, "surer(#, 0)", -1, -1, 7, 2147483647, -2147483648);
    }

    private void onTheList() {
        edge.term("On THE LIST, as KNOWN by n: those of the PEOPLE there are with an ON, and no LEFT behind the last of these.");
        edge.promise(38, "1 if a PERSON is on THE LIST as KNOWN by n, else 0;");
        House house = house(3).did("list(0, false)", "list(0, true)", "list(1, false)", "list(0, true)", "list(0, false)", "annul(4)",
                "annul(3)", "annul(1)", "list(0, true)", "list(0, false)");
        long[] want = {0, 0, 1, 1, 1, 0, 1, 1, 0, 1, 0};
        for (int n = 0; n <= 10; n++) {
            edge.is(house, "on(0, " + n + ")", want[n]);
            edge.is(house, "on(1, " + n + ")", 0);
            edge.is(house, "on(2, " + n + ")", 0);
            edge.is(house, "red(1, " + n + ", 0)", want[n]);
        }
        // A CHOICE, a TRIED and a VOID of the same number are neither ON nor LEFT.
        House others = house(3).did("choice(0, true, 1)", "tried(0, 0)", "list(1, true)", "annul(0)", "tried(1, 1)", "choice(1, false, 1)");
        edge.is(others, "on(0, 6)", 0);
        edge.is(others, "on(1, 6)", 1);
        edge.promise(38, "NONE: no such ones.");
        edge.each(house, "on(#, 0)", -1, -1, 3, 20, 2147483647, -2147483648);
        edge.each(house, "on(0, #)", -1, -1, 11, 2147483647, -2147483648);
        edge.is(house.did("world(1, 1, 0)"), "on(0, 9)", 1);
        edge.is(house, "on(1, 9)", -1);
    }

    private void redOne() {
        edge.term("THE RED ONE: of m PEOPLE on THE LIST (30 at most) k have a SIGN UP, of all n PEOPLE c have it.");
        edge.promise(39, "THE RED ONE, as KNOWN by n, by a SIGN: what 0 m, 1 k, 2 c, 3 TRIES, 4: 1 if it STANDS, else 0;");
        House house = new House().told("sign a if minute<12;sign b if 0<1;sign c if 1<0;").people(20);
        for (int i = 0; i < 20; i++) {
            edge.is(house, "red(0, " + i + ", 0)", i);
            edge.is(house, "list(" + i + ", true)", i);
            edge.is(house, "red(0, " + (i + 1) + ", 1)", Math.min(i + 1, 12));
        }
        long[][] want = {{20, 12, 12, 0, 0}, {20, 20, 20, 0, 0}, {20, 0, 0, 0, 0}};
        for (int sign = 0; sign < 3; sign++) {
            for (int what = 0; what < 5; what++) {
                edge.is(house, "red(" + sign + ", 20, " + what + ")", want[sign][what]);
                edge.is(house, "red(" + sign + ", 0, " + what + ")", what == 2 ? want[sign][2] : 0);
            }
        }
        // Without PEOPLE all are 0, and 1 * 1 * 20 is above 1.
        House none = house.did("world(1, 0, 0)");
        for (int what = 0; what < 5; what++) {
            edge.is(none, "red(1, 20, " + what + ")", 0);
        }
        edge.promise(39, "NONE: no such ones.");
        edge.each(house, "red(#, 0, 0)", -1, -1, 3, 6, 2147483647, -2147483648);
        edge.each(house, "red(0, 0, #)", -1, -1, 5, 2147483647, -2147483648);
        edge.each(house, "red(0, #, 0)", -1, -1, 21, 2147483647, -2147483648);
    }

    private void tries() {
        edge.term("TRIES: how many TRIED are KNOWN (unlike ones).");
        House house = new House().told("sign a if 0<1;sign b if 0<1;sign c if 0<1;sign d if 0<1;sign e if 0<1;sign f if 0<1;");
        for (int i = 0; i < 60; i++) {
            edge.is(house, "tried(" + i / 10 + ", " + i % 10 + ")", i);
        }
        edge.each(house, "red(#, 60, 3)", 60, 0, 5);
        edge.is(house, "red(0, 59, 3)", 59);
        edge.is(house, "red(0, 1, 3)", 1);
        edge.is(house, "red(0, 0, 3)", 0);
        House alike = many(house(1), 30, "tried(0, 9)");
        edge.is(alike, "red(0, 30, 3)", 1);
        edge.is(alike.did("tried(1, 9)", "tried(0, 8)"), "red(0, 32, 3)", 3);
        // A VOID of one of two that are alike leaves the other.
        House two = house(1).did("tried(0, 1)", "tried(0, 1)", "annul(0)", "annul(1)");
        long[] want = {0, 1, 1, 1, 0};
        for (int n = 0; n <= 4; n++) {
            edge.is(two, "red(1, " + n + ", 3)", want[n]);
        }
        // The text may come to have fewer SIGNS: what was TRIED was tried.
        edge.is(house.told("sign z if 0<1;"), "red(0, 60, 3)", 60);
    }

    private void stands() {
        edge.term("It STANDS if MORE * (TRIES, 1 at least) * 20 is not above ALL.");
        // The one for whom it is UP is listed: 1 * 20 is not above 20, but above 19.
        edge.is(house(20).did("list(0, true)"), "red(0, 1, 4)", 1);
        edge.is(house(19).did("list(0, true)"), "red(0, 1, 4)", 0);
        House house = house(20).did("list(0, true)", "tried(0, 0)", "tried(0, 0)", "tried(1, 0)", "annul(3)");
        long[] want = {0, 1, 1, 1, 0, 1};
        for (int n = 0; n <= 5; n++) {
            edge.is(house, "red(0, " + n + ", 4)", want[n]);
            edge.is(house, "red(1, " + n + ", 4)", 0);
        }
        // Two of sixteen: 120 ways, which bear six tries, not seven.
        House two = new House().told("sign a if minute<2;").people(16).did("list(0, true)", "list(1, true)");
        for (int tries = 1; tries <= 8; tries++) {
            edge.is(two.did("tried(0, " + tries + ")"), "red(0, " + (tries + 2) + ", 4)", tries <= 6 ? 1 : 0);
        }
        // Three of twenty: 1140 ways, which bear 57 tries, and more than 60 FACTS there are not.
        House three = new House().told("sign a if minute<3;sign b if 0<1;sign c if 0<1;sign d if 0<1;sign e if 0<1;sign f if 0<1;")
                .people(20).did("list(0, true)", "list(1, true)", "list(2, true)");
        for (int i = 0; i < 57; i++) {
            three.call("tried(" + i / 10 + ", " + i % 10 + ")");
        }
        edge.is(three, "red(0, 60, 3)", 57);
        edge.is(three, "red(0, 60, 4)", 1);
        // With one PERSON less 969 ways, which bear 48.
        House fewer = three.did("world(1, 0, 0)").people(19);
        edge.is(fewer, "red(0, 51, 4)", 1);
        edge.is(fewer, "red(0, 52, 4)", 0);
    }

    private void odds() {
        edge.term("CHANCES: as in a TABLE of the SIGN and of being on THE LIST (t is m, a is k).");
        edge.promise(40, "Its CHANCES (more: MORE, else ALL);");
        House house = new House().told("sign a if minute<10;sign b if 0<1;sign c if 1<0;say t all if minute<10;").people(20);
        edge.is(house, "odds(0, 0, true)", 184756);
        edge.is(house, "odds(0, 0, false)", 184756);
        for (int i = 0; i < 10; i++) {
            house.call("list(" + i + ", true)");
        }
        edge.is(house, "odds(0, 10, true)", 1);
        edge.is(house, "odds(0, 10, false)", 184756);
        edge.is(house, "odds(0, 10, true)", house.call("chances(0, 0, true)"));
        edge.is(house, "odds(0, 9, true)", 11);
        edge.each(house, "odds(#, 10, true)", 1, 1, 2);
        edge.each(house, "odds(#, 10, false)", 1, 1, 2);
        House none = new House().told("sign a if 0<1;");
        edge.is(none, "odds(0, 0, true)", 1);
        edge.is(none, "odds(0, 0, false)", 1);
        edge.promise(40, "-1: no such ones.");
        for (String more : new String[] {"true", "false"}) {
            edge.each(house, "odds(#, 0, " + more + ")", -1, -1, 3, 6, 2147483647, -2147483648);
            edge.each(house, "odds(0, #, " + more + ")", -1, -1, 11, 2147483647, -2147483648);
        }
    }

    private void turned() {
        edge.promise(41, "The first FACT with which (it and those ahead KNOWN) it STANDS, though it did not without it, "
                + "or the other way round; from a FACT on;");
        // It comes to stand with 1, falls with 3, stands with 4, falls with 6, stands with 8; 0, 2, 5, 7 and 9 change nothing.
        House house = house(20).did("choice(0, true, 1)", "list(0, true)", "tried(0, 0)", "tried(0, 1)", "annul(2)", "tried(0, 1)",
                "list(0, false)", "choice(1, true, 1)", "annul(6)", "tried(0, 1)");
        long[] stands = {0, 0, 1, 1, 0, 1, 1, 0, 0, 1, 1};
        for (int n = 0; n <= 10; n++) {
            edge.is(house, "red(0, " + n + ", 4)", stands[n]);
        }
        long[] want = {1, 1, 3, 3, 4, 6, 6, 8, 8, -1};
        for (int from = 0; from < 10; from++) {
            edge.is(house, "turned(0, " + from + ")", want[from]);
            edge.is(house, "turned(1, " + from + ")", -1);
        }
        edge.promise(41, "NONE: none, no such SIGN, FACT.");
        edge.each(house, "turned(0, #)", -1, -1, 10, 11, 60, 2147483647, -2147483648);
        edge.each(house, "turned(#, 0)", -1, -1, 2, 6, 2147483647, -2147483648);
    }

    private void turnedAtTheEnds() {
        edge.is(house(20), "turned(0, 0)", -1);
        edge.is(house(20).did("list(0, true)"), "turned(0, 0)", 0);
        edge.is(house(20).did("list(1, true)"), "turned(0, 0)", -1);
        edge.is(house(19).did("list(0, true)"), "turned(0, 0)", -1);
        // The last of sixty turns it.
        House full = many(house(20), 59, "list(1, false)").did("list(0, true)");
        edge.each(full, "turned(0, #)", 59, 0, 30, 58, 59);
        edge.each(full, "turned(0, #)", -1, -1, 60);
        House gone = house(20).did("list(0, true)").did("world(1, 0, 0)");
        edge.is(gone, "turned(0, 0)", -1);
        edge.is(gone.told("say t all if 0<1;"), "turned(0, 0)", -1);
    }

    /** Questions of all kinds, such as can be answered and such as can't: a house that was asked is as one that wasn't. */
    private void questionsChangeNothing() {
        Supplier<House> maker = () -> new House().told("sign a if minute<9;sign b if way 0==3;say t all if coat==1;say u age if 0<1;"
                + "book m;when a say t;when b say u;law f=true-false;").did("world(5, 9, 5)", "choice(0, true, 3)", "list(1, true)",
                "tried(1, 2)", "annul(0)", "choice(8, false, 2)").put("book x");
        House asked = maker.get();
        for (int i = -1; i <= 2; i++) {
            asked.did("place()", "of(" + i + ", 0)", "signs(" + i + ", 5)", "rounded(" + i + ", 7)", "moved(" + i + ", 9, true)",
                    "holds(" + i + ", 0)", "sort(" + i + ")", "paper(" + i + ", 0)", "altered(" + i + ", 5)", "truly(" + i + ", 0, 1)",
                    "left(" + i + ", 0, 3)", "fit(" + i + ", 0, 1, 2, 3)", "choose(" + i + ", 0, 1, 2, 3)", "trial(" + i + ", 0, 9)",
                    "given(" + i + ", 9, 1)", "whole(" + i + ", 0)", "pleased(" + i + ", 0, 1, true)", "tail(" + i + ", 1, 1, 3)",
                    "agree(" + i + ", 3, 0)", "table(" + i + ", 0, 1)", "chances(" + i + ", 0, true)", "within(" + i + ", 0, 1, true)",
                    "striking()", "bound(" + i + ")", "choices(" + i + ", 1)", "sure(" + i + ", 3, 0)", "surer(" + i + ", 0)",
                    "on(" + i + ", 3)", "red(" + i + ", 3, 4)", "odds(" + i + ", 3, true)", "turned(" + i + ", 0)", "count(" + i + ")",
                    "back(0)");
        }
        edge.same("questions", asked.state(), maker.get().state());
    }
}

/** Promises 12 to 23: SENTENCES, PAPERS, FIT, CHOOSING and TRIALS. */
public final class PaperTest {
    private static final Due DUE = new Due();
    private static final int NO_FIT = -2147483648;

    // t is TRUE of all, u of 0 and 2, v of 0 and 2, w of 0, 2 and 3.
    private static final String TEXT = "sign up if minute<30; sign odd if month==1 or month==3;"
            + "say t all if 0<1; say u two if coat<2; say v wrong if years==4; say w age if way 1==7;"
            + "book first; when up say t; when up say v; when odd say u; when odd say t; book none;"
            + "book last; when odd say w; when up say w;"
            + "law net=true-false; law flat=3; law mine=years*100+true; law bysort=age+wrong*10+two*100+all*1000;";

    public static void main(String[] args) {
        sentences();
        sorts();
        papers();
        alteredPapers();
        trulyTrue();
        leftOver();
        fits();
        noSuchFits();
        choosing();
        trials();
        wholes();
        pleasedOnes();
        fewerPeople();
        DUE.end();
    }

    private static SkyTrial four() {
        SkyTrial house = new SkyTrial();
        DUE.is("read", Due.read(house, TEXT), 0);
        house.person(10, 1, 4, 0, 70);
        house.person(29, 2, 5, 3, 0);
        house.person(30, 3, 4, 1, 70);
        house.person(45, 0, 0, 2, 170);
        return house;
    }

    private static void sentences() {
        SkyTrial house = four();
        int[][] due = {{1, 1, 1, 1}, {1, 0, 1, 0}, {1, 0, 1, 0}, {1, 0, 1, 1}};
        for (int s = 0; s < 4; s++) {
            for (int p = 0; p < 4; p++) {
                DUE.is("holds(" + s + ", " + p + ")", house.holds(s, p), due[s][p]);
            }
        }
        DUE.is("holds(4, 0)", house.holds(4, 0), -1);
        DUE.is("holds(-1, 0)", house.holds(-1, 0), -1);
        DUE.is("holds(0, 4)", house.holds(0, 4), -1);
        DUE.is("holds(0, -1)", house.holds(0, -1), -1);
        Due.read(house, "say a all if true+false+all+kind+two+sharp+known+age+wrong==0;");
        DUE.is("counts are 0 in a say", house.holds(0, 0), 1);
    }

    private static void sorts() {
        SkyTrial house = new SkyTrial();
        DUE.is("sort(0) of none", house.sort(0), -1);
        Due.read(house, "say a all if 0<1;say b kind if 0<1;say c two if 0<1;say d sharp if 0<1;say e known if 0<1;"
                + "say f age if 0<1;say g wrong if 0<1;");
        for (int s = 0; s < 7; s++) {
            DUE.is("sort(" + s + ")", house.sort(s), s);
        }
        DUE.is("sort(7)", house.sort(7), -1);
        DUE.is("sort(-1)", house.sort(-1), -1);
        DUE.is("sort(2147483647)", house.sort(2147483647), -1);
    }

    private static void papers() {
        SkyTrial house = four();
        int[][] due = {{7, 5, 3, 0}, {0, 0, 0, 0}, {8, 8, 8, 0}};
        for (int b = 0; b < 3; b++) {
            for (int p = 0; p < 4; p++) {
                DUE.is("paper(" + b + ", " + p + ")", house.paper(b, p), due[b][p]);
            }
        }
        DUE.is("paper(3, 0)", house.paper(3, 0), -1);
        DUE.is("paper(-1, 0)", house.paper(-1, 0), -1);
        DUE.is("paper(0, 4)", house.paper(0, 4), -1);
        DUE.is("paper(0, -1)", house.paper(0, -1), -1);
    }

    private static void alteredPapers() {
        SkyTrial house = four();
        DUE.is("altered(0, 30)", house.altered(0, 30), 2);
        DUE.is("altered(1, 30)", house.altered(1, 30), 0);
        DUE.is("altered(2, 30)", house.altered(2, 30), 2);
        DUE.is("altered(0, 2)", house.altered(0, 2), 1);
        DUE.is("altered(0, 20)", house.altered(0, 20), 0);
        SkyTrial one = new SkyTrial();
        Due.read(one, TEXT);
        one.person(29, 2, 0, 0, 0);
        DUE.is("altered(0, 30) of one", one.altered(0, 30), 1);
        for (int step : new int[] {-30, 0, 1, 31}) {
            DUE.is("altered(0, " + step + ")", house.altered(0, step), -1);
        }
        DUE.is("altered(3, 30)", house.altered(3, 30), -1);
        DUE.is("altered(-1, 30)", house.altered(-1, 30), -1);
        house.world(0, 0, 0);
        DUE.is("altered without people", house.altered(0, 30), 0);
    }

    private static void trulyTrue() {
        SkyTrial house = four();
        truly(house, 0, 0, 4, 3, 1, 3);
        truly(house, 1, 0, 2, 2, 0, 2);
        truly(house, 2, 0, 2, 1, 1, 2);
        truly(house, 3, 0, 3, 0, 3, 0);
        truly(house, 3, 1, 3, 0, 3, 0);
        truly(house, 3, 2, 3, 2, 1, 3);
        DUE.is("truly(4, 0, 0)", house.truly(4, 0, 0), -1);
        DUE.is("truly(-1, 0, 0)", house.truly(-1, 0, 0), -1);
        DUE.is("truly(0, 3, 0)", house.truly(0, 3, 0), -1);
        DUE.is("truly(0, -1, 1)", house.truly(0, -1, 1), -1);
        DUE.is("truly(0, 0, 4)", house.truly(0, 0, 4), -1);
        DUE.is("truly(0, 0, -1)", house.truly(0, 0, -1), -1);
    }

    private static void truly(SkyTrial house, int sentence, int book, int... due) {
        for (int what = 0; what < 4; what++) {
            DUE.is("truly(" + sentence + ", " + book + ", " + what + ")", house.truly(sentence, book, what), due[what]);
        }
    }

    private static void leftOver() {
        SkyTrial house = four();
        int[] due = {0, 0, 2, 2, 3, 3};
        for (int most = 0; most < due.length; most++) {
            DUE.is("left(0, 0, " + most + ")", house.left(0, 0, most), due[most]);
        }
        DUE.is("left(0, 0, 20)", house.left(0, 0, 20), 3);
        DUE.is("left(0, 1, 3)", house.left(0, 1, 3), 0);
        DUE.is("left(0, 1, 4)", house.left(0, 1, 4), 1);
        DUE.is("left(2, 1, 20)", house.left(2, 1, 20), 0);
        DUE.is("left(2, 2, 3)", house.left(2, 2, 3), 1);
        DUE.is("left(2, 2, 2)", house.left(2, 2, 2), 0);
        DUE.is("left(0, 3, 20)", house.left(0, 3, 20), 0);
        DUE.is("left(0, 0, 21)", house.left(0, 0, 21), -1);
        DUE.is("left(0, 0, -1)", house.left(0, 0, -1), -1);
        DUE.is("left(3, 0, 1)", house.left(3, 0, 1), -1);
        DUE.is("left(-1, 0, 1)", house.left(-1, 0, 1), -1);
        DUE.is("left(0, 4, 1)", house.left(0, 4, 1), -1);
        DUE.is("left(0, -1, 1)", house.left(0, -1, 1), -1);
    }

    private static void fits() {
        SkyTrial house = four();
        int[][] net = {{3, 2, 2, 0}, {-1, 0, 0, 0}, {3, 2, 2, 0}, {-1, 0, 0, 0}};
        for (int p = 0; p < 4; p++) {
            for (int from = 0; from < 4; from++) {
                DUE.is("fit of " + from + "'s for " + p, house.fit(0, 0, p, from, 0), net[p][from]);
                DUE.is("fit by a flat law", house.fit(1, 0, p, from, 0), 3);
                DUE.is("fit of empty papers", house.fit(0, 1, p, from, 0), 0);
            }
        }
        DUE.is("mine for 0", house.fit(2, 0, 0, 0, 0), 403);
        DUE.is("mine for 1 of 0's", house.fit(2, 0, 1, 0, 0), 501);
        DUE.is("sorts of 0's for 0", house.fit(3, 0, 0, 0, 0), 1110);
        DUE.is("sorts of 0's for 1", house.fit(3, 0, 1, 0, 0), 1000);
        DUE.is("sorts of 2's for 0", house.fit(3, 0, 0, 2, 0), 1100);
        DUE.is("sorts of the last book", house.fit(3, 2, 3, 0, 0), 1);
        DUE.is("without all", house.fit(3, 0, 0, 0, 1), 110);
        DUE.is("without kind", house.fit(3, 0, 0, 0, 2), 1110);
        DUE.is("without two", house.fit(3, 0, 0, 0, 4), 1010);
        DUE.is("without wrong", house.fit(3, 0, 0, 0, 64), 1100);
        DUE.is("without age", house.fit(3, 2, 3, 0, 32), 0);
        DUE.is("without all, two, wrong", house.fit(3, 0, 0, 0, 69), 0);
        DUE.is("net for 1 of 0's without two", house.fit(0, 0, 1, 0, 4), 0);
        DUE.is("net for 1 of 0's without wrong, two", house.fit(0, 0, 1, 0, 68), 1);
        DUE.is("net without any", house.fit(0, 0, 1, 0, 127), 0);
    }

    private static void noSuchFits() {
        SkyTrial house = four();
        int[][] wrong = {{4, 0, 0, 0, 0}, {-1, 0, 0, 0, 0}, {0, 3, 0, 0, 0}, {0, -1, 0, 0, 0}, {0, 0, 4, 0, 0},
            {0, 0, -1, 0, 0}, {0, 0, 0, 4, 0}, {0, 0, 0, -1, 0}, {0, 0, 0, 0, 128}, {0, 0, 0, 0, -1}};
        for (int[] one : wrong) {
            DUE.is("no such fit", house.fit(one[0], one[1], one[2], one[3], one[4]), NO_FIT);
        }
    }

    private static void choosing() {
        SkyTrial house = four();
        choose(house, 0, 1, 2, 6);
        choose(house, 0, 1, 3, 6);
        choose(house, 1, 0, 2, 3);
        choose(house, 1, 0, 3, 3);
        choose(house, 1, 2, 3, 2);
        choose(house, 2, 0, 1, 0);
        choose(house, 2, 0, 3, 0);
        choose(house, 2, 1, 3, 3);
        choose(house, 3, 1, 2, 2);
        DUE.is("two alike 1", house.choose(0, 0, 1, 1, 2), -1);
        DUE.is("two alike 2", house.choose(0, 0, 1, 2, 1), -1);
        DUE.is("two alike 3", house.choose(0, 0, 1, 2, 2), -1);
        int[][] wrong = {{4, 0, 0, 1, 2}, {-1, 0, 0, 1, 2}, {0, 3, 0, 1, 2}, {0, -1, 0, 1, 2}, {0, 0, 4, 1, 2},
            {0, 0, -1, 1, 2}, {0, 0, 0, 4, 2}, {0, 0, 0, -1, 2}, {0, 0, 0, 1, 4}, {0, 0, 0, 1, -1}};
        for (int[] one : wrong) {
            DUE.is("no such choosing", house.choose(one[0], one[1], one[2], one[3], one[4]), -1);
        }
        Due.read(house, "sign a if minute<30;say t all if 0<1;book m;when a say t;law f=0-9999*9999*21-way 1*true;");
        DUE.is("FITS that are far below 0", house.choose(0, 0, 0, 1, 3), 0);
        DUE.is("and alike", house.choose(0, 0, 2, 3, 0), 3);
    }

    private static void choose(SkyTrial house, int p, int q, int r, int due) {
        DUE.is("choose for " + p + " with " + q + ", " + r, house.choose(0, 0, p, q, r), due);
        DUE.is("choose for " + p + " with " + r + ", " + q, house.choose(0, 0, p, r, q), due);
        DUE.is("choose by a flat law", house.choose(1, 0, p, q, r), 2);
    }

    /** Who is given to whom was worked out from the document's LOT by another program. */
    private static void trials() {
        SkyTrial house = four();
        given(house, 0, 3, 1, 2, 3, 0, 1, 0, 1);
        given(house, 1, 2, 1, 2, 0, 0, 3, 2, 0);
        given(house, 7, 1, 3, 2, 3, 3, 1, 1, 0);
        given(house, -77, 3, 1, 0, 3, 1, 3, 2, 0);
        given(house, 2147483647, 1, 2, 0, 3, 0, 3, 1, 0);
        given(house, -2147483648, 3, 2, 0, 2, 1, 3, 0, 2);
        DUE.is("trial by 0", house.trial(0, 0, 0), 11);
        DUE.is("trial by 1", house.trial(0, 0, 1), 12);
        DUE.is("trial by 7", house.trial(0, 0, 7), 14);
        DUE.is("trial by -77", house.trial(0, 0, -77), 15);
        DUE.is("trial by the highest", house.trial(0, 0, 2147483647), 12);
        DUE.is("trial by the lowest", house.trial(0, 0, -2147483648), 15);
        DUE.is("trial by a flat law", house.trial(1, 0, 7), 8);
        DUE.is("trial(4, 0, 1)", house.trial(4, 0, 1), -1);
        DUE.is("trial(-1, 0, 1)", house.trial(-1, 0, 1), -1);
        DUE.is("trial(0, 3, 1)", house.trial(0, 3, 1), -1);
        DUE.is("trial(0, -1, 1)", house.trial(0, -1, 1), -1);
        DUE.is("given(4, 1, 0)", house.given(4, 1, 0), -1);
        DUE.is("given(-1, 1, 0)", house.given(-1, 1, 0), -1);
        DUE.is("given(0, 1, 2)", house.given(0, 1, 2), -1);
        DUE.is("given(0, 1, -1)", house.given(0, 1, -1), -1);
        house.world(1, 5, 0);
        given(house, 1, 2, 3, 3, 2, 1, 4, 4, 0, 3, 0);
        house.world(1, 20, 0);
        DUE.is("given(19, 1, 0) of 20", house.given(19, 1, 0), 6);
        DUE.is("given(19, 1, 1) of 20", house.given(19, 1, 1), 12);
        house.world(1, 3, 0);
        given(house, 1, 2, 1, 0, 2, 1, 0);
        DUE.is("trial of three by a flat law", house.trial(1, 0, 1), 6);
        house.world(1, 2, 0);
        DUE.is("given of two", house.given(0, 1, 0), -1);
        DUE.is("trial of two", house.trial(0, 0, 1), -1);
    }

    private static void given(SkyTrial house, int seed, int... due) {
        for (int i = 0; i < due.length; i++) {
            DUE.is("given(" + i / 2 + ", " + seed + ", " + i % 2 + ")", house.given(i / 2, seed, i % 2), due[i]);
        }
    }

    private static void wholes() {
        SkyTrial house = four();
        DUE.is("whole(0, 0)", house.whole(0, 0), 18 + 8 + 3 + 8);
        DUE.is("whole(1, 0)", house.whole(1, 0), 24);
        DUE.is("whole(4, 0)", house.whole(4, 0), -1);
        DUE.is("whole(-1, 0)", house.whole(-1, 0), -1);
        DUE.is("whole(0, 3)", house.whole(0, 3), -1);
        DUE.is("whole(0, -1)", house.whole(0, -1), -1);
        house.world(1, 2, 0);
        DUE.is("whole of two", house.whole(0, 0), 0);
        house.world(1, 20, 0);
        DUE.is("whole of twenty by a flat law", house.whole(1, 0), 20 * 171 * 2);
    }

    private static void pleasedOnes() {
        SkyTrial house = four();
        int[][] due = {{-2, 4, 12}, {-1, 4, 12}, {0, 4, 10}, {1, 2, 4}, {2, 2, 4}, {3, 1, 1}, {4, 0, 0},
            {-2147483648, 4, 12}, {2147483647, 0, 0}};
        for (int[] one : due) {
            DUE.is("pleased by their own of " + one[0], house.pleased(0, 0, one[0], false), one[1]);
            DUE.is("pleased by others' of " + one[0], house.pleased(0, 0, one[0], true), one[2]);
        }
        DUE.is("pleased(4, 0)", house.pleased(4, 0, 1, false), -1);
        DUE.is("pleased(-1, 0)", house.pleased(-1, 0, 1, false), -1);
        DUE.is("pleased(0, 3)", house.pleased(0, 3, 1, true), -1);
        DUE.is("pleased(0, -1)", house.pleased(0, -1, 1, true), -1);
        house.world(1, 0, 0);
        DUE.is("pleased without people", house.pleased(0, 0, 0, false), 0);
    }

    /** Of four, who have all left a trace, the first alone comes again. */
    private static void fewerPeople() {
        SkyTrial house = four();
        DUE.is("whole of four", house.whole(0, 0), 37);
        house.world(1, 0, 0);
        house.person(10, 1, 4, 0, 70);
        truly(house, 0, 0, 1, 1, 0, 1);
        DUE.is("altered(0, 30)", house.altered(0, 30), 0);
        DUE.is("left(0, 0, 1)", house.left(0, 0, 1), 3);
        DUE.is("pleased(0, 0, 3, true)", house.pleased(0, 0, 3, true), 0);
        DUE.is("pleased(0, 0, 3, false)", house.pleased(0, 0, 3, false), 1);
        DUE.is("whole", house.whole(0, 0), 0);
    }
}

import java.util.ArrayList;
import java.util.List;

/** Boundary cases of promises 12 to 23: SENTENCES, PAPERS, FIT, CHOOSING, TRIALS. */
final class EdgePapers {
    private static final String HIGHEST = "9999*9999*21+9999*4790+8416";
    private static final String LOWEST = "0-9999*9999*21-9999*4790-8417";

    private final Edge edge;

    EdgePapers(Edge edge) {
        this.edge = edge;
    }

    void run() {
        sentences();
        sorts();
        papers();
        altered();
        truly();
        left();
        fits();
        withoutSorts();
        noSuchFits();
        choosing();
        noSuchChoosing();
        given();
        trials();
        wholes();
        pleased();
        pleasedAtTheEnds();
        fewerPeople();
    }

    /** Three PEOPLE; SIGN, SENTENCE, BOOK and LAW are two of each. */
    private static House three() {
        return new House().told("sign a if minute==0;sign b if minute<2;say t all if minute==0;say u two if minute<2;"
                + "book m;when a say t;when b say u;book n;law f=true-false;law g=3;").people(3);
    }

    private void sentences() {
        edge.term("A SENTENCE is TRUE of him, if its COND holds.");
        edge.promise(12, "1 if a SENTENCE is TRUE of a PERSON, else 0;");
        House house = three();
        long[][] want = {{1, 0, 0}, {1, 1, 0}};
        for (int s = 0; s < 2; s++) {
            for (int p = 0; p < 3; p++) {
                edge.is(house, "holds(" + s + ", " + p + ")", want[s][p]);
            }
        }
        edge.promise(12, "NONE: no such ones.");
        edge.each(house, "holds(#, 0)", -1, -1, 2, 15, 16, 31, 32, 2147483647, -2147483648);
        edge.each(house, "holds(0, #)", -1, -1, 3, 19, 20, 2147483647, -2147483648);
        edge.is(house, "holds(-1, -1)", -1);
        edge.is(house, "holds(2, 3)", -1);
    }

    private void sorts() {
        edge.promise(13, "SORT of a SENTENCE (0 all, 1 kind, 2 two, 3 sharp, 4 known, 5 age, 6 wrong);");
        House house = new House().told("say a wrong if 0<1;say b age if 0<1;say c known if 0<1;say d sharp if 0<1;"
                + "say e two if 0<1;say f kind if 0<1;say g all if 0<1;say h wrong if 0<1;");
        for (int s = 0; s < 8; s++) {
            edge.is(house, "sort(" + s + ")", s == 7 ? 6 : 6 - s);
        }
        edge.promise(13, "NONE: no such one.");
        edge.each(house, "sort(#)", -1, -1, 8, 15, 16, 2147483647, -2147483648);
        edge.is(new House(), "sort(0)", -1);
        edge.is(house.told("say x kind if 0<1;"), "sort(0)", 1);
        edge.is(house, "sort(1)", -1);
    }

    private void papers() {
        edge.term("A PAPER of a PERSON by a BOOK: the SENTENCES of WHENS of that BOOK whose SIGN is UP for him (bits).");
        edge.promise(14, "A PAPER (bits);");
        House house = three();
        long[][] want = {{3, 2, 0}, {0, 0, 0}};
        for (int b = 0; b < 2; b++) {
            for (int p = 0; p < 3; p++) {
                edge.is(house, "paper(" + b + ", " + p + ")", want[b][p]);
            }
        }
        // One SENTENCE by two SIGNS that are both UP is on it once; a SENTENCE needn't be TRUE to be on it.
        House twice = new House().told("sign a if 0<1;sign b if minute<1;say t all if 1<0;book m;when a say t;when b say t;"
                + "law f=false;").people(2);
        edge.is(twice, "paper(0, 0)", 1);
        edge.is(twice, "paper(0, 1)", 1);
        edge.is(twice, "fit(0, 0, 0, 0, 0)", 1);
        edge.promise(14, "NONE: no such ones.");
        edge.each(house, "paper(#, 0)", -1, -1, 2, 3, 4, 2147483647, -2147483648);
        edge.each(house, "paper(0, #)", -1, -1, 3, 19, 20, 2147483647, -2147483648);
    }

    private void altered() {
        edge.promise(15, "How many PEOPLE's PAPERS are others if all MINUTES are rounded to steps (2 .. 30);");
        House house = new House().told("sign a if minute==1;sign b if minute==0 or minute==2;say t all if 0<1;"
                + "book m;when a say t;book n;when a say t;when b say t;book o;");
        for (int i = 0; i < 20; i++) {
            edge.is(house, "altered(0, 2)", i);
            house.call("person(1, 0, 0, 0, 0)");
        }
        edge.is(house, "altered(0, 2)", 20);
        edge.is(house, "altered(0, 30)", 20);
        // Other SIGNS that say the same leave the PAPER as it is; a BOOK of no WHENS has no other PAPERS.
        edge.is(house, "altered(1, 2)", 0);
        edge.is(house, "altered(1, 30)", 0);
        edge.is(house, "altered(2, 2)", 0);
        edge.is(house, "of(0, 0)", 1);
        edge.promise(15, "NONE: no such ones.");
        edge.each(house, "altered(0, #)", -1, 1, 0, -1, -2, 31, 2147483647, -2147483648);
        edge.each(house, "altered(#, 2)", -1, -1, 3, 4, 2147483647, -2147483648);
        edge.is(new House(), "altered(0, 2)", -1);
    }

    private void truly() {
        edge.promise(16, "What 0: of how many PEOPLE a SENTENCE is TRUE; 1: of those whose PAPER by a BOOK has it; "
                + "2: of those whose PAPER has it not; 3: how many PAPERS have it.");
        // Of 20 the SENTENCE t is TRUE of 15, on the PAPERS of 12, both of 9.
        House house = new House().told("sign a if minute<12;sign b if 0<1;sign c if 1<0;say t all if 3<=minute and minute<18;"
                + "say u all if 0<1;say v all if 1<0;book m;when a say t;when b say u;when b say v;book n;when c say u;");
        for (int what = 0; what < 4; what++) {
            edge.is(house, "truly(1, 0, " + what + ")", 0);
        }
        house.people(20);
        long[][] want = {{15, 9, 6, 12}, {20, 20, 0, 20}, {0, 0, 0, 20}};
        for (int s = 0; s < 3; s++) {
            for (int what = 0; what < 4; what++) {
                edge.is(house, "truly(" + s + ", 0, " + what + ")", want[s][what]);
                edge.is(house, "truly(" + s + ", 1, " + what + ")", what % 2 == 0 ? want[s][0] : 0);
            }
        }
        edge.promise(16, "NONE: no such ones.");
        edge.each(house, "truly(#, 0, 0)", -1, -1, 3, 16, 2147483647, -2147483648);
        edge.each(house, "truly(0, 0, #)", -1, -1, 4, 2147483647, -2147483648);
        for (int what = 0; what < 4; what++) {
            edge.each(house, "truly(0, #, " + what + ")", -1, -1, 2, 4, 2147483647, -2147483648);
        }
    }

    private void left() {
        edge.promise(17, "How many SENTENCES of his PAPER are TRUE of a PERSON, and of at most so many PEOPLE (most, 0 .. 20) of all;");
        // SENTENCES that are TRUE of 1, 2, 10, 19, 20 and none of 20 PEOPLE, and one that is TRUE but not on the PAPER.
        House house = new House().told("sign a if minute==0;sign z if 0<1;say t all if minute<1;say u all if minute<2;"
                + "say v all if minute<10;say w all if minute<19;say x all if minute<20;say y all if 1<0;say q all if 0<1;"
                + "book m;when a say t;when a say u;when a say v;when a say w;when a say x;when a say y;"
                + "book n;when z say x;when z say t;").people(20);
        for (int most = 0; most <= 20; most++) {
            int want = (most >= 1 ? 1 : 0) + (most >= 2 ? 1 : 0) + (most >= 10 ? 1 : 0) + (most >= 19 ? 1 : 0) + (most >= 20 ? 1 : 0);
            edge.is(house, "left(0, 0, " + most + ")", want);
            edge.is(house, "left(0, 1, " + most + ")", 0);
            edge.is(house, "left(1, 19, " + most + ")", most == 20 ? 1 : 0);
            edge.is(house, "left(1, 0, " + most + ")", most == 20 ? 2 : most > 0 ? 1 : 0);
        }
        edge.promise(17, "NONE: no such ones.");
        edge.each(house, "left(0, 0, #)", -1, -1, 21, 2147483647, -2147483648);
        edge.each(house, "left(#, 0, 0)", -1, -1, 2, 4, 2147483647, -2147483648);
        edge.each(house, "left(0, #, 0)", -1, -1, 20, 2147483647, -2147483648);
    }

    private void fits() {
        edge.term("FIT of a PAPER for a PERSON by a LAW: what the LAW says with him and the PAPER.");
        edge.promise(18, "FIT of another's (from) PAPER for a PERSON,");
        House house = three();
        long[][] want = {{2, 1, 0}, {0, 1, 0}, {-2, -1, 0}};
        for (int p = 0; p < 3; p++) {
            for (int from = 0; from < 3; from++) {
                edge.is(house, "fit(0, 0, " + p + ", " + from + ", 0)", want[p][from]);
                edge.is(house, "fit(1, 0, " + p + ", " + from + ", 0)", 3);
                edge.is(house, "fit(0, 1, " + p + ", " + from + ", 0)", 0);
            }
        }
        House ends = new House().told("book m;law h=" + HIGHEST + ";law l=" + LOWEST + ";law w=" + HIGHEST + "+1;").people(1);
        edge.is(ends, "fit(0, 0, 0, 0, 0)", 2147483647);
        edge.is(ends, "fit(1, 0, 0, 0, 0)", -2147483648);
        edge.is(ends, "fit(2, 0, 0, 0, 0)", -2147483648);
    }

    private void withoutSorts() {
        edge.promise(18, "without SORTS (bits 0 .. 127: SENTENCES of these are not in it);");
        // One TRUE SENTENCE of each SORT, and one of each that is not.
        StringBuilder text = new StringBuilder("sign s if 0<1;book m;law t=true;law f=false;law g=all*1000+kind*100+two*10+sharp;"
                + "law h=known*100+age*10+wrong;");
        String[] sorts = {"all", "kind", "two", "sharp", "known", "age", "wrong"};
        for (int i = 0; i < 14; i++) {
            char name = (char) ('a' + i);
            text.append("say t").append(name).append(' ').append(sorts[i % 7]).append(i < 7 ? " if 0<1;" : " if 1<0;")
                    .append("when s say t").append(name).append(';');
        }
        House house = new House().told(text.toString()).people(2);
        for (int without = 0; without < 128; without++) {
            int in = 7 - Integer.bitCount(without);
            edge.is(house, "fit(" + without % 2 + ", 0, 0, 1, " + without + ")", in);
        }
        for (int i = 0; i < 7; i++) {
            long wholeOnes = 1111 - (i < 4 ? new int[] {1000, 100, 10, 1}[i] : 0);
            long rest = 111 - (i >= 4 ? new int[] {100, 10, 1}[i - 4] : 0);
            edge.is(house, "fit(2, 0, 0, 1, " + (1 << i) + ")", wholeOnes);
            edge.is(house, "fit(3, 0, 0, 1, " + (1 << i) + ")", rest);
        }
        edge.is(house, "fit(0, 0, 0, 1, 127)", 0);
        edge.is(house, "fit(1, 0, 0, 1, 127)", 0);
        edge.is(house, "paper(0, 1)", 16383);
    }

    private void noSuchFits() {
        edge.promise(18, "-2147483648: no such ones.");
        House house = three();
        String[] calls = {"fit(#, 0, 0, 0, 0)", "fit(0, #, 0, 0, 0)", "fit(0, 0, #, 0, 0)", "fit(0, 0, 0, #, 0)",
            "fit(0, 0, 0, 0, #)"};
        int[] most = {1, 1, 2, 2, 127};
        for (int i = 0; i < calls.length; i++) {
            edge.each(house, calls[i], -2147483648, -1, most[i] + 1, 2147483647, -2147483648);
        }
        edge.is(house, "fit(1, 1, 2, 2, 127)", 3);
    }

    private void choosing() {
        edge.term("CHOOSING of three PEOPLE p, q, r by a LAW and BOOK: p is given the PAPERS of the three; he takes the one that "
                + "FITS him most; SIXTHS: 6 if his own alone FITS most, 3 if one other FITS as much, 2 if both do, "
                + "0 if another one FITS more.");
        edge.promise(19, "SIXTHS;");
        // PERSON by PERSON FITS are a law of how many SENTENCES the PAPER has: 0, 1, 1, 2, 2, 2 for MINUTES 0 .. 5.
        String told = "sign a if 1<=minute;sign b if 3<=minute;say t all if 0<1;say u all if 0<1;book m;when a say t;when b say u;";
        House house = new House().told(told + "law f=true;law g=0-true;law h=" + HIGHEST + "-2+true;law w=" + HIGHEST + "-1+true;")
                .people(6);
        int[] papers = {0, 1, 1, 2, 2, 2};
        for (int p = 0; p < 6; p++) {
            for (int q = 0; q < 6; q++) {
                int r = (q + 1) % 6 == p ? (q + 2) % 6 : (q + 1) % 6;
                if (p != q && r != q) {
                    int own = papers[p];
                    String who = p + ", " + q + ", " + r + ")";
                    edge.is(house, "choose(0, 0, " + who, sixths(own, papers[q], papers[r]));
                    edge.is(house, "choose(1, 0, " + who, sixths(-own, -papers[q], -papers[r]));
                    // To the highest of ints, and beyond it, where two SENTENCES are the least of all.
                    edge.is(house, "choose(2, 0, " + who, sixths(own, papers[q], papers[r]));
                    edge.is(house, "choose(3, 0, " + who, sixths(wrapped(own), wrapped(papers[q]), wrapped(papers[r])));
                }
            }
        }
        edge.is(house, "choose(0, 0, 3, 0, 1)", 6);
        edge.is(house, "choose(0, 0, 3, 4, 1)", 3);
        edge.is(house, "choose(0, 0, 3, 1, 4)", 3);
        edge.is(house, "choose(0, 0, 3, 4, 5)", 2);
        edge.is(house, "choose(0, 0, 1, 2, 3)", 0);
        edge.is(house, "choose(0, 0, 1, 3, 2)", 0);
        edge.is(house, "choose(0, 0, 1, 3, 4)", 0);
        edge.is(house, "choose(0, 0, 0, 1, 2)", 0);
    }

    private static int wrapped(int trueOnes) {
        return trueOnes == 2 ? -1 : trueOnes;
    }

    private static int sixths(int own, int second, int third) {
        if (second > own || third > own) {
            return 0;
        }
        return second == own && third == own ? 2 : second == own || third == own ? 3 : 6;
    }

    private void noSuchChoosing() {
        edge.promise(19, "NONE: no such ones, two alike.");
        House house = three();
        edge.is(house, "choose(1, 1, 0, 1, 2)", 2);
        edge.is(house, "choose(1, 1, 2, 1, 0)", 2);
        edge.is(house, "choose(0, 0, 0, 0, 1)", -1);
        edge.is(house, "choose(0, 0, 0, 1, 0)", -1);
        edge.is(house, "choose(0, 0, 1, 0, 0)", -1);
        edge.is(house, "choose(0, 0, 1, 1, 1)", -1);
        String[] calls = {"choose(#, 0, 0, 1, 2)", "choose(0, #, 0, 1, 2)", "choose(0, 0, #, 1, 2)", "choose(0, 0, 0, #, 2)",
            "choose(0, 0, 0, 1, #)"};
        for (int i = 0; i < calls.length; i++) {
            edge.each(house, calls[i], -1, -1, i < 2 ? 2 : 3, 20, 2147483647, -2147483648);
        }
    }

    private void given() {
        edge.promise(21, "Who else is given to a PERSON in a TRIAL: what 0 the first, 1 the second;");
        for (int n : new int[] {3, 4, 5, 19, 20}) {
            for (int seed : new int[] {0, 1, -1, 7, 2147483647, -2147483648}) {
                House house = new House().people(n);
                for (int p = 0; p < n; p++) {
                    int[] two = two(n, p, seed);
                    edge.is(house, "given(" + p + ", " + seed + ", 0)", two[0]);
                    edge.is(house, "given(" + p + ", " + seed + ", 1)", two[1]);
                }
            }
        }
        edge.promise(21, "NONE: no such ones, fewer than 3 PEOPLE.");
        for (int n = 0; n < 3; n++) {
            House few = new House().people(n);
            edge.each(few, "given(0, 1, #)", -1, 0, 1);
            edge.each(few, "given(" + (n - 1) + ", 1, #)", -1, 0, 1);
        }
        House house = new House().people(3);
        edge.each(house, "given(0, 1, #)", -1, -1, 2, 2147483647, -2147483648);
        edge.each(house, "given(#, 1, 0)", -1, -1, 3, 2147483647, -2147483648);
        edge.each(house, "given(#, 1, 1)", -1, -1, 3);
    }

    private static int[] two(int n, int p, int seed) {
        List<Integer> others = new ArrayList<>();
        for (int i = 0; i < n; i++) {
            others.add(i);
        }
        others.remove(p);
        int first = others.remove((int) EdgePeople.lot(n - 1, seed, 2 * p));
        return new int[] {first, others.get((int) EdgePeople.lot(n - 2, seed, 2 * p + 1))};
    }

    /** Twenty whose own PAPER alone FITS them most by law 0, least by law 1, and as all others do by law 2. */
    private static House ownBest(int people) {
        StringBuilder text = new StringBuilder("book m;law f=true-false;law g=false-true;law h=1;");
        for (int bit = 0; bit < 5; bit++) {
            char name = (char) ('a' + bit);
            String has = EdgePeople.hasBit(bit, 20);
            text.append("sign s").append(name).append(" if ").append(has).append(";say t").append(name).append(" all if ")
                    .append(has).append(";when s").append(name).append(" say t").append(name).append(';');
        }
        return new House().told(text.toString()).people(people);
    }

    private void trials() {
        edge.term("A TRIAL by a LAW, BOOK and SEED: each PERSON p (of 3 at least, n of all) is given two others: LOT n - 1 of which "
                + "2 * p: q is that one of the others, by numbers; LOT n - 2 of which 2 * p + 1: r is that one of those left, by numbers.");
        edge.promise(20, "The sum of SIXTHS of a TRIAL;");
        for (int n : new int[] {3, 4, 20}) {
            House house = ownBest(n);
            for (int seed : new int[] {0, 1, -77, 2147483647, -2147483648}) {
                edge.is(house, "trial(0, 0, " + seed + ")", 6 * n);
                edge.is(house, "trial(1, 0, " + seed + ")", 0);
                edge.is(house, "trial(2, 0, " + seed + ")", 2 * n);
            }
        }
        // Who is given to whom is what given() tells.
        House house = new House().told("sign a if 10<=minute;say t all if 0<1;book m;when a say t;law f=true;").people(20);
        for (int seed : new int[] {5, 6, -5, 1000000}) {
            int sum = 0;
            for (int p = 0; p < 20; p++) {
                int[] two = two(20, p, seed);
                sum += sixths(p / 10, two[0] / 10, two[1] / 10);
            }
            edge.is(house, "trial(0, 0, " + seed + ")", sum);
        }
        edge.promise(20, "NONE: no such ones, fewer than 3 PEOPLE.");
        for (int n = 0; n < 3; n++) {
            edge.is(ownBest(n), "trial(0, 0, 1)", -1);
        }
        House three = three();
        edge.is(three, "trial(1, 1, 1)", 6);
        edge.each(three, "trial(#, 0, 1)", -1, -1, 2, 2147483647, -2147483648);
        edge.each(three, "trial(0, #, 1)", -1, -1, 2, 2147483647, -2147483648);
    }

    private void wholes() {
        edge.promise(22, "The sum of SIXTHS over all threes of PEOPLE (each p, each two others once);");
        for (int n : new int[] {0, 1, 2, 3, 4, 20}) {
            int threes = n * (n - 1) * (n - 2) / 2;
            House house = ownBest(n);
            edge.is(house, "whole(0, 0)", 6 * threes);
            edge.is(house, "whole(1, 0)", 0);
            edge.is(house, "whole(2, 0)", 2 * threes);
        }
        // Three of three PAPERS are as in choose(): 6 for the first, 6 for the second, 6 for the third (empty is best).
        House three = three();
        edge.is(three, "whole(0, 0)", 6 + 6 + 6);
        edge.is(three, "whole(0, 1)", 6);
        edge.promise(22, "NONE: no such ones.");
        edge.each(three, "whole(#, 0)", -1, -1, 2, 2147483647, -2147483648);
        edge.each(three, "whole(0, #)", -1, -1, 2, 2147483647, -2147483648);
    }

    private void pleased() {
        edge.promise(23, "How many PEOPLE are PLEASED (FIT of least or more) by their own PAPERS (others: by another's, all two PEOPLE);");
        House house = three();
        // Their own: 2, 1, 0. Another's: 1, 0 for the first, 0, 0 for the second, -2, -1 for the third.
        long[][] want = {{-3, 3, 6}, {-2, 3, 6}, {-1, 3, 5}, {0, 3, 4}, {1, 2, 1}, {2, 1, 0}, {3, 0, 0}};
        for (long[] one : want) {
            edge.is(house, "pleased(0, 0, " + one[0] + ", false)", one[1]);
            edge.is(house, "pleased(0, 0, " + one[0] + ", true)", one[2]);
        }
        for (int n : new int[] {0, 1, 2, 20}) {
            House all = ownBest(n);
            edge.is(all, "pleased(2, 0, 1, false)", n);
            edge.is(all, "pleased(2, 0, 1, true)", n * (n - 1));
            edge.is(all, "pleased(2, 0, 2, false)", 0);
            edge.is(all, "pleased(2, 0, 2, true)", 0);
        }
        edge.promise(23, "NONE: no such ones.");
        for (String others : new String[] {"true", "false"}) {
            edge.each(house, "pleased(#, 0, 0, " + others + ")", -1, -1, 2, 2147483647, -2147483648);
            edge.each(house, "pleased(0, #, 0, " + others + ")", -1, -1, 2, 2147483647, -2147483648);
        }
    }

    private void pleasedAtTheEnds() {
        House house = new House().told("book m;law h=" + HIGHEST + ";law l=" + LOWEST + ";").people(2);
        edge.is(house, "pleased(0, 0, 2147483647, false)", 2);
        edge.is(house, "pleased(0, 0, 2147483647, true)", 2);
        edge.is(house, "pleased(0, 0, -2147483648, false)", 2);
        edge.is(house, "pleased(1, 0, -2147483648, false)", 2);
        edge.is(house, "pleased(1, 0, -2147483648, true)", 2);
        edge.is(house, "pleased(1, 0, -2147483647, false)", 0);
        edge.is(house, "pleased(1, 0, 2147483647, true)", 0);
    }

    /** Those whom a WORLD has put out of place count in nothing, though all of them would count in all. */
    private void fewerPeople() {
        edge.promise(7, "A WORLD, in place of all PEOPLE: n.");
        House house = new House().told("sign a if way 0==1;sign b if minute==1;say t all if way 0==1;book m;when a say t;"
                + "book n;when b say t;law f=true;");
        for (int i = 0; i < 20; i++) {
            house.call("person(1, 0, 0, 0, 1)");
        }
        edge.is(house, "altered(1, 2)", 20);
        edge.is(house, "pleased(0, 0, 1, true)", 380);
        edge.is(house, "list(19, true)", 0);
        house.did("world(1, 0, 0)", "person(1, 0, 0, 0, 1)");
        edge.is(house, "altered(1, 2)", 1);
        long[] truly = {1, 1, 0, 1};
        for (int what = 0; what < 4; what++) {
            edge.is(house, "truly(0, 0, " + what + ")", truly[what]);
            edge.is(house, "table(0, 0, " + what + ")", 1);
        }
        edge.is(house, "left(0, 0, 1)", 1);
        edge.is(house, "left(0, 0, 0)", 0);
        edge.is(house, "pleased(0, 0, 1, false)", 1);
        edge.is(house, "pleased(0, 0, 1, true)", 0);
        edge.is(house, "whole(0, 0)", 0);
        edge.is(house, "chances(0, 0, false)", 1);
        edge.is(house, "within(0, 0, 1, false)", 1);
        edge.is(house, "red(0, 1, 0)", 0);
        edge.is(house, "red(0, 1, 2)", 1);
        edge.is(house, "paper(0, 1)", -1);
    }
}

/** Promises 6 to 11: PEOPLE, WORLDS, SIGNS that are UP. */
public final class PeopleTest {
    private static final Due DUE = new Due();

    public static void main(String[] args) {
        personsAndWhatTheyAre();
        noSuchPersons();
        twentyAtMost();
        worlds();
        worldsWithSigns();
        noSuchWorlds();
        signsThatAreUp();
        conditions();
        roundedMinutes();
        movedMinutes();
        DUE.end();
    }

    private static void personsAndWhatTheyAre() {
        SkyTrial house = new SkyTrial();
        DUE.is("first person", house.person(59, 11, 9, 3, 12345678), 0);
        DUE.is("second person", house.person(0, 0, 0, 0, 0), 1);
        DUE.is("third person", house.person(1, 2, 3, 1, 99999999), 2);
        DUE.is("count(0)", house.count(0), 3);
        int[] due = {59, 11, 9, 3};
        for (int what = 0; what < 4; what++) {
            DUE.is("of(0, " + what + ")", house.of(0, what), due[what]);
            DUE.is("of(1, " + what + ")", house.of(1, what), 0);
        }
        for (int way = 0; way < 8; way++) {
            DUE.is("way " + way, house.of(0, 10 + way), 8 - way);
            DUE.is("way " + way + " of 2", house.of(2, 10 + way), 9);
        }
        for (int what : new int[] {-1, 4, 5, 9, 18, -2147483648, 2147483647}) {
            DUE.is("of(0, " + what + ")", house.of(0, what), -1);
        }
        DUE.is("of(3, 0)", house.of(3, 0), -1);
        DUE.is("of(-1, 0)", house.of(-1, 0), -1);
    }

    private static void noSuchPersons() {
        SkyTrial house = new SkyTrial();
        int[][] wrong = {{-1, 0, 0, 0, 0}, {60, 0, 0, 0, 0}, {0, -1, 0, 0, 0}, {0, 12, 0, 0, 0}, {0, 0, -1, 0, 0},
            {0, 0, 10, 0, 0}, {0, 0, 0, -1, 0}, {0, 0, 0, 4, 0}, {0, 0, 0, 0, -1}, {0, 0, 0, 0, 100000000}};
        for (int[] one : wrong) {
            DUE.is("no such person", house.person(one[0], one[1], one[2], one[3], one[4]), -1);
        }
        DUE.is("nothing happened", house.count(0), 0);
    }

    private static void twentyAtMost() {
        SkyTrial house = new SkyTrial();
        for (int i = 0; i < 20; i++) {
            DUE.is("person " + i, house.person(i, 0, 0, 0, 0), i);
        }
        DUE.is("a 21st", house.person(0, 0, 0, 0, 0), -1);
        DUE.is("count(0)", house.count(0), 20);
        DUE.is("the last one's minute", house.of(19, 0), 19);
    }

    /** The numbers were worked out from the document's LOT by another program. */
    private static void worlds() {
        SkyTrial house = new SkyTrial();
        house.person(1, 1, 1, 1, 1);
        DUE.is("world(1, 20, 10)", house.world(1, 20, 10), 20);
        isPerson(house, 0, 49, 10, 8, 2, 1, 7, 7, 0, 7, 6, 3, 6);
        isPerson(house, 1, 9, 6, 4, 3, 6, 3, 4, 3, 3, 4, 9, 0);
        isPerson(house, 2, 53, 3, 9, 2, 4, 3, 8, 9, 6, 9, 4, 5);
        isPerson(house, 19, 54, 5, 0, 3, 8, 2, 2, 3, 3, 2, 1, 2);
        DUE.is("world(-5, 2, 0)", house.world(-5, 2, 0), 2);
        isPerson(house, 0, 22, 3, 7, 1, 9, 6, 5, 8, 7, 5, 1, 2);
        isPerson(house, 1, 10, 3, 7, 1, 8, 5, 8, 3, 9, 1, 5, 4);
        DUE.is("the third is gone", house.of(2, 0), -1);
        DUE.is("a person behind a world", house.person(5, 5, 5, 2, 5), 2);
        DUE.is("world of none", house.world(3, 0, 5), 0);
        DUE.is("count(0)", house.count(0), 0);
    }

    private static void isPerson(SkyTrial house, int person, int... due) {
        for (int i = 0; i < due.length; i++) {
            int what = i < 4 ? i : i + 6;
            DUE.is("of(" + person + ", " + what + ") of a world", house.of(person, what), due[i]);
        }
    }

    /** Of SEED 1 the LOTS for SIGNS begin with 6, 7, 9 for PERSON 0 and with 1, 6, 4 for PERSON 1. */
    private static void worldsWithSigns() {
        SkyTrial house = new SkyTrial();
        Due.read(house, "sign a if 0<1; sign b if way 0==9; sign c if way 0<9;");
        ways(house, 0, 1, 7, 7, 6, 3, 4);
        ways(house, 1, 1, 7, 7, 6, 3, 4);
        ways(house, 2, 1, 7, 7, 9, 3, 4);
        ways(house, 6, 1, 7, 7, 9, 3, 4);
        ways(house, 7, 9, 7, 7, 9, 9, 4);
        ways(house, 8, 9, 9, 7, 9, 9, 4);
        ways(house, 10, 9, 9, 7, 9, 9, 4);
        Due.read(house, "sign a if 1<0; sign b if 1<0; sign c if way 0<9;");
        ways(house, 4, 1, 7, 7, 6, 3, 4);
        ways(house, 5, 1, 7, 7, 6, 3, 9);
        ways(house, 10, 1, 7, 9, 6, 3, 9);
    }

    private static void ways(SkyTrial house, int strength, int... due) {
        DUE.is("world(1, 2, " + strength + ")", house.world(1, 2, strength), 2);
        for (int i = 0; i < 6; i++) {
            DUE.is("way " + i % 3 + " of " + i / 3 + " by strength " + strength, house.of(i / 3, 10 + i % 3), due[i]);
        }
        DUE.is("way 3 stays", house.of(0, 13), 0);
    }

    private static void noSuchWorlds() {
        SkyTrial house = new SkyTrial();
        house.person(1, 2, 3, 1, 5);
        int[][] wrong = {{-1, 0}, {21, 0}, {5, -1}, {5, 11}, {-2147483648, 5}, {2147483647, 5}};
        for (int[] one : wrong) {
            DUE.is("no such world", house.world(1, one[0], one[1]), -1);
        }
        DUE.is("nothing happened", house.count(0), 1);
        DUE.is("to him", house.of(0, 0), 1);
    }

    private static void signsThatAreUp() {
        SkyTrial house = new SkyTrial();
        DUE.is("signs without people", house.signs(0, -1), -1);
        house.person(10, 1, 2, 3, 87654321);
        DUE.is("signs without a text", house.signs(0, -1), 0);
        Due.read(house, "sign a if minute<30; sign b if month==1; sign c if 40<=minute and minute!=50; sign d if 1<0;"
                + "sign e if true+false+all+kind+two+sharp+known+age+wrong==0; sign f if years*10+coat==23;");
        DUE.is("signs(0, -1)", house.signs(0, -1), 1 + 2 + 16 + 32);
        DUE.is("signs(0, 0)", house.signs(0, 0), 1 + 2 + 16 + 32);
        DUE.is("signs(0, 30)", house.signs(0, 30), 2 + 16 + 32);
        DUE.is("signs(0, 50)", house.signs(0, 50), 2 + 16 + 32);
        DUE.is("signs(0, 59)", house.signs(0, 59), 2 + 4 + 16 + 32);
        DUE.is("signs(0, 60)", house.signs(0, 60), -1);
        DUE.is("signs(0, -2)", house.signs(0, -2), -1);
        DUE.is("signs(1, 0)", house.signs(1, 0), -1);
        DUE.is("signs(-1, 0)", house.signs(-1, 0), -1);
        DUE.is("his minute is as it was", house.of(0, 0), 10);
        for (int way = 0; way < 8; way++) {
            Due.read(house, "sign a if way " + way + "==" + (way + 1) + ";");
            DUE.is("way " + way + " in a sign", house.signs(0, -1), 1);
        }
    }

    private static void conditions() {
        isSo("1<0 and 1<0 or 0<1", true);
        isSo("0<1 or 0<1 and 1<0", true);
        isSo("0<1 or 1<0 and 1<0", true);
        isSo("1<0 or 0<1 and 1<0", false);
        isSo("0<1 and 1<0 or 1<0 and 0<1", false);
        isSo("1<0 and 0<1 or 0<1 and 0<1", true);
        isSo("not 1<0 and 0<1", true);
        isSo("not 0<1 or 0<1", true);
        isSo("not 0<1 and 1<0", false);
        isSo("not not 0<1", true);
        isSo("not not not 0<1", false);
        isSo("0<=0", true);
        isSo("0<0", false);
        isSo("1<=0", false);
        isSo("0!=0", false);
        isSo("0!=1", true);
        isSo("2+3*4==14", true);
        isSo("2*3+4==10", true);
        isSo("(2+3)*4==20", true);
        isSo("10-3-4==3", true);
        isSo("10-(3-4)==11", true);
        isSo("2-3*4+20==10", true);
        isSo("2*3*4-2*(3+4)*1==10", true);
        isSo("0-1<0", true);
        isSo("((((((7))))))==07", true);
        // 9999 to the third is 999700029999; by 32 bits that wrap it is -1027349969.
        isSo("9999*9999*9999<0", true);
        isSo("9999*9999*9999==0-(9999*9999*10+9999*2755+2714)", true);
        isSo("0-9999*9999*22<0-9999*9999*21", false);
        isSo("minute==7 and month==8 and years==9 and coat==3 and way 0==4", true);
    }

    private static void isSo(String condition, boolean due) {
        SkyTrial house = new SkyTrial();
        house.person(7, 8, 9, 3, 4);
        DUE.is("read of " + condition, Due.read(house, "sign a if " + condition + ";say b all if " + condition + ";"), 0);
        DUE.is("sign if " + condition, house.signs(0, -1), due ? 1 : 0);
        DUE.is("say if " + condition, house.holds(0, 0), due ? 1 : 0);
    }

    private static void roundedMinutes() {
        rounds(10, 30, 0);
        rounds(14, 30, 0);
        rounds(15, 30, 30);
        rounds(44, 30, 30);
        rounds(45, 30, 0);
        rounds(59, 30, 0);
        rounds(0, 30, 0);
        rounds(58, 2, 58);
        rounds(59, 2, 0);
        rounds(1, 2, 2);
        rounds(59, 7, 56);
        rounds(3, 7, 0);
        rounds(4, 7, 7);
        rounds(59, 13, 5);
        rounds(58, 13, 52);
        rounds(56, 16, 4);
        rounds(55, 16, 48);
        rounds(59, 17, 51);
        rounds(59, 22, 6);
        rounds(59, 23, 9);
        rounds(59, 24, 48);
        rounds(37, 25, 25);
        rounds(38, 25, 50);
        rounds(43, 29, 29);
        rounds(44, 29, 58);
        rounds(30, 20, 40);
        SkyTrial house = new SkyTrial();
        DUE.is("rounded(0, 5) without people", house.rounded(0, 5), -1);
        house.person(1, 0, 0, 0, 0);
        for (int step : new int[] {0, 1, -5, 31, -2147483648, 2147483647}) {
            DUE.is("rounded(0, " + step + ")", house.rounded(0, step), -1);
        }
        DUE.is("rounded(1, 5)", house.rounded(1, 5), -1);
        DUE.is("rounded(-1, 5)", house.rounded(-1, 5), -1);
        DUE.is("rounded(0, 5) without signs", house.rounded(0, 5), 0);
    }

    private static void rounds(int minute, int step, int due) {
        SkyTrial house = new SkyTrial();
        house.person(minute, 4, 0, 0, 0);
        Due.read(house, "sign a if minute==" + due + "; sign b if month==4;");
        DUE.is("minute " + minute + " by steps of " + step, house.rounded(0, step), 3);
    }

    private static void movedMinutes() {
        SkyTrial house = new SkyTrial();
        house.person(50, 0, 0, 0, 0);
        house.person(5, 0, 0, 0, 0);
        house.person(20, 0, 0, 0, 0);
        Due.read(house, "sign a if minute==5; sign b if minute!=5; sign c if minute==50; sign d if minute!=50;");
        moved(house, 0, 0, 4 + 2, 4 + 2);
        moved(house, 0, 14, 2, 2 + 4 + 8);
        moved(house, 0, 15, 0, 1 + 2 + 4 + 8);
        moved(house, 1, 14, 8, 1 + 2 + 8);
        moved(house, 1, 15, 0, 1 + 2 + 4 + 8);
        moved(house, 2, 14, 2 + 8, 2 + 8);
        moved(house, 2, 15, 8, 1 + 2 + 8);
        moved(house, 2, 29, 8, 1 + 2 + 8);
        moved(house, 2, 30, 0, 1 + 2 + 4 + 8);
        for (int m : new int[] {-1, 31, -2147483648, 2147483647}) {
            DUE.is("moved(0, " + m + ")", house.moved(0, m, true), -1);
        }
        DUE.is("moved(3, 1)", house.moved(3, 1, false), -1);
        DUE.is("moved(-1, 1)", house.moved(-1, 1, false), -1);
        Due.read(house, "");
        moved(house, 0, 5, 0, 0);
    }

    private static void moved(SkyTrial house, int person, int m, int all, int some) {
        DUE.is("moved(" + person + ", " + m + ", false)", house.moved(person, m, false), all);
        DUE.is("moved(" + person + ", " + m + ", true)", house.moved(person, m, true), some);
    }
}

import java.util.List;
import java.util.function.Supplier;

/** Boundary cases of the grammar, of the FAULTS of a text and of its VARS. */
final class EdgeTexts {
    private static final String[] KINDS = {"sign # if 0<1;", "say # all if 0<1;", "book #;", "law #=1;"};
    private static final int[] NAME_PLACES = {5, 4, 5, 4};
    private static final String HIGHEST = "(9999*9999*21+9999*4790+8416)";
    private static final String LOWEST = "(0-9999*9999*21-9999*4790-8417)";

    private final Edge edge;

    EdgeTexts(Edge edge) {
        this.edge = edge;
    }

    void run() {
        tells();
        conditions();
        formulas();
        numbers();
        whensOfBooks();
        firstFaults();
        syntax();
        roomForTokens();
        roomForTells();
        roomForBrackets();
        laterFaults();
        namesTwice();
        whensTwice();
        namesAhead();
        booksAhead();
        waysAboveSeven();
        faultsChangeNothing();
        shorterTexts();
        vars();
        papersInLaws();
        wraps();
        counts();
    }

    private static String many(int n, String tell) {
        StringBuilder text = new StringBuilder();
        for (int i = 0; i < n; i++) {
            text.append(tell.replace("#", "" + (char) ('a' + i)));
        }
        return text.toString();
    }

    private void tells() {
        edge.term("text: {TELL}.");
        edge.good("");
        edge.good("book a;");
        edge.good("book a;law b=1;");
        edge.fault(";", 1, 0);
        edge.fault("book a;;", 1, 7);
        edge.fault("a", 1, 0);
        edge.fault("1", 1, 0);
        edge.term("TELL: 'sign' NAME 'if' COND ';' | 'say' NAME SORT 'if' COND ';' | 'book' NAME ';' "
                + "| 'when' NAME 'say' NAME ';' | 'law' NAME '=' E ';'.");
        String[][] tells = {{"sign ", "a ", "if ", "0", "<", "1", ";"}, {"say ", "a ", "two ", "if ", "0", "<", "1", ";"},
            {"book ", "a ", ";"}, {"when ", "s ", "say ", "t ", ";"}, {"law ", "a ", "=", "1", ";"}};
        String ahead = "sign s if 0<1;say t all if 0<1;book m;";
        for (String[] tell : tells) {
            edge.good(ahead + String.join("", tell));
            String part = ahead;
            for (int i = 0; i < tell.length; i++) {
                // With a part left out the next TOKEN, or the end, is the FAULT; so is a TOKEN that comes too early.
                edge.fault(part + "!", 1, part.length());
                edge.fault(part + (i == 0 ? "if " : "when ") + tell[i], 1, part.length());
                if (i > 0) {
                    edge.fault(part, 1, part.length());
                }
                part = part + tell[i];
            }
        }
        edge.fault("sign a two if 0<1;", 1, 7);
        edge.fault("say a if 0<1;", 1, 6);
        edge.fault("book a=1;", 1, 6);
        edge.fault("law a if 0<1;", 1, 6);
        edge.term("SORT: 'all' | 'kind' | 'two' | 'sharp' | 'known' | 'age' | 'wrong'.");
        edge.good("say a all if 0<1;say b kind if 0<1;say c two if 0<1;say d sharp if 0<1;say e known if 0<1;"
                + "say f age if 0<1;say g wrong if 0<1;");
        for (String word : new String[] {"true", "false", "minute", "month", "years", "coat", "way", "or", "three", "ages"}) {
            edge.fault("say a " + word + " if 0<1;", 1, 6);
        }
    }

    private void conditions() {
        edge.term("COND: ALL {'or' ALL}.");
        edge.holds("0<1", true);
        edge.holds("1<0 or 0<1", true);
        edge.holds("1<0 or 1<0", false);
        // The most that 400 TOKENS hold: seven and 98 times four.
        String ors = "1<0" + " or 1<0".repeat(97);
        edge.holdsLong(ors + " or 0<1", true);
        edge.holdsLong(ors + " or 1<0", false);
        edge.fault("sign a if 0<1 or;", 1, 16);
        edge.fault("sign a if or 0<1;", 1, 10);
        edge.fault("sign a if (0<1 or 1<0);", 1, 12);
        edge.term("ALL: LIT {'and' LIT}.");
        edge.holds("0<1 and 0<1", true);
        edge.holds("0<1 and 1<0", false);
        edge.holds("0<1 or 0<1 and 1<0", true);
        edge.holds("1<0 and 0<1 or 0<1", true);
        edge.holds("1<0 or 0<1 and 1<0", false);
        String ands = "0<1" + " and 0<1".repeat(97);
        edge.holdsLong(ands + " and 0<1", true);
        edge.holdsLong(ands + " and 1<0", false);
        edge.fault("sign a if 0<1 and;", 1, 17);
        edge.fault("sign a if 0<1 and or 0<1;", 1, 18);
        edge.term("LIT: 'not' LIT | E ('==' | '!=' | '<' | '<=') E.");
        edge.holds("not 0<1", false);
        edge.holds("not not 0<1", true);
        edge.holds("not 1<0 and 1<0", false);
        edge.holds("not 0<1 or 0<1", true);
        // 393 times 'not' and seven TOKENS more are 400.
        edge.holdsLong("not ".repeat(393) + "1<0", true);
        edge.holdsLong("not ".repeat(392) + "1<0", false);
        String full = "sign a if " + "not ".repeat(394) + "1<0";
        edge.fault(full + ";", 2, full.length());
        edge.holds("2==2", true);
        edge.holds("2==3", false);
        edge.holds("2!=2", false);
        edge.holds("2!=3", true);
        edge.holds("2<2", false);
        edge.holds("2<3", true);
        edge.holds("3<2", false);
        edge.holds("2<=2", true);
        edge.holds("2<=3", true);
        edge.holds("3<=2", false);
        for (String so : new String[] {"2==2", "2!=3", "2<3", "2<=2"}) {
            for (String not : new String[] {"2==3", "2!=2", "2<2", "3<=2"}) {
                edge.holds("not " + not, true);
                edge.holds("not " + so, false);
                edge.holds(so + " and " + not, false);
                edge.holds(not + " and " + so, false);
                edge.holds(not + " or " + not, false);
                edge.holds(not + " or " + so, true);
                edge.holds(so + " and not " + not, true);
            }
        }
        edge.fault("sign a if 1;", 1, 11);
        edge.fault("sign a if 1<2<3;", 1, 13);
        edge.fault("sign a if not;", 1, 13);
        edge.fault("sign a if 1<not 2;", 1, 12);
    }

    private void formulas() {
        edge.term("E: PART {('+' | '-') PART}.");
        edge.value("5", 5);
        edge.value("5-3-1", 1);
        edge.value("5-(3-1)", 3);
        edge.value("1-2+3-4", -2);
        edge.value("0-1", -1);
        edge.fault("law f=-1;", 1, 6);
        edge.fault("law f=+1;", 1, 6);
        edge.fault("law f=1+;", 1, 8);
        edge.fault("law f=1+-1;", 1, 8);
        edge.term("PART: UNIT {'*' UNIT}.");
        edge.value("2+3*4", 14);
        edge.value("2*3+4", 10);
        edge.value("2*3*4-5*6", -6);
        edge.value("10-2*3-1", 3);
        edge.fault("law f=*1;", 1, 6);
        edge.fault("law f=1**1;", 1, 8);
        edge.fault("law f=1*;", 1, 8);
        edge.term("UNIT: INT | VAR | '(' E ')'.");
        edge.value("(5)", 5);
        edge.value("(2+3)*(4-6)", -10);
        edge.fault("law f=();", 1, 7);
        edge.fault("law f=(1;", 1, 8);
        edge.fault("law f=1);", 1, 7);
        edge.fault("law f=(1<2);", 1, 8);
        edge.fault("law f=2(3);", 1, 7);
        edge.fault("law f=a;", 1, 6);
        edge.fault("law f=(;", 1, 7);
        edge.term("VAR: 'way' INT | 'minute' | 'month' | 'years' | 'coat' | 'true' | 'false' | SORT.");
        edge.good("law f=way 0+minute+month+years+coat+true+false+all+kind+two+sharp+known+age+wrong;");
        edge.fault("law f=way;", 1, 9);
        edge.fault("law f=way way;", 1, 10);
        edge.fault("law f=way(1);", 1, 9);
        edge.fault("law f=way a;", 1, 10);
        edge.fault("law f=minute 1;", 1, 13);
        for (String word : new String[] {"sign", "if", "say", "book", "when", "law", "or", "and", "not"}) {
            edge.fault("law f=" + word + ";", 1, 6);
        }
    }

    private void numbers() {
        edge.term("SIGNS, SENTENCES (say), BOOKS, LAWS are numbered each from 0 on as they stand;");
        House house = new House().told("law a=10;sign b if 1<0;book c;say d wrong if 0<1;sign e if 0<1;law f=11;"
                + "say g age if 1<0;book h;when e say d;").people(1);
        edge.is(house, "fit(0, 0, 0, 0, 0)", 10);
        edge.is(house, "fit(1, 0, 0, 0, 0)", 11);
        edge.is(house, "signs(0, -1)", 2);
        edge.is(house, "sort(0)", 6);
        edge.is(house, "sort(1)", 5);
        edge.is(house, "paper(0, 0)", 0);
        edge.is(house, "paper(1, 0)", 1);
        house = full();
        edge.is(house, "signs(0, -1)", 32);
        edge.is(house, "table(5, 15, 1)", 1);
        edge.is(house, "table(6, 15, 1)", -1);
        edge.is(house, "table(5, 16, 1)", -1);
        edge.is(house, "holds(15, 0)", 1);
        edge.is(house, "holds(14, 0)", 0);
        edge.is(house, "holds(16, 0)", -1);
        edge.is(house, "sort(15)", 6);
        edge.is(house, "paper(3, 0)", 32768);
        edge.is(house, "paper(4, 0)", -1);
        edge.is(house, "fit(3, 3, 0, 0, 0)", 4);
        edge.is(house, "fit(4, 3, 0, 0, 0)", -2147483648);
        // Of a shorter text none of the numbers beyond it are left.
        house.told("sign x if 0<1;say y all if 0<1;book z;law w=9;");
        edge.is(house, "signs(0, -1)", 1);
        edge.is(house, "sort(0)", 0);
        edge.is(house, "sort(1)", -1);
        edge.is(house, "paper(0, 0)", 0);
        edge.is(house, "paper(1, 0)", -1);
        edge.is(house, "fit(0, 0, 0, 0, 0)", 9);
        edge.is(house, "fit(1, 0, 0, 0, 0)", -2147483648);
        edge.is(house, "table(1, 0, 0)", -1);
    }

    /** As many of each as there may be, but for a WHEN, as 400 TOKENS don't hold it; the last SIGN and SENTENCE hold. */
    private static House full() {
        return new House().told(many(5, "sign s# if 1<0;") + "sign sf if 0<1;" + many(15, "say t# all if 1<0;")
                + "say tp wrong if 0<1;" + many(4, "book b#;") + many(12, "when sa say t#;") + many(13, "when sb say t#;")
                + many(13, "when sc say t#;") + "when sf say tp;" + many(3, "law l#=1;") + "law ld=4;").people(1);
    }

    private void whensOfBooks() {
        edge.term("a WHEN (a SIGN, a SENTENCE) is of the BOOK told last.");
        House house = new House().told("sign s if 0<1;say t all if 0<1;say u all if 0<1;say v all if 0<1;"
                + "book a;when s say t;book b;book c;when s say u;law f=1;sign r if 0<1;when r say v;book d;").people(1);
        edge.is(house, "paper(0, 0)", 1);
        edge.is(house, "paper(1, 0)", 0);
        edge.is(house, "paper(2, 0)", 6);
        edge.is(house, "paper(3, 0)", 0);
        edge.is(house, "count(5)", 3);
    }

    private void firstFaults() {
        edge.term("FAULTS of a text, the first by its place (a byte; the text's end: its length), of one place the least:");
        edge.fault("book a;!!", 1, 7);
        edge.fault("book a;!;book a b", 1, 7);
        String books = many(4, "book b#;");
        edge.fault(books + "book x;!", 2, books.length());
        edge.fault(books + "!book x;", 1, books.length());
        edge.fault(books + "book !", 2, books.length());
        edge.fault("book a", 1, 6);
        edge.fault("book a   ", 1, 9);
        edge.fault("\n\nbook", 1, 6);
        // The 401st TOKEN with which no text goes on is SYNTAX and ROOM at one place.
        String law = "law f=way 0" + "+1".repeat(197) + ";";
        edge.fault(law + "book", 2, law.length());
        edge.fault(law + "if", 1, law.length());
        edge.fault(law + ".", 1, law.length());
        edge.fault(law + "abcdefghi", 1, law.length());
        edge.fault("book f;book f;law g=way 8;", 3, 12);
        edge.fault("law g=way 8;book f;book f;", 5, 10);
        edge.fault("when a say b;book f;book f;", 4, 0);
        edge.fault("book f;book f;when a say b;", 3, 12);
        edge.fault("book f;law g=way 8;when a say b;", 5, 17);
        edge.fault("when a say b;", 4, 0);
        edge.fault("book f;when a say b;", 4, 12);
    }

    private void syntax() {
        edge.term("1 SYNTAX: a TOKEN, or what is none, with which no text goes on.");
        edge.fault("sign a if 0<1", 1, 13);
        edge.good("sign a if 0<1;");
        edge.fault("sign a if 0<1)", 1, 13);
        edge.fault("sign a if (0)<(1;", 1, 16);
        edge.fault("sign a if (0<1);", 1, 12);
        edge.fault("sign a if ((1)+2)*3;", 1, 19);
        edge.fault("sign a if 1 and 1<2;", 1, 12);
        edge.fault("law f=1<2;", 1, 7);
        edge.fault("law f=1 or 2;", 1, 8);
        edge.fault("law f=not 1;", 1, 6);
        edge.fault("when 1 say b;", 1, 5);
        edge.fault("when a say b say c;", 1, 13);
        edge.fault("sign a if 0<1;else", 1, 14);
    }

    private void roomForTokens() {
        edge.term("2 ROOM: a 401st TOKEN;");
        // Six TOKENS, and two for each further part.
        String sum = "law f=way 0" + "+1".repeat(197);
        edge.good(sum + ";");
        edge.good(sum + ";" + " ".repeat(100));
        House house = new House().told("book b;law f=way 0" + "+9999".repeat(195) + ";").did("person(0, 0, 0, 0, 7)");
        edge.is(house, "fit(0, 0, 0, 0, 0)", 7 + 9999 * 195);
        edge.fault(sum + ";book a;", 2, sum.length() + 1);
        edge.fault(sum + "; \n sign", 2, sum.length() + 4);
        edge.fault(sum + "+1;", 2, sum.length() + 1);
        edge.fault(sum + "+", 1, sum.length() + 1);
        edge.fault(sum + ";;", 1, sum.length() + 1);
        edge.fault(sum, 1, sum.length());
        String odd = "law f=1" + "+1".repeat(198);
        edge.fault(odd + ";", 2, odd.length());
        edge.fault(odd + "+", 2, odd.length());
        edge.fault(odd + "*", 2, odd.length());
        edge.fault(odd, 1, odd.length());
        edge.fault(odd + " 1", 1, odd.length() + 1);
        edge.fault(odd + ")", 1, odd.length());
        // A way's INT as the 401st, and one that would be WRONG too.
        String way = "law f=1" + "+1".repeat(197) + "+way";
        edge.fault(way + " 1;", 2, way.length() + 1);
        edge.fault(way + " 8;", 2, way.length() + 1);
        edge.fault(way + ";", 1, way.length());
        // ROOM for TOKENS and for brackets of one place, and one ahead of the other.
        String deep = "law f=way 0" + "+1".repeat(194) + "+((((((";
        edge.fault(deep + "(", 2, deep.length());
        edge.fault(deep + "1", 2, deep.length());
        edge.fault(deep, 1, deep.length());
    }

    private void roomForTells() {
        edge.term("a 7th sign, a 17th say, a 5th book, a 41st when, a 5th law (at its first TOKEN);");
        String[] most = {many(6, "sign s# if 0<1;"), many(16, "say t# all if 0<1;"), many(4, "book b#;"), many(4, "law l#=1;")};
        for (int i = 0; i < most.length; i++) {
            String one = KINDS[i].replace("#", "x");
            String word = one.substring(0, one.indexOf(' '));
            edge.good(most[i]);
            edge.fault(most[i] + one, 2, most[i].length());
            edge.fault(most[i] + "\n" + word, 2, most[i].length() + 1);
            edge.fault(most[i] + word + "!", 2, most[i].length());
            for (int k = 0; k < KINDS.length; k++) {
                // The others have room of their own.
                if (k != i) {
                    edge.good(most[i] + KINDS[k].replace("#", "x"));
                }
            }
        }
        edge.good(String.join("", most));
        String whens = most[0] + most[1] + "book b;" + many(16, "when sa say t#;") + many(16, "when sf say t#;");
        edge.good(whens + many(8, "when sc say t#;"));
        edge.fault(whens + many(9, "when sc say t#;"), 2, whens.length() + 8 * 15);
        // All WHENS count, of whatever BOOK.
        edge.good(whens + "book c;" + many(8, "when sa say t#;"));
        edge.fault(whens + "book c;" + many(9, "when sa say t#;"), 2, whens.length() + 7 + 8 * 15);
        edge.fault(whens + "book c;" + many(8, "when sa say t#;") + "when", 2, whens.length() + 7 + 8 * 15);
        // Without a NAME that is told, forty and one are counted all the same: ROOM is looked for first.
        edge.fault("when x say y;".repeat(40), 4, 0);
        edge.fault("when x say y;".repeat(41), 2, 40 * 13);
        edge.fault("book a;".repeat(4), 3, 12);
        edge.fault("book a;".repeat(5), 2, 28);
    }

    private void roomForBrackets() {
        edge.term("a 7th ( within one another (at it).");
        edge.value("((((((5))))))", 5);
        edge.fault("law f=(((((((5)))))));", 2, 12);
        edge.fault("law f=(((((((", 2, 12);
        edge.value("((((((5))))))+((((((6))))))*((((((7))))))", 47);
        edge.value("(1)+(1)+(1)+(1)+(1)+(1)+(1)+(1)", 8);
        edge.value("(((((1*(2+3)-(4+5))))))", -4);
        edge.fault("law f=((((((1*(2)))))));", 2, 14);
        edge.fault("law f=((((((1)+(2)))))+((((((3)))))));", 2, 28);
        edge.fault("law f=((((((1(", 1, 13);
        edge.holds("((((((1))))))<((((((2))))))", true);
        edge.fault("sign a if (((((((1)))))))<2;", 2, 16);
        edge.fault("sign a if 1<(((((((2)))))));", 2, 18);
        edge.fault("say a all if not (((((((1)))))))<2;", 2, 23);
        // As much as may wait for its end at once: a sum, a product in each bracket, an 'or', an 'and', a comparison.
        String deep = "1+2*(1+2*(1+2*(1+2*(1+2*(1+2*(1+2*1))))))";
        edge.value(deep, 255);
        edge.holds("1<0 or 0<1 and 255==" + deep, true);
        edge.holds("1<0 or 0<1 and 254==" + deep, false);
        // As many formulas ahead of it as there may be take none of its room.
        String ahead = many(5, "sign s# if 0<1;") + many(15, "say t# all if 0<1;") + many(4, "law l#=1;");
        String last = "sign y if 0<1;say z all if 1<0 or 0<1 and 255==" + deep + ";";
        edge.is(new House().told(ahead + last).people(1), "holds(15, 0)", 1);
        edge.is(new House().told(ahead + last.replace("255", "254")).people(1), "holds(15, 0)", 0);
        last = "say y all if 0<1;sign z if 1<0 or 0<1 and 255==" + deep + ";";
        edge.is(new House().told(ahead + last).people(1), "signs(0, -1)", 63);
        edge.is(new House().told(ahead + last.replace("255", "254")).people(1), "signs(0, -1)", 31);
    }

    private void laterFaults() {
        edge.term("If there is none, likewise:");
        edge.fault("book a;book a;", 3, 12);
        edge.fault("book a;book a;!", 1, 14);
        edge.fault("book a;book a;book", 1, 18);
        edge.fault("book a;book a;law f=(((((((1)))))));", 2, 26);
        edge.fault("law f=way 8;", 5, 10);
        edge.fault("law f=way 8", 1, 11);
        edge.fault("when a say b;", 4, 0);
        edge.fault("when a say b;.", 1, 13);
        edge.fault("book a;book a;" + many(5, "law l#=1;"), 2, 14 + 36);
        edge.fault("book a;book a;" + many(4, "law l#=1;"), 3, 12);
        edge.fault("book b;law b=way 9;", 3, 11);
        edge.fault("law b=way 9;book b;", 5, 10);
    }

    private void namesTwice() {
        edge.term("3 TWICE: a NAME told already (of all kinds);");
        for (int first = 0; first < 4; first++) {
            for (int second = 0; second < 4; second++) {
                String ahead = KINDS[first].replace("#", "a");
                edge.fault(ahead + KINDS[second].replace("#", "a"), 3, ahead.length() + NAME_PLACES[second]);
                edge.good(ahead + KINDS[second].replace("#", "b"));
                edge.good(ahead + KINDS[second].replace("#", "aa"));
            }
        }
        edge.fault("book a;book b;book a;book b;", 3, 19);
        // The last of all that can be told bears the first one's NAME, or another.
        String all = many(6, "sign s# if 0<1;") + many(16, "say t# all if 0<1;") + many(4, "book b#;") + many(3, "law l#=1;");
        edge.fault(all + "law sa=1;", 3, all.length() + 4);
        edge.fault(all + "law lc=1;", 3, all.length() + 4);
        edge.good(all + "law z=1;");
        // A WHEN knows the last NAME there is room for, be it a SIGN's or a SENTENCE's.
        String five = many(5, "sign s# if 0<1;") + many(16, "say t# all if 0<1;") + many(4, "book b#;") + many(4, "law l#=1;");
        edge.good(five + "sign z if 0<1;when z say tp;");
        edge.fault(five + "sign z if 0<1;when y say tp;", 4, five.length() + 14 + 5);
        String fifteen = many(6, "sign s# if 0<1;") + many(15, "say t# all if 0<1;") + many(4, "book b#;") + many(4, "law l#=1;");
        edge.good(fifteen + "say z all if 0<1;when sf say z;");
        edge.fault(fifteen + "say z all if 0<1;when sf say z;when sf say z;", 3, fifteen.length() + 17 + 14 + 12);
        // What an earlier text told is told no more.
        House house = new House().told("book a;");
        edge.is(house.put("law a=1;"), "read()", 0);
    }

    private void whensTwice() {
        edge.term("a WHEN of its BOOK told already (at its second NAME).");
        String told = "sign s if 0<1;sign r if 0<1;say t all if 0<1;say u all if 0<1;book m;when s say t;";
        edge.fault(told + "when s say t;", 3, told.length() + 11);
        edge.good(told + "when s say u;");
        edge.good(told + "when r say t;");
        edge.good(told + "when r say u;when s say u;when r say t;");
        edge.fault(told + "when r say u;when s say u;when s say t;", 3, told.length() + 26 + 11);
        edge.good(told + "book n;when s say t;");
        edge.fault(told + "book n;when s say t;when s say t;", 3, told.length() + 20 + 11);
        edge.fault(told + "law f=1;when s  say \n t ;", 3, told.length() + 8 + 14);
    }

    private void namesAhead() {
        edge.term("4 NAME: no SIGN, no SENTENCE told ahead (in a when);");
        String told = "sign s if 0<1;say t all if 0<1;law l=1;book m;";
        edge.good(told + "when s say t;");
        for (String name : new String[] {"t", "l", "m", "x", "ss"}) {
            edge.fault(told + "when " + name + " say t;", 4, told.length() + 5);
            edge.fault(told + "when " + name + " say x;", 4, told.length() + 5);
        }
        for (String name : new String[] {"s", "l", "m", "x", "tt"}) {
            edge.fault(told + "when s say " + name + ";", 4, told.length() + 11);
        }
        String late = "say t all if 0<1;book m;when s say t;";
        edge.fault(late + "sign s if 0<1;", 4, 29);
        edge.good("sign s if 0<1;" + late);
        late = "sign s if 0<1;book m;when s say t;";
        edge.fault(late + "say t all if 0<1;", 4, 32);
        edge.good("say t all if 0<1;" + late);
        // SIGNS and SENTENCES of the text ahead are none of this one.
        House house = new House().told("sign s if 0<1;say t all if 0<1;book m;when s say t;");
        edge.is(house.put("book m;when s say t;"), "read()", 4);
        edge.is(house, "place()", 12);
    }

    private void booksAhead() {
        edge.term("a when without a BOOK ahead (at its first TOKEN).");
        String told = "sign s if 0<1;say t all if 0<1;";
        edge.fault(told + " when s say t;", 4, told.length() + 1);
        edge.fault(told + "when s say t;book m;", 4, told.length());
        edge.good(told + "book m;when s say t;");
        edge.good("book m;" + told + "when s say t;");
        edge.fault("when x say y;", 4, 0);
        edge.fault(told + "when s say t;when s say t;", 4, told.length());
        House house = new House().told(told + "book m;when s say t;");
        edge.is(house.put(told + "when s say t;"), "read()", 4);
    }

    private void waysAboveSeven() {
        edge.term("5 WRONG: a WAY above 7 (at the INT).");
        for (int way = 0; way <= 7; way++) {
            edge.value("way " + way, 8 - way);
            edge.value("way 000" + way, 8 - way);
        }
        for (String way : new String[] {"8", "9", "08", "0008", "10", "77", "1000", "9999"}) {
            edge.fault("law f=way " + way + ";", 5, 10);
            edge.fault("law f=way" + way + ";", 5, 9);
            edge.fault("sign a if 7<way " + way + ";", 5, 16);
            edge.fault("say a all if not way " + way + "<8;", 5, 21);
        }
        edge.value("way 7*8+8-8*8", -48);
        edge.fault("law f=way 7+way 8+way 9;", 5, 16);
        edge.fault("law f=(way 8;", 1, 12);
    }

    private void faultsChangeNothing() {
        edge.term("A text with a FAULT changes nothing but the tape; else it is in place of the one ahead.");
        Supplier<House> maker = () -> full().did("choice(0, true, 3)", "list(0, true)", "tried(5, 9)");
        String[] faults = {"sign a if 0<1;!", many(7, "sign s# if 0<1;"), "sign a if 0<1;sign a if 1<0;",
            "sign a if 0<1;book b;when a say a;", "sign a if 0<1;law f=way 8;", "say s kind if 0<1;say t", "book x;law y=5;("};
        int[] numbers = {1, 2, 3, 4, 5, 1, 1};
        for (int i = 0; i < faults.length; i++) {
            House house = maker.get();
            edge.is(house.put(faults[i]), "read()", numbers[i]);
            edge.is(house, "count(7)", 0);
            edge.same("FAULT " + numbers[i], withoutPlace(house), withoutPlace(maker.get()));
        }
        House house = maker.get();
        edge.is(house.put("sign a if 0<1;"), "read()", 0);
        edge.is(house, "count(1)", 1);
        edge.each(house, "count(#)", 0, 2, 3, 4, 5);
        edge.is(house, "signs(0, -1)", 1);
        edge.is(house, "count(0)", 1);
        edge.is(house, "count(6)", 3);
        // A FAULT, then a good text, then a FAULT: the good one stays.
        edge.is(house.put("sign b if 0<1;sign c if 0<1;x"), "read()", 1);
        edge.is(house.put("sign b if 1<0;sign c if 0<1;"), "read()", 0);
        edge.is(house.put("sign d if 0<1;sign d if 0<1;"), "read()", 3);
        edge.is(house, "signs(0, -1)", 2);
        edge.is(house, "count(1)", 2);
        // Many texts, one after the other, good and not: none takes of the next one's room.
        House many = new House().people(1);
        for (int i = 0; i < 20; i++) {
            edge.is(many.put("book b;law a=" + i + "+1".repeat(70) + ";"), "read()", 0);
            edge.is(many.put("book b;law a=99" + "+1".repeat(70) + ";("), "read()", 1);
            edge.is(many, "fit(0, 0, 0, 0, 0)", i + 70);
        }
    }

    /** What a longer text has left behind is no part of a shorter one, though it may stand where that one ends. */
    private void shorterTexts() {
        String longer = many(6, "sign s# if 0<1;") + many(16, "say t# all if 0<1;");
        String shorter = "sign a if 1<0;law f=0" + "+1".repeat(150) + ";";
        House after = new House().told(longer).told(longer).told(shorter).did("world(1, 3, 10)");
        House never = new House().told(shorter).did("world(1, 3, 10)");
        edge.is(after, "signs(0, -1)", 0);
        edge.is(never, "signs(0, -1)", 0);
        edge.same("longer texts", after.state(), never.state());
        // Where the SIGNS end the SENTENCES don't begin, nor the LAWS where these do.
        House full = new House().told(longer + "book m;when sf say tp;law f=1;").people(1);
        edge.is(full, "signs(0, -1)", 63);
        edge.is(full, "signs(0, 59)", 63);
        edge.is(full, "paper(0, 0)", 32768);
        edge.is(full, "striking()", 0);
    }

    private static List<String> withoutPlace(House house) {
        List<String> state = house.state();
        state.remove(state.stream().filter(one -> one.startsWith("place()")).findFirst().orElseThrow());
        return state;
    }

    private void vars() {
        edge.term("VARS: way k (0 .. 7), minute, month, years, coat of a PERSON;");
        String all = "law f=way 0+10*way 1+100*way 2+1000*way 3;law g=way 4+10*way 5+100*way 6+1000*way 7;"
                + "law h=minute*1000+month*10+years;law i=coat;book b;";
        House house = new House().told(all).did("person(59, 11, 9, 3, 99999999)", "person(0, 0, 0, 0, 0)",
                "person(1, 2, 3, 1, 12345678)");
        long[][] want = {{9999, 9999, 59119, 3}, {0, 0, 0, 0}, {5678, 1234, 1023, 1}};
        for (int p = 0; p < 3; p++) {
            for (int law = 0; law < 4; law++) {
                edge.is(house, "fit(" + law + ", 0, " + p + ", 0, 0)", want[p][law]);
            }
        }
        edge.holds("way 0==8 and way 7==1 and minute==7 and month==8 and years==9 and coat==3", true);
        edge.term("In a sign or say true, false and SORTS are 0;");
        edge.holds("true==0 and false==0 and all==0 and kind==0 and two==0 and sharp==0 and known==0 and age==0 and wrong==0",
                true);
        for (String var : new String[] {"true", "false", "all", "kind", "two", "sharp", "known", "age", "wrong"}) {
            edge.holds(var + "!=0", false);
            // Also where a law has been asked for just before.
            House asked = new House().told("sign s if 0<1;sign z if " + var + "==0;say a all if 0<1;say b all if " + var
                    + "==0;say c all if 1<0;book m;when s say a;when s say b;when s say c;law f=true-false;").people(2);
            edge.is(asked, "fit(0, 0, 0, 1, 0)", 1);
            edge.is(asked, "signs(0, -1)", 3);
            edge.is(asked, "holds(1, 0)", 1);
            edge.is(asked, "moved(0, 1, false)", 3);
        }
    }

    private void papersInLaws() {
        edge.term("true, false: how many SENTENCES of a PAPER are TRUE of a PERSON, how many not; "
                + "a SORT: how many of that SORT are TRUE of him.");
        // Of each SORT one SENTENCE is TRUE of PERSON 0 alone; two more of SORT age are TRUE of PERSON 1 alone.
        StringBuilder text = new StringBuilder("sign s if 0<1;book m;book n;law t=true;law f=false;law a=all*1000+kind*100"
                + "+two*10+sharp;law b=known*100+age*10+wrong;");
        String[] sorts = {"all", "kind", "two", "sharp", "known", "age", "wrong"};
        for (int i = 0; i < 9; i++) {
            text.append("say t").append((char) ('a' + i)).append(' ').append(i < 7 ? sorts[i] : "age").append(" if minute==")
                    .append(i < 7 ? 0 : 1).append(";when s say t").append((char) ('a' + i)).append(';');
        }
        House house = new House().told(text.toString()).people(3);
        long[][] want = {{7, 2, 1111, 111}, {2, 7, 0, 20}, {0, 9, 0, 0}};
        for (int p = 0; p < 3; p++) {
            for (int law = 0; law < 4; law++) {
                edge.is(house, "fit(" + law + ", 1, " + p + ", 2, 0)", want[p][law]);
                edge.is(house, "fit(" + law + ", 0, " + p + ", 2, 0)", 0);
            }
        }
        // Sixteen SENTENCES on one PAPER are the most.
        House most = new House().told("sign s if 0<1;book m;law t=true;law f=false;law a=all;"
                + many(16, "say t# all if minute==0;when s say t#;")).people(2);
        edge.is(most, "paper(0, 0)", 65535);
        edge.is(most, "fit(0, 0, 0, 1, 0)", 16);
        edge.is(most, "fit(1, 0, 0, 1, 0)", 0);
        edge.is(most, "fit(2, 0, 0, 1, 0)", 16);
        edge.is(most, "fit(0, 0, 1, 0, 0)", 0);
        edge.is(most, "fit(1, 0, 1, 0, 0)", 16);
        edge.is(most, "fit(2, 0, 1, 0, 0)", 0);
        edge.term("in a law all are of the PERSON and the PAPER that are asked for.");
        House two = new House().told("sign s if minute==1;say t all if years==9;book m;when s say t;"
                + "law f=minute*100+years*10+true-false*1000;");
        two.did("person(1, 0, 0, 0, 0)", "person(2, 0, 9, 0, 0)");
        edge.is(two, "fit(0, 0, 0, 0, 0)", 100 - 1000);
        edge.is(two, "fit(0, 0, 0, 1, 0)", 100);
        edge.is(two, "fit(0, 0, 1, 0, 0)", 291);
        edge.is(two, "fit(0, 0, 1, 1, 0)", 290);
    }

    private void wraps() {
        edge.term("Ints of 32 bits that wrap.");
        edge.value(HIGHEST, 2147483647);
        edge.value(LOWEST, -2147483648);
        edge.value(HIGHEST + "+1", -2147483648);
        edge.value(LOWEST + "-1", 2147483647);
        edge.value("0-" + LOWEST, -2147483648);
        edge.value(HIGHEST + "*2", -2);
        edge.value(LOWEST + "*2", 0);
        edge.value(HIGHEST + "*" + HIGHEST, 1);
        edge.value(LOWEST + "*" + LOWEST, 0);
        edge.value(LOWEST + "*(0-1)", -2147483648);
        edge.value("9999*9999*9999", (int) 999700029999L);
        edge.holds(HIGHEST + "<" + LOWEST, false);
        edge.holds(LOWEST + "<" + HIGHEST, true);
        edge.holds(LOWEST + "<0", true);
        edge.holds("0<" + HIGHEST, true);
        edge.holds(HIGHEST + "+1<" + HIGHEST, true);
        edge.holds(HIGHEST + "+1==" + LOWEST, true);
        edge.holds(HIGHEST + "<=" + HIGHEST, true);
    }

    private void counts() {
        edge.promise(42, "0 PEOPLE, 1 SIGNS, 2 SENTENCES, 3 BOOKS, 4 LAWS, 5 WHENS of all, 6 FACTS, 7 bytes on the tape.");
        House house = full().did("list(0, true)", "annul(0)").put("x");
        long[] want = {1, 6, 16, 4, 4, 39, 2, 1};
        for (int what = 0; what < 8; what++) {
            edge.is(house, "count(" + what + ")", want[what]);
        }
        edge.promise(42, "NONE for others.");
        edge.each(house, "count(#)", -1, -1, 8, 9, -8, 2147483647, -2147483648);
    }
}

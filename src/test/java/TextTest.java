/** Promises 1 to 5 and 42: the tape, texts and their FAULTS. */
public final class TextTest {
    private static final Due DUE = new Due();

    public static void main(String[] args) {
        newObject();
        feedAndBack();
        readEmptiesTheTape();
        textsReplaceOneAnother();
        tokens();
        syntax();
        roomForTells();
        roomForTokens();
        roomForBrackets();
        namesToldTwice();
        namesNotTold();
        waysAndOrder();
        longestText();
        DUE.end();
    }

    private static void newObject() {
        SkyTrial house = new SkyTrial();
        for (int what = 0; what <= 7; what++) {
            DUE.is("count(" + what + ") of a new object", house.count(what), 0);
        }
        DUE.is("count(-1)", house.count(-1), SkyTrial.NONE);
        DUE.is("count(8)", house.count(8), SkyTrial.NONE);
        DUE.is("place() of a new object", house.place(), SkyTrial.NONE);
        DUE.is("read() of a new object", house.read(), 0);
    }

    private static void feedAndBack() {
        SkyTrial house = new SkyTrial();
        DUE.is("back(1) of none", house.back(1), -1);
        DUE.is("back(0) of none", house.back(0), 0);
        for (int i = 1; i <= 100; i++) {
            DUE.is("feed " + i, house.feed(0, 0, 0, 0, 0), 20 * i);
        }
        DUE.is("feed 101", house.feed(0, 0, 0, 0, 0), -1);
        DUE.is("count(7)", house.count(7), 2000);
        DUE.is("back(2001)", house.back(2001), -1);
        DUE.is("back(-1)", house.back(-1), -1);
        DUE.is("back(-2147483648)", house.back(-2147483648), -1);
        DUE.is("back(2147483647)", house.back(2147483647), -1);
        DUE.is("back(19)", house.back(19), 1981);
        DUE.is("feed at 1981", house.feed(0, 0, 0, 0, 0), -1);
        DUE.is("count(7) after it", house.count(7), 1981);
        DUE.is("back(1)", house.back(1), 1980);
        DUE.is("feed at 1980", house.feed(0, 0, 0, 0, 0), 2000);
        DUE.is("back(2000)", house.back(2000), 0);
    }

    private static void readEmptiesTheTape() {
        SkyTrial house = new SkyTrial();
        // "book abc;law f=way 7" and "*2;" with blanks: each byte stands where it is due, the highest of a first.
        house.feed(0x626f6f6b, 0x20616263, 0x3b6c6177, 0x20663d77, 0x61792037);
        house.feed(0x2a323b20, 0x20202020, 0x20202020, 0x20202020, 0x20202020);
        DUE.is("read", house.read(), 0);
        DUE.is("count(3)", house.count(3), 1);
        DUE.is("count(4)", house.count(4), 1);
        DUE.is("count(7)", house.count(7), 0);
        Due.tape(house, "book");
        DUE.is("read of a part", house.read(), 1);
        DUE.is("count(7) after a FAULT", house.count(7), 0);
        DUE.is("place", house.place(), 4);
        DUE.is("read of nothing", house.read(), 0);
        DUE.is("place without a FAULT", house.place(), -1);
        DUE.is("bytes above 127", faultOf("law f=1;\u00e9"), 108);
    }

    private static int faultOf(String text) {
        SkyTrial house = new SkyTrial();
        int fault = Due.read(house, text);
        return fault * 100 + house.place();
    }

    private static void textsReplaceOneAnother() {
        SkyTrial house = new SkyTrial();
        house.person(1, 1, 1, 1, 1);
        house.choice(0, true, 1);
        Due.read(house, "sign a if 0<1; sign b if 1<0; say t all if 0<1; book m; when a say t; law f=1; law g=2; law h=3;");
        counts(house, 2, 1, 1, 3, 1);
        DUE.is("a text with a FAULT", Due.read(house, "sign a if 1<0; book m; book m;"), 3);
        counts(house, 2, 1, 1, 3, 1);
        DUE.is("signs as they were", house.signs(0, -1), 1);
        DUE.is("another text", Due.read(house, "sign a if 1<0; sign b if 0<1;"), 0);
        counts(house, 2, 0, 0, 0, 0);
        DUE.is("signs of the other", house.signs(0, -1), 2);
        DUE.is("an empty text", Due.read(house, "  "), 0);
        counts(house, 0, 0, 0, 0, 0);
        DUE.is("people stay", house.count(0), 1);
        DUE.is("facts stay", house.count(6), 1);
    }

    private static void counts(SkyTrial house, int signs, int says, int books, int laws, int whens) {
        DUE.is("count(1)", house.count(1), signs);
        DUE.is("count(2)", house.count(2), says);
        DUE.is("count(3)", house.count(3), books);
        DUE.is("count(4)", house.count(4), laws);
        DUE.is("count(5)", house.count(5), whens);
    }

    private static void tokens() {
        DUE.fault("", 0, -1);
        DUE.fault(" \t\r\n", 0, -1);
        DUE.fault("\u000b", 1, 0);
        DUE.fault("\u0000", 1, 0);
        DUE.fault(".", 1, 0);
        DUE.fault("law f=1;.", 1, 8);
        DUE.fault("law eightchr=1;", 0, -1);
        DUE.fault("law ninechars=1;", 1, 4);
        DUE.fault("law f=9999;", 0, -1);
        DUE.fault("law f=00001;", 1, 6);
        DUE.fault("law F=1;", 1, 4);
        DUE.fault("law f1=1;", 1, 5);
        DUE.fault("lawf=1;", 1, 0);
        DUE.fault("law f=1+way0;", 0, -1);
        DUE.fault("law\tf\n=\r1;", 0, -1);
        DUE.fault("law f==1;", 1, 5);
        DUE.fault("law f= =1;", 1, 7);
        DUE.fault("sign a if 1= =1;", 1, 11);
        DUE.fault("sign a if 1===1;", 1, 13);
        DUE.fault("sign a if 1!1;", 1, 11);
        DUE.fault("sign a if 1! =1;", 1, 11);
        DUE.fault("sign a if 1!=1;", 0, -1);
        DUE.fault("sign a if 1< =1;", 1, 13);
        DUE.fault("sign a if 1<==1;", 1, 13);
        DUE.fault("sign a if 1>1;", 1, 11);
        for (String word : ("sign if say book when law all kind two sharp known age wrong or and not way minute month "
                + "years coat true false").split(" ")) {
            DUE.fault("book " + word + ";", 1, 5);
            DUE.fault("book " + word + "s;", 0, -1);
        }
    }

    private static void syntax() {
        DUE.fault("a", 1, 0);
        DUE.fault(";", 1, 0);
        DUE.fault("sign", 1, 4);
        DUE.fault("sign  ", 1, 6);
        DUE.fault("sign a 1", 1, 7);
        DUE.fault("sign if 0<1;", 1, 5);
        DUE.fault("say all if 0<1;", 1, 4);
        DUE.fault("book ;", 1, 5);
        DUE.fault("law =1;", 1, 4);
        DUE.fault("when say b;", 1, 5);
        DUE.fault("sign a if", 1, 9);
        DUE.fault("sign a if;", 1, 9);
        DUE.fault("sign a if 1;", 1, 11);
        DUE.fault("sign a if 1<2", 1, 13);
        DUE.fault("sign a if 1<2<3;", 1, 13);
        DUE.fault("sign a if (1<2);", 1, 12);
        DUE.fault("sign a if 1<2);", 1, 13);
        DUE.fault("sign a if 1<2 and;", 1, 17);
        DUE.fault("sign a if 1<2 or or 1<2;", 1, 17);
        DUE.fault("sign a if not;", 1, 13);
        DUE.fault("sign a if 1<not 2;", 1, 12);
        DUE.fault("sign a if not not 1<2 and not 2<=1 or 1!=1;", 0, -1);
        DUE.fault("sign a if -1<2;", 1, 10);
        DUE.fault("sign a all if 1<2;", 1, 7);
        DUE.fault("say a all if 1<2;", 0, -1);
        DUE.fault("say a if 1<2;", 1, 6);
        DUE.fault("say a minute if 1<2;", 1, 6);
        DUE.fault("book a b;", 1, 7);
        DUE.fault("when a b;", 1, 7);
        DUE.fault("when a say;", 1, 10);
        DUE.fault("when 1 say b;", 1, 5);
        DUE.fault("law f 1;", 1, 6);
        DUE.fault("law f=;", 1, 6);
        DUE.fault("law f=1 2;", 1, 8);
        DUE.fault("law f=1+;", 1, 8);
        DUE.fault("law f=1*+2;", 1, 8);
        DUE.fault("law f=(1;", 1, 8);
        DUE.fault("law f=1);", 1, 7);
        DUE.fault("law f=();", 1, 7);
        DUE.fault("law f=x;", 1, 6);
        DUE.fault("law f=way;", 1, 9);
        DUE.fault("law f=way way 1;", 1, 10);
        DUE.fault("law f=way (1);", 1, 10);
        DUE.fault("law f=1<2;", 1, 7);
        DUE.fault("law f=1", 1, 7);
        DUE.fault("law f=1;;", 1, 8);
        DUE.fault("law f=true*(false-all)+kind*two-sharp*known+age*wrong-minute+month*years*coat;", 0, -1);
    }

    private static String many(int n, String tell) {
        StringBuilder text = new StringBuilder();
        for (int i = 0; i < n; i++) {
            text.append(tell.replace("#", "" + (char) ('a' + i)));
        }
        return text.toString();
    }

    private static void roomForTells() {
        String signs = many(6, "sign s# if 0<1;");
        DUE.fault(signs, 0, -1);
        DUE.fault(signs + " sign x if 0<1;", 2, signs.length() + 1);
        DUE.fault(signs + "sign", 2, signs.length());
        String says = many(16, "say t# all if 0<1;");
        DUE.fault(says, 0, -1);
        DUE.fault(says + "say x all if 0<1;", 2, says.length());
        String books = many(4, "book b#;");
        DUE.fault(books, 0, -1);
        DUE.fault(books + "book x;", 2, books.length());
        String laws = many(4, "law l#=1;");
        DUE.fault(laws, 0, -1);
        DUE.fault(laws + "law x=1;", 2, laws.length());
        String whens = many(3, "sign s# if 0<1;") + says + "book m;" + many(16, "when sa say t#;")
                + many(16, "when sb say t#;") + "book n;" + many(8, "when sc say t#;");
        DUE.fault(whens, 0, -1);
        DUE.fault(whens + "when sc say tz;", 2, whens.length());
        DUE.fault(whens + "when", 2, whens.length());
        DUE.fault(many(7, "book b;"), 2, 28);
    }

    private static void roomForTokens() {
        // Six TOKENS, and two for each further part of the sum.
        String even = "law f=way 0" + "+1".repeat(197);
        DUE.fault(even + ";", 0, -1);
        DUE.fault(even + ";  ", 0, -1);
        DUE.fault(even + "; book", 2, even.length() + 2);
        DUE.fault(even + "; sign x if 0<1;", 2, even.length() + 2);
        DUE.fault(even + ";+", 1, even.length() + 1);
        DUE.fault(even + ";!", 1, even.length() + 1);
        DUE.fault(even, 1, even.length());
        String odd = "law f=1" + "+1".repeat(198);
        DUE.fault(odd + ";", 2, odd.length());
        DUE.fault(odd + "+1;", 2, odd.length());
        DUE.fault(odd + "1;", 2, odd.length() + 1);
        DUE.fault(odd + " 1;", 1, odd.length() + 1);
        DUE.fault(odd + ")", 1, odd.length());
        DUE.fault(odd, 1, odd.length());
        String twice = "book f;" + "law f=1" + "+1".repeat(198) + ";";
        DUE.fault(twice, 2, twice.length() - 4);
        String nots = "sign a if " + "not ".repeat(391);
        DUE.fault(nots + "0<1;", 0, -1);
        DUE.fault(nots + "not 0<1;", 0, -1);
        DUE.fault(nots + "not not not 0<1;", 2, nots.length() + "not not not 0<1;".length() - 1);
    }

    private static void roomForBrackets() {
        DUE.fault("law f=((((((1))))));", 0, -1);
        DUE.fault("law f=(((((((1)))))));", 2, 12);
        DUE.fault("law f=((((((1))))))+((((((1))))));", 0, -1);
        DUE.fault("law f=((((((1*(2))))))));", 2, 14);
        DUE.fault("law f=((((((1(", 1, 13);
        DUE.fault("law f=((((((1)))))(", 1, 18);
        DUE.fault("sign a if ((((((1))))))<(((((((1)))))));", 2, 30);
    }

    private static void namesToldTwice() {
        DUE.fault("book a;book a;", 3, 12);
        DUE.fault("sign a if 0<1;law a=1;", 3, 18);
        DUE.fault("sign a if 0<1;say a all if 0<1;", 3, 18);
        DUE.fault("law a=1;sign a if 0<1;", 3, 13);
        DUE.fault("say a all if 0<1;book a;", 3, 22);
        DUE.fault("book ab;book a;book b;book ba;", 0, -1);
        String told = "sign s if 0<1;sign r if 0<1;say t all if 0<1;say u all if 0<1;book m;";
        DUE.fault(told + "when s say t;when s say u;when r say t;book n;when s say t;", 0, -1);
        DUE.fault(told + "when s say t;when s say u;when s say t;", 3, told.length() + 26 + 11);
        String full = many(6, "sign s# if 0<1;") + many(16, "say t# all if 0<1;") + many(4, "book b#;");
        DUE.fault(full + many(4, "law l#=1;"), 0, -1);
        DUE.fault(full + many(3, "law l#=1;") + "law lc=1;", 3, full.length() + 27 + 4);
        DUE.fault(full + many(3, "law l#=1;") + "law sa=1;", 3, full.length() + 27 + 4);
        DUE.fault("book a;book a;x", 1, 14);
        DUE.fault("book a;book a;" + many(4, "law l#=1;") + "law x=1;", 2, 14 + 36);
    }

    private static void namesNotTold() {
        DUE.fault("when a say b;", 4, 0);
        DUE.fault("sign a if 0<1;say b all if 0<1; when a say b;", 4, 32);
        DUE.fault("book m;when a say b;", 4, 12);
        DUE.fault("sign a if 0<1;book m;when a say b;", 4, 32);
        DUE.fault("sign a if 0<1;book m;when a say a;", 4, 32);
        DUE.fault("say b all if 0<1;book m;when b say b;", 4, 29);
        DUE.fault("say b all if 0<1;book m;when m say b;", 4, 29);
        DUE.fault("sign a if 0<1;book m;when a say b;say b all if 0<1;", 4, 32);
        DUE.fault("say b all if 0<1;book m;when a say b;sign a if 0<1;", 4, 29);
        DUE.fault("sign a if 0<1;say b all if 0<1;book m;when a say b;", 0, -1);
    }

    private static void waysAndOrder() {
        DUE.fault("law f=way 7;", 0, -1);
        DUE.fault("law f=way 0007;", 0, -1);
        DUE.fault("law f=way 8;", 5, 10);
        DUE.fault("law f=way9999;", 5, 9);
        DUE.fault("sign a if way 0<way 8;", 5, 20);
        DUE.fault("say a age if 2*(way 10)<1;", 5, 20);
        DUE.fault("law f=way 8;law f=1;", 5, 10);
        DUE.fault("law f=1;law f=way 8;", 3, 12);
        DUE.fault("law f=way 8;when a say b;", 5, 10);
        DUE.fault("when a say b;law f=way 8;", 4, 0);
        DUE.fault("law f=way 8", 1, 11);
    }

    private static void longestText() {
        SkyTrial house = new SkyTrial();
        for (int i = 0; i < 99; i++) {
            house.feed(0x20202020, 0x20202020, 0x20202020, 0x20202020, 0x20202020);
        }
        // Blanks, then "law f=1;" at the very end of 2,000 bytes.
        house.feed(0x20202020, 0x20202020, 0x20202020, 0x6c617720, 0x663d313b);
        DUE.is("read of 2,000 bytes", house.read(), 0);
        DUE.is("its law", house.count(4), 1);
        for (int i = 0; i < 100; i++) {
            house.feed(0x61616161, 0x61616161, 0x61616161, 0x61616161, 0x61616161);
        }
        DUE.is("read of 2,000 letters", house.read(), 1);
        DUE.is("their place", house.place(), 0);
        for (int i = 0; i < 100; i++) {
            house.feed(0x20202020, 0x20202020, 0x20202020, 0x20202020, 0x2020206c);
        }
        house.back(1);
        DUE.is("read of single letters", house.read(), 1);
        DUE.is("the first one's place", house.place(), 19);
    }
}

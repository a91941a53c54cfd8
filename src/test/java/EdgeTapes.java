/** Boundary cases of promises 1 to 5, and of what the Terms call TOKENS. */
final class EdgeTapes {
    private static final String BLANK = "538976288";
    private static final String BLANKS = "feed(" + BLANK + ", " + BLANK + ", " + BLANK + ", " + BLANK + ", " + BLANK + ")";
    private static final String WORDS = "sign if say book when law all kind two sharp known age wrong or and not way minute "
            + "month years coat true false";

    private final Edge edge;

    EdgeTapes(Edge edge) {
        this.edge = edge;
    }

    void run() {
        newObject();
        fullText();
        feeding();
        goingBack();
        reading();
        places();
        longestTokens();
        blanks();
        names();
        ints();
        marks();
        noTokens();
    }

    private static House blanks(int feeds) {
        House house = new House();
        for (int i = 0; i < feeds; i++) {
            house.call(BLANKS);
        }
        return house;
    }

    private void newObject() {
        edge.promise(1, "Nothing is told; there are no PEOPLE, FACTS.");
        edge.each(new House(), "count(#)", 0, 0, 1, 2, 3, 4, 5, 6, 7);
        House house = new House();
        edge.is(house, "place()", -1);
        edge.is(house, "striking()", -1);
        edge.is(house, "bound(1)", 0);
        edge.is(house, "choices(0, 0)", 0);
        edge.is(house, "choices(1, 0)", -1);
        String[] none = {"of(0, 0)", "signs(0, -1)", "rounded(0, 2)", "moved(0, 0, true)", "holds(0, 0)", "sort(0)",
            "paper(0, 0)", "altered(0, 2)", "truly(0, 0, 0)", "left(0, 0, 0)", "choose(0, 0, 0, 1, 2)", "trial(0, 0, 0)",
            "given(0, 0, 0)", "whole(0, 0)", "pleased(0, 0, 0, true)", "table(0, 0, 0)", "chances(0, 0, true)",
            "within(0, 0, 0, true)", "choice(0, true, 1)", "list(0, true)", "tried(0, 0)", "annul(0)", "on(0, 0)",
            "red(0, 0, 0)", "odds(0, 0, true)", "turned(0, 0)"};
        for (String call : none) {
            edge.refused(House::new, call);
        }
        edge.refused(House::new, "fit(0, 0, 0, 0, 0)", -2147483648);
        edge.is(house, "person(0, 0, 0, 0, 0)", 0);
    }

    /** Feeds the text as the last bytes of 2,000, blanks being ahead. */
    private static House atTheEnd(String text) {
        return blanks(99).put(" ".repeat(20 - text.length()) + text);
    }

    private void fullText() {
        edge.term("A TEXT has 2,000 bytes at most.");
        House house = atTheEnd("law f=1;");
        edge.is(house, "count(7)", 2000);
        edge.is(house, "read()", 0);
        edge.is(house, "count(4)", 1);
        house = atTheEnd("law f=1;!");
        edge.is(house, "read()", 1);
        edge.is(house, "place()", 1999);
        house = atTheEnd("law f=1");
        edge.is(house, "read()", 1);
        edge.is(house, "place()", 2000);
        house = atTheEnd("law f=1; book");
        edge.is(house, "back(1)", 1999);
        edge.is(house, "read()", 1);
        edge.is(house, "place()", 1996);
    }

    private void feeding() {
        edge.promise(2, "Twenty bytes, the highest of a first, come behind the tape: how many it has.");
        House house = new House();
        for (int feeds = 1; feeds <= 100; feeds++) {
            edge.is(house, BLANKS, 20 * feeds);
        }
        // One byte that is no TOKEN in each of the twenty places; the lowest and the highest of all bytes.
        for (int at = 0; at < 20; at++) {
            edge.fault(" ".repeat(at) + "\u0000" + " ".repeat(19 - at), 1, at);
            edge.fault(" ".repeat(at) + "\u00ff" + " ".repeat(19 - at), 1, at);
        }
        house = new House().did("feed(1818326816, 1715286331, 538976288, 538976288, -2147483648)");
        edge.is(house, "read()", 1);
        edge.is(house, "place()", 16);
        edge.promise(2, "NONE, and nothing comes, if it would have more than 2,000.");
        for (int more = 0; more < 20; more++) {
            String back = "back(" + more + ")";
            House full = blanks(100).did(back);
            edge.is(full, "feed(0, 0, 0, 0, 0)", -1);
            edge.is(full, "count(7)", 2000 - more);
            edge.is(full, "read()", 0);
        }
        House last = blanks(100).did("back(20)");
        edge.is(last, "feed(0, 0, 0, 0, 0)", 2000);
        edge.is(last, "read()", 1);
        edge.is(last, "place()", 1980);
        edge.refused(() -> blanks(100), "feed(1818326816, 1715286331, 538976288, 538976288, 538976288)");
        edge.refused(() -> blanks(100).did("back(19)"), "feed(0, 0, 0, 0, 0)");
        edge.refused(() -> blanks(100).did("back(1)"), "feed(-1, -1, -1, -1, -1)");
    }

    private void goingBack() {
        edge.promise(3, "The last n bytes of the tape go: how many it has.");
        House house = new House().put("law f=1;!!!!!!!!!!!!");
        edge.is(house, "back(0)", 20);
        edge.is(house, "back(11)", 9);
        edge.is(house, "back(1)", 8);
        edge.is(house, "read()", 0);
        house = new House().put("law f=1;!!!!!!!!!!!!");
        edge.is(house, "back(13)", 7);
        edge.is(house, "read()", 1);
        edge.is(house, "place()", 7);
        house = blanks(100);
        edge.is(house, "back(1)", 1999);
        edge.is(house, "back(1999)", 0);
        edge.is(blanks(100), "back(2000)", 0);
        house = new House().put("!!!!!!!!!!!!!!!!!!!!").did("back(20)").put("law f=1;");
        edge.is(house, "count(7)", 8);
        edge.is(house, "read()", 0);
        edge.promise(3, "NONE, and nothing goes, if it has not so many, or n is below 0.");
        edge.is(new House(), "back(0)", 0);
        for (String call : new String[] {"back(1)", "back(-1)", "back(2000)", "back(-2147483648)"}) {
            edge.refused(House::new, call);
        }
        for (String call : new String[] {"back(9)", "back(-1)", "back(2147483647)", "back(-2147483648)", "back(-8)"}) {
            edge.refused(() -> new House().put("law f=1;"), call);
        }
        edge.is(new House().put("law f=1;"), "back(8)", 0);
        edge.refused(() -> blanks(100), "back(2001)");
    }

    private void reading() {
        edge.promise(4, "The tape, which is empty then, is read: 0, or the number of its FAULT.");
        House house = new House();
        edge.is(house, "read()", 0);
        edge.is(house, "count(7)", 0);
        edge.is(house.put("law f=1;"), "read()", 0);
        edge.is(house, "count(7)", 0);
        edge.is(house, "back(1)", -1);
        edge.is(house, "count(4)", 1);
        edge.is(house.put("law f=1"), "read()", 1);
        edge.is(house, "count(7)", 0);
        edge.is(house, BLANKS, 20);
        edge.is(house.put("book a;"), "count(7)", 27);
        edge.is(house, "read()", 0);
        // An empty text is a text: it is in place of the one ahead.
        edge.is(house, "count(3)", 1);
        edge.is(house, "read()", 0);
        edge.is(house, "count(3)", 0);
        String[] faults = {"!", "((", "book a;book a;", "when a say b;", "law f=way 8;"};
        int[] numbers = {1, 1, 3, 4, 5};
        for (int i = 0; i < faults.length; i++) {
            edge.is(new House().put(faults[i]), "read()", numbers[i]);
        }
        edge.is(new House().put("book a;book b;book c;book d;book e;"), "read()", 2);
        edge.is(new House().put("book a;book b;book c;book d;"), "read()", 0);
    }

    private void places() {
        edge.promise(5, "The byte of the latest read()'s FAULT; NONE without.");
        House house = new House();
        edge.is(house, "place()", -1);
        edge.is(house.put("!"), "place()", -1);
        edge.is(house, "read()", 1);
        edge.is(house, "place()", 0);
        edge.is(house.put("book a;"), "place()", 0);
        edge.is(house, "back(1)", 6);
        edge.is(house, "place()", 0);
        edge.is(house, "read()", 1);
        edge.is(house, "place()", 6);
        edge.is(house, "place()", 6);
        edge.is(house.did("world(1, 20, 10)", "person(0, 0, 0, 0, 0)"), "place()", 6);
        edge.is(house, "read()", 0);
        edge.is(house, "place()", -1);
        edge.is(house.put("book a;book a;"), "read()", 3);
        edge.is(house, "place()", 12);
        edge.is(house.put("book a;"), "read()", 0);
        edge.is(house, "place()", -1);
    }

    private void longestTokens() {
        edge.term("TOKENS, the longest that can be,");
        edge.fault("law f==1;", 1, 5);
        edge.good("law f=1;");
        edge.fault("law f= =1;", 1, 7);
        edge.good("sign a if 1==1;");
        edge.fault("sign a if 1= =1;", 1, 11);
        edge.fault("sign a if 1===1;", 1, 13);
        edge.fault("sign a if 1====1;", 1, 13);
        edge.good("sign a if 1<=1;");
        edge.fault("sign a if 1< =1;", 1, 13);
        edge.fault("sign a if 1<==1;", 1, 13);
        edge.fault("sign a if 1=<1;", 1, 11);
        edge.fault("sign a if 1<<1;", 1, 12);
        edge.good("sign a if 1!=1;");
        edge.fault("sign a if 1!==1;", 1, 13);
        edge.holds("1<=1", true);
        edge.holds("1<1", false);
        edge.fault("signa if 1<1;", 1, 0);
        edge.fault("sign a ifnot 1<1;", 1, 7);
        edge.fault("sign a if notminute<1;", 1, 10);
        edge.fault("sign a if 1<1 andnot 1<1;", 1, 14);
        edge.fault("law f=way 00 0;", 1, 13);
        edge.good("law f=way 000;");
    }

    private void blanks() {
        edge.term("with blanks (9, 10, 13, 32) between or not:");
        edge.good("law f=way0+1;");
        edge.good("sign a if 0<1and 1<2or 2<3;");
        edge.good(" \t\r\nlaw\n\nf\t=\rway  0\r\n+ \t1 ; \n");
        for (int b = 0; b < 256; b++) {
            char c = (char) b;
            boolean isBlank = b == 9 || b == 10 || b == 13 || b == 32;
            boolean isLetter = b >= 'a' && b <= 'z';
            edge.fault("" + c, isBlank ? 0 : 1, isBlank ? -1 : isLetter ? 0 : 0);
            edge.fault("book" + c + "a;", isBlank ? 0 : 1, isBlank ? -1 : isLetter ? 0 : 4);
            edge.fault("book a;" + c, isBlank ? 0 : 1, isBlank ? -1 : 7);
            edge.fault(c + "book a;", isBlank ? 0 : 1, isBlank ? -1 : 0);
        }
        edge.fault("l aw f=1;", 1, 0);
        edge.fault("law f=1 1;", 1, 8);
        edge.fault("law f g=1;", 1, 6);
    }

    private void names() {
        edge.term("NAMES (letters a .. z, 8 at most, none of the words in quotes),");
        edge.good("book a;book z;");
        edge.good("book abcdefgh;");
        edge.good("book zzzzzzzz;");
        edge.fault("book abcdefghi;", 1, 5);
        edge.fault("book aaaaaaaaa;", 1, 5);
        edge.fault("book abcdefgh i;", 1, 14);
        edge.good("book aaaaaaaa;book aaaaaaa;book aaaaaaab;book baaaaaaa;");
        edge.fault("book aaaaaaaa;book aaaaaaaa;", 3, 19);
        for (int b = 33; b < 256; b++) {
            boolean isLetter = b >= 'a' && b <= 'z';
            edge.fault("book " + (char) b + ";", isLetter ? 0 : 1, isLetter ? -1 : 5);
            edge.fault("book a" + (char) b + ";", isLetter ? 0 : 1, isLetter ? -1 : b == ';' ? 7 : 6);
        }
        String told = "sign s if 0<1;say t all if 0<1;book m;when ";
        for (String word : WORDS.split(" ")) {
            edge.fault("sign " + word + " if 0<1;", 1, 5);
            edge.fault("say " + word + " all if 0<1;", 1, 4);
            edge.fault("book " + word + ";", 1, 5);
            edge.fault("law " + word + "=1;", 1, 4);
            edge.fault(told + word + " say t;", 1, told.length());
            edge.fault(told + "s say " + word + ";", 1, told.length() + 6);
            edge.good("book " + word + "x;book x" + word + ";book " + word.substring(1) + "y;");
            edge.good("book " + word.substring(0, word.length() - 1) + ";");
        }
    }

    private void ints() {
        edge.term("INTS (1 to 4 digits),");
        edge.value("0", 0);
        edge.value("9", 9);
        edge.value("10", 10);
        edge.value("9999", 9999);
        edge.value("0000", 0);
        edge.value("0009", 9);
        edge.value("0990", 990);
        edge.fault("law f=10000;", 1, 6);
        edge.fault("law f=00000;", 1, 6);
        edge.fault("law f=99999;", 1, 6);
        edge.fault("law f=4294967297;", 1, 6);
        edge.fault("law f=1+18446744073709551617;", 1, 8);
        edge.fault("law f=way 00007;", 1, 10);
        edge.good("law f=way 0007;");
        for (int b = 33; b < 256; b++) {
            boolean isDigit = b >= '0' && b <= '9';
            boolean joins = b == '+' || b == '-' || b == '*';
            edge.fault("law f=1" + (char) b + "1;", isDigit || joins ? 0 : 1, isDigit || joins ? -1 : b == ';' ? 8 : 7);
        }
    }

    private void marks() {
        edge.term("SIGNS OF WRITING ; = + - * == != < <= ( ) .");
        edge.good("law f=1+2-3*(4);sign a if 1==1;sign b if 1!=1;sign c if 1<1;sign d if 1<=1;");
        for (String mark : new String[] {"!", ">", ">=", "=<", "=>", "/", "%", "&", "|", "[", "]", "{", "}", ",", ":", ".", "#"}) {
            edge.fault("sign a if 1" + mark + "1;", 1, 11);
        }
        edge.fault("law f=1;.", 1, 8);
        edge.fault("law f=1.", 1, 7);
        edge.fault("sign a if 1! =1;", 1, 11);
        edge.fault("sign a if 1!", 1, 11);
        edge.fault("sign a if 1<", 1, 12);
        edge.fault("sign a if 1=", 1, 11);
    }

    private void noTokens() {
        edge.term("A longer one, all else, is no TOKEN.");
        edge.good("law abcdefgh=9999;");
        edge.fault("law abcdefghi=9999;", 1, 4);
        edge.fault("law abcdefgh=99999;", 1, 13);
        // What is no TOKEN is so as a whole: neither its first eight letters nor its last one are a NAME.
        edge.fault("abcdefghsign a if 0<1;", 1, 0);
        edge.fault("law f=1234+12345;", 1, 11);
        edge.fault("law f=1;Book a;", 1, 8);
        edge.fault("law f=1;bOok a;", 1, 8);
        edge.fault("a".repeat(1980), 1, 0);
        edge.fault(" " + "9".repeat(1979), 1, 1);
    }
}

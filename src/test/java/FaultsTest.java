/** Promises 4, 5, 9 and 33: which texts are taken, and the place and the kind of the first FAULT. */
public final class FaultsTest {
    private static final TestHelp HELP = new TestHelp();
    private static final String BOOK = "chap a 1 1;chap b 2 2;who x 1 1 1 1;who y 1 1 1 1;";

    public static void main(String[] args) {
        books();
        booksOfManyBytes();
        plans();
        sentences();
        staysAfterFault();
        HELP.finish();
    }

    private static void book(String text, int answer, int kind) {
        NineReaders x = new NineReaders();
        HELP.due("book of " + text, TestHelp.book(x, text), answer);
        HELP.due("its fault()", x.fault(), kind);
        HELP.due("its count(5)", x.count(5), 0);
    }

    private static void plan(String book, String text, int answer, int kind) {
        NineReaders x = new NineReaders();
        TestHelp.book(x, book);
        HELP.due("plan of " + text, TestHelp.plan(x, text), answer);
        HELP.due("its fault()", x.fault(), kind);
        HELP.due("its count(5)", x.count(5), 0);
    }

    private static void sentence(String text, int answer, int kind) {
        NineReaders x = new NineReaders();
        TestHelp.book(x, BOOK);
        HELP.due("sentence of " + text, TestHelp.sentence(x, text), answer);
        HELP.due("its fault()", x.fault(), kind);
        HELP.due("its count(5)", x.count(5), 0);
    }

    /** The answer for a FAULT in front of which stands so much. */
    private static int behind(String ahead) {
        return -1 - ahead.length();
    }

    private static void books() {
        book("", 0, 0);
        book(" \n ", 0, 0);
        book("chap a 1 1;", 1, 0);
        book("chap\na\n1 1\n;\n", 1, 0);
        book("chap abcdef 999 999 must;", 1, 0);
        book("chap a 001 000;", 1, 0);
        book("who x 99 10 10 240 skips 10;who y 1 0 0 0 skips 0;speed 99;again 0;", 4, 0);
        book("again 10;speed 1;", 2, 0);
        book("chap a 1 1;chap b 1 1 on a 10 must;", 2, 0);
        // 1: no TOKEN, or one that can't come
        book(";", -1, 1);
        book("a", -1, 1);
        book("5", -1, 1);
        book("Chap a 1 1;", -1, 1);
        book("\tchap a 1 1;", -1, 1);
        book("chap", behind("chap"), 1);
        book("chap  ", behind("chap  "), 1);
        book("chap a 1 1", behind("chap a 1 1"), 1);
        book("chap a 1 1\n", behind("chap a 1 1\n"), 1);
        book("chap abcdefg 1 1;", behind("chap "), 1);
        book("chap a1 1 1;", behind("chap "), 1);
        book("chap 1a 1 1;", behind("chap "), 1);
        book("chap a 1000 1;", behind("chap a "), 1);
        book("chap a 1x 1;", behind("chap a "), 1);
        book("chap a -1 1;", behind("chap a "), 1);
        book("chap a 1 1.", behind("chap a 1 1"), 1);
        book("chap a 1 1 " + (char) 233, behind("chap a 1 1 "), 1);
        book("chap a b 1;", behind("chap a "), 1);
        book("chap a 1;", behind("chap a 1"), 1);
        book("chap 1 1 1;", behind("chap "), 1);
        book("chap a 1 1 must must;", behind("chap a 1 1 must "), 1);
        book("chap a 1 1;chap b 1 1 must on a 1;", behind("chap a 1 1;chap b 1 1 must "), 1);
        book("chap a 1 1;chap b 1 1 on;", behind("chap a 1 1;chap b 1 1 on"), 1);
        book("chap a 1 1;chap b 1 1 on a;", behind("chap a 1 1;chap b 1 1 on a"), 1);
        book("chap a 1 1;chap b 1 1 on must 1;", behind("chap a 1 1;chap b 1 1 on "), 1);
        book("chap a 1 1;;", behind("chap a 1 1;"), 1);
        book("who x 1 1 1;", behind("who x 1 1 1"), 1);
        book("who x 1 1 1 1 skips;", behind("who x 1 1 1 1 skips"), 1);
        book("who x 1 1 1 1 must;", behind("who x 1 1 1 1 "), 1);
        book("speed;", behind("speed"), 1);
        book("speed 5 5;", behind("speed 5 "), 1);
        book("chap(a 1 1;", behind("chap"), 1);
        String[] words = {"chap", "on", "must", "who", "skips", "speed", "again", "reads", "tells", "to", "all",
            "or", "and", "not", "read", "told", "knows", "total", "left", "count"};
        for (String word : words) {
            book("chap " + word + " 1 1;", behind("chap "), 1);
            book("who " + word + " 1 1 1 1;", behind("who "), 1);
        }
        book("chap cha 1 1;chap chapp 1 1;chap tol 1 1;chap counts 1 1;", 4, 0);
        // 2: a NUMBER that is not as told
        book("chap a 0 1;", behind("chap a "), 2);
        book("who x 0 1 1 1;", behind("who x "), 2);
        book("who x 100 1 1 1;", behind("who x "), 2);
        book("who x 1 11 1 1;", behind("who x 1 "), 2);
        book("who x 1 1 11 1;", behind("who x 1 1 "), 2);
        book("who x 1 1 1 241;", behind("who x 1 1 1 "), 2);
        book("who x 1 1 1 1 skips 11;", behind("who x 1 1 1 1 skips "), 2);
        book("speed 0;", behind("speed "), 2);
        book("speed 100;", behind("speed "), 2);
        book("again 11;", behind("again "), 2);
        book("chap a 1 1;chap b 1 1 on a 0;", behind("chap a 1 1;chap b 1 1 on a "), 2);
        book("chap a 1 1;chap b 1 1 on a 11;", behind("chap a 1 1;chap b 1 1 on a "), 2);
        String two = "chap a 1 1;chap b 1 1;chap c 1 1 on a 10 on b ";
        book(two + "1;", behind(two), 2);
        // 3: NAMES, and what is told twice
        book("chap a 1 1;chap a 1 1;", behind("chap a 1 1;chap "), 3);
        book("chap a 1 1;who a 1 1 1 1;", behind("chap a 1 1;who "), 3);
        book("who a 1 1 1 1;chap a 1 1;", behind("who a 1 1 1 1;chap "), 3);
        book("chap a 1 1 on a 1;", behind("chap a 1 1 on "), 3);
        book("chap a 1 1 on b 1;chap b 1 1;", behind("chap a 1 1 on "), 3);
        book("who x 1 1 1 1;chap a 1 1 on x 1;", behind("who x 1 1 1 1;chap a 1 1 on "), 3);
        book("chap a 1 1;chap b 1 1 on a 1 on a 1;", behind("chap a 1 1;chap b 1 1 on a 1 on "), 3);
        book("speed 1;speed", behind("speed 1;"), 3);
        book("again 1;again x", behind("again 1;"), 3);
        // 4: too many
        StringBuilder chaps = new StringBuilder();
        for (int i = 0; i < 16; i++) {
            chaps.append("chap c").append((char) ('a' + i)).append(" 1 1;");
        }
        book(chaps.toString(), 16, 0);
        book(chaps + "chap", behind(chaps.toString()), 4);
        book(chaps + " chap ca 0", behind(chaps + " "), 4);
        StringBuilder readers = new StringBuilder();
        for (int i = 0; i < 9; i++) {
            readers.append("who r").append((char) ('a' + i)).append(" 1 1 1 1;");
        }
        book(readers.toString(), 9, 0);
        book(readers + "who", behind(readers.toString()), 4);
        // the first along the text
        book("chap a 0 1;chap", behind("chap a "), 2);
        book("chap a 1 1;chap a 0 .", behind("chap a 1 1;chap "), 3);
    }

    private static String blanks(String text, int length) {
        StringBuilder padded = new StringBuilder(text);
        while (padded.length() < length) {
            padded.append(' ');
        }
        return padded.toString();
    }

    private static void booksOfManyBytes() {
        book(blanks("chap a 1 1;", 1000), 1, 0);
        book(blanks("chap a 1 1;", 1001), -1001, 1);
        book(blanks("chap a 1 1;", 1040), -1001, 1);
        book(blanks("chap a 1 1", 1000), -1001, 1);
        book(blanks("chap a 1 1", 1040), -1001, 1);
        book(blanks("chap a 1 1;", 1005) + ".", -1001, 1);
        book(blanks("chap a 0 1;", 1040), behind("chap a "), 2);
        // A TOKEN that begins ahead of 1000 is read whole.
        book(blanks("", 999) + "again", -1001, 1);
        book(blanks("", 999) + "agains", -1000, 1);
        book(blanks("", 995) + "chap abcdef", -1001, 1);
        book(blanks("", 994) + "chap abcdefg", -1000, 1);
        book(blanks("chap a ", 999) + "00", -1000, 2);
        book(blanks("chap a ", 999) + "12 ", -1001, 1);
        book(blanks("chap a 1 1;who ", 999) + "a", -1000, 3);
        book(blanks("speed 1;", 999) + ";", -1000, 1);
        book(blanks("speed 1", 999) + ";", 1, 0);
        book(blanks("speed 1", 1000) + ";", -1001, 1);
    }

    private static void plans() {
        plan(BOOK, "", 0, 0);
        plan(BOOK, "x reads a;y reads b;", 2, 0);
        plan(BOOK, "x tells a 4 to all;y tells b 1 to x;", 2, 0);
        plan(BOOK + "who z 1 1 1 1;", "x tells a 4 to z y;", 1, 0);
        plan(BOOK, ";", -1, 1);
        plan(BOOK, "reads a;", -1, 1);
        plan(BOOK, "x", behind("x"), 1);
        plan(BOOK, "x a;", behind("x "), 1);
        plan(BOOK, "x reads;", behind("x reads"), 1);
        plan(BOOK, "x reads a", behind("x reads a"), 1);
        plan(BOOK, "x reads a 1;", behind("x reads a "), 1);
        plan(BOOK, "x reads 1;", behind("x reads "), 1);
        plan(BOOK, "x read a;", behind("x "), 1);
        plan(BOOK, "x tells a to y;", behind("x tells a "), 1);
        plan(BOOK, "x tells a 4 y;", behind("x tells a 4 "), 1);
        plan(BOOK, "x tells a 4 to;", behind("x tells a 4 to"), 1);
        plan(BOOK, "x tells a 4 to all y;", behind("x tells a 4 to all "), 1);
        plan(BOOK, "x tells a 4 to y all;", behind("x tells a 4 to y "), 1);
        plan(BOOK, "x tells a 4 to y", behind("x tells a 4 to y"), 1);
        plan("chap a 1 1;who x 1 1 1 1;", "x tells a 4 to all;", behind("x tells a 4 to "), 1);
        plan(BOOK, "x tells a 0 to y;", behind("x tells a "), 2);
        plan(BOOK, "x tells a 5 to y;", behind("x tells a "), 2);
        plan(BOOK, "z reads a;", -1, 3);
        plan(BOOK, "a reads a;", -1, 3);
        plan(BOOK, "x reads y;", behind("x reads "), 3);
        plan(BOOK, "x reads c;", behind("x reads "), 3);
        plan(BOOK, "x tells c 4 to y;", behind("x tells "), 3);
        plan(BOOK, "x tells a 4 to x;", behind("x tells a 4 to "), 3);
        plan(BOOK, "x tells a 4 to a;", behind("x tells a 4 to "), 3);
        plan(BOOK, "x tells a 4 to y y;", behind("x tells a 4 to y "), 3);
        plan("", "x reads a;", -1, 3);
        StringBuilder many = new StringBuilder();
        for (int i = 0; i < 60; i++) {
            many.append("x reads a;");
        }
        plan(BOOK, many.toString(), 60, 0);
        plan(BOOK, many + "x", -601, 4);
        plan(BOOK, many + " x reads", -602, 4);
        plan(BOOK, many + "z", -601, 3);
        plan(BOOK, many + "reads", -601, 1);
        plan(BOOK, blanks("x reads a;", 700), 1, 0);
        plan(BOOK, blanks("x reads a;", 701), -701, 1);
        plan(BOOK, blanks("x reads a", 699) + ";", 1, 0);
        plan(BOOK, blanks("x reads a", 700) + ";", -701, 1);
        plan(BOOK, blanks("x reads ", 699) + "ab;", -700, 3);
    }

    private static String times(String text, int n) {
        StringBuilder all = new StringBuilder();
        for (int i = 0; i < n; i++) {
            all.append(text);
        }
        return all.toString();
    }

    private static void sentences() {
        sentence("read a", 1, 0);
        sentence("told b", 1, 0);
        sentence("knows a<5", 1, 0);
        sentence("total = 999", 1, 0);
        sentence("left>0 or count<3 and not(read a)", 5, 0);
        sentence("((read a))", 3, 0);
        sentence("", -1, 1);
        sentence("  ", -3, 1);
        sentence("read", behind("read"), 1);
        sentence("read a;", behind("read a"), 1);
        sentence("read a read b", behind("read a "), 1);
        sentence("read a or", behind("read a or"), 1);
        sentence("read a and or", behind("read a and "), 1);
        sentence("a", -1, 1);
        sentence("reads a", -1, 1);
        sentence("(read a", behind("(read a"), 1);
        sentence("read a)", behind("read a"), 1);
        sentence("()", -2, 1);
        sentence("not", behind("not"), 1);
        sentence("knows a 5", behind("knows a "), 1);
        sentence("knows a < <", behind("knows a < "), 1);
        sentence("knows < 5", behind("knows "), 1);
        sentence("total a < 5", behind("total "), 1);
        sentence("total < 1000", behind("total < "), 1);
        sentence("read 5", behind("read "), 1);
        sentence("read not", behind("read "), 1);
        sentence("read c", behind("read "), 3);
        sentence("told x", behind("told "), 3);
        sentence("knows y<5", behind("knows "), 3);
        sentence(times("read a or ", 19) + "read a", 20, 0);
        sentence(times("read a or ", 20) + "read a", -201, 1);
        String twenty = times("not read a or ", 9) + "not read a";
        sentence(twenty, 20, 0);
        sentence(twenty + " or read a", behind(twenty + " or "), 4);
        sentence(twenty + " and not", behind(twenty + " and "), 4);
        sentence(twenty + " or (", behind(twenty + " or "), 4);
        sentence(twenty + " or ;", behind(twenty + " or "), 1);
        sentence("left<1or", behind("left<"), 1);
        sentence(times("not ", 7) + "read a", 8, 0);
        sentence(times("not ", 8) + "read a", behind(times("not ", 8)), 4);
        sentence(times("not ", 8) + "a", behind(times("not ", 8)), 1);
        sentence(times("(", 7) + "read a" + times(")", 7), 8, 0);
        sentence(times("(", 8) + "read a" + times(")", 8), -9, 4);
        sentence(times("(", 9) + "read a", -9, 4);
        sentence("not(not(not(not read a and read b)))", 9, 0);
        sentence(blanks("read a", 200), 1, 0);
        sentence(blanks("read a", 201), -201, 1);
        sentence(blanks("read ", 199) + "abc", -200, 3);
        sentence(blanks("left<", 199) + "999", -201, 1);
        sentence(blanks("left<", 199) + "9999", -200, 1);
    }

    private static void staysAfterFault() {
        NineReaders x = new NineReaders();
        HELP.due("fault ahead of any", x.fault(), 0);
        HELP.due("book", TestHelp.book(x, BOOK), 4);
        HELP.due("plan", TestHelp.plan(x, "x reads a;y reads b;"), 2);
        HELP.due("sentence", TestHelp.sentence(x, "not read a"), 2);
        HELP.due("said", x.said(), 2);
        HELP.due("wrong sentence", TestHelp.sentence(x, "read a and read c"), -17);
        HELP.due("fault", x.fault(), 3);
        HELP.due("said", x.said(), 2);
        HELP.due("wrong plan", TestHelp.plan(x, "x reads b;y reads b;x tells b 5"), -31);
        HELP.due("fault", x.fault(), 2);
        HELP.due("count(2)", x.count(2), 2);
        HELP.due("act(0, 1)", x.act(0, 1), 0);
        HELP.due("wrong book", TestHelp.book(x, "speed 9;chap z 1 1;chap"), -24);
        HELP.due("fault", x.fault(), 1);
        HELP.due("count(0)", x.count(0), 2);
        HELP.due("count(3)", x.count(3), 20);
        HELP.due("count(2)", x.count(2), 2);
        HELP.due("said", x.said(), 2);
        HELP.due("new book", TestHelp.book(x, "speed 9;chap a 1 1;who x 1 1 1 1;"), 3);
        HELP.due("fault", x.fault(), 0);
        HELP.due("count(2)", x.count(2), 0);
        HELP.due("count(3)", x.count(3), 9);
        HELP.due("said", x.said(), -1);
    }
}

/** Terms: texts, their TOKENS, what a BOOK may say, and the FAULTS of a BOOK. */
final class TextBorders {
    private static final String TWO = "chap a 1 1;chap b 1 1;who x 1 1 1 1;who y 1 1 1 1;";
    private static final String[] WORDS = {"chap", "on", "must", "who", "skips", "speed", "again", "reads", "tells", "to",
        "all", "or", "and", "not", "read", "told", "knows", "total", "left", "count"};

    private final Borders borders;

    TextBorders(Borders borders) {
        this.borders = borders;
    }

    void all() {
        blanks();
        words();
        numbers();
        goingOn();
        bookText();
        chapLine();
        chapNumbers();
        chapsLeanedOn();
        whoLine();
        speedAndAgain();
        names();
        howMany();
        faultOrder();
        noToken();
        manyBytes();
        wrongNumbers();
        wrongNames();
        tooMany();
    }

    // ---- a text is taken, or it has a FAULT where 'at' begins

    private void book(String text, int lines) {
        NineReaders x = TestHelp.withBook("speed 77;");
        borders.due("book() of " + text, TestHelp.book(x, text), lines);
        borders.due("book() of " + text + ", then fault()", x.fault(), 0);
        borders.due("book() of " + text + ", then count(5)", x.count(5), 0);
    }

    private void noBook(String ahead, String at, int fault) {
        NineReaders x = TestHelp.withBook("speed 77;");
        String call = "book() of " + ahead + at;
        borders.due(call, TestHelp.book(x, ahead + at), -1 - ahead.length());
        borders.due(call + ", then fault()", x.fault(), fault);
        borders.due(call + ", then count(5)", x.count(5), 0);
        borders.due(call + ", then count(3)", x.count(3), 77);
        borders.due(call + ", then count(0)", x.count(0), 0);
        borders.due(call + ", then count(1)", x.count(1), 0);
    }

    private void plan(String text, int acts) {
        NineReaders x = TestHelp.withBook(TWO);
        borders.due("plan() of " + text, TestHelp.plan(x, text), acts);
        borders.due("plan() of " + text + ", then fault()", x.fault(), 0);
    }

    private void noPlan(String ahead, String at, int fault) {
        NineReaders x = TestHelp.withBook(TWO);
        borders.due("plan() of " + ahead + at, TestHelp.plan(x, ahead + at), -1 - ahead.length());
        borders.due("plan() of " + ahead + at + ", then fault()", x.fault(), fault);
    }

    private void sentence(String text, int ones) {
        NineReaders x = TestHelp.withBook(TWO);
        borders.due("sentence() of " + text, TestHelp.sentence(x, text), ones);
        borders.due("sentence() of " + text + ", then fault()", x.fault(), 0);
    }

    private void noSentence(String ahead, String at, int fault) {
        NineReaders x = TestHelp.withBook(TWO);
        borders.due("sentence() of " + ahead + at, TestHelp.sentence(x, ahead + at), -1 - ahead.length());
        borders.due("sentence() of " + ahead + at + ", then fault()", x.fault(), fault);
    }

    /** The NUMBER between two pieces of a BOOK of so many LINES: on both sides of its least and its most. */
    private void numberOf(String ahead, int least, int most, String behind, int lines) {
        book(ahead + least + behind, lines);
        book(ahead + most + behind, lines);
        if (least > 0) {
            noBook(ahead, least - 1 + behind, 2);
        }
        if (most < 999) {
            noBook(ahead, most + 1 + behind, 2);
            noBook(ahead, 999 + behind, 2);
        } else {
            noBook(ahead, most + 1 + behind, 1);
        }
        noBook(ahead, "x" + behind, 1);
        if (behind.startsWith(";")) {
            noBook(ahead, behind, 1);
        }
    }

    // ---- TOKENS

    private void blanks() {
        borders.term("TOKENS of all texts, with blanks (32, 10) between them or not:");
        book("speed 5;again 5;", 2);
        book("\n speed\n\n5 ;\n  again \n 5\n; \n", 2);
        book(" ", 0);
        book("\n", 0);
        plan("x reads a;y reads b;", 2);
        plan("\nx\nreads  a\n;\n \ny reads b ; ", 2);
        sentence("(left<5)and(left>5)", 4);
        sentence("\n(\nleft < 5\n) and ( left\n>\n5 )\n", 4);
        for (int i = 0; i < 256; i++) {
            char one = (char) i;
            if (one == ' ' || one == '\n') {
                book("speed" + one + "5;", 1);
                plan("x" + one + "reads a;", 1);
                sentence("read" + one + "a", 1);
            } else if (one >= 'a' && one <= 'z' || one >= '0' && one <= '9') {
                noBook("", "speed" + one + "5;", 1);
                noPlan("", "x" + one + "reads a;", 1);
                noSentence("", "read" + one + "a", 1);
            } else {
                noBook("speed", one + "5;", 1);
                noPlan("x", one + "reads a;", 1);
                noSentence("read", one + "a", 1);
            }
        }
    }

    private void words() {
        borders.term("WORDS: small letters, 1 to 6;");
        book("chap a 1 1;", 1);
        book("chap z 1 1;", 1);
        book("chap zzzzzz 1 1;", 1);
        book("chap abcdef 1 1;chap abcdee 1 1;chap abcde 1 1;", 3);
        noBook("chap ", "abcdefg 1 1;", 1);
        noBook("chap ", "zzzzzzz 1 1;", 1);
        noBook("chap ", "abcdefghijklmnopqrstuvwxyz 1 1;", 1);
        for (char one : new char[] {'a' - 1, 'z' + 1, 'A', 'Z', '_', 225, 0}) {
            noBook("chap ", one + " 1 1;", 1);
            noBook("chap a", one + " 1 1;", 1);
        }
        // Six letters are a WORD, if not one that was told; seven are none.
        noPlan("x reads ", "abcdef;", 3);
        noPlan("x reads ", "abcdefg;", 1);
        noSentence("read ", "abcdef", 3);
        noSentence("read ", "abcdefg", 1);
    }

    private void numbers() {
        borders.term("NUMBERS: 1 to 3 digits; ; < = > ( ) .");
        book("chap a 7 0;", 1);
        book("chap a 07 00;", 1);
        book("chap a 007 000;", 1);
        book("chap a 999 999;", 1);
        noBook("chap a ", "0007 1;", 1);
        noBook("chap a ", "1000 1;", 1);
        noBook("chap a 1 ", "0000;", 1);
        noBook("chap a 1 ", "99999999999999999999;", 1);
        noBook("chap a ", (char) ('0' - 1) + " 1;", 1);
        noBook("chap a ", (char) ('9' + 1) + " 1;", 1);
        sentence("left<999", 1);
        noSentence("left<", "1000", 1);
        sentence("left=000", 1);
        noSentence("left=", "0000", 1);
        sentence("(left>9)", 2);
        for (char sign : new char[] {'.', ',', ':', '[', ']', '{', '}', '!', '-', '+', '/', '?', '@'}) {
            noSentence("left", sign + "9", 1);
            noBook("speed 5", sign + "", 1);
        }
        for (char sign : new char[] {'<', '=', '>', '(', ')'}) {
            noBook("speed 5", sign + "", 1);
            noPlan("x reads a", sign + "", 1);
        }
        noSentence("read a", ";", 1);
    }

    private void goingOn() {
        borders.term("(A WORD, NUMBER goes on as long as small letters and digits do; what is not as told is no TOKEN.)");
        noBook("chap ", "a1 1 1;", 1);
        noBook("chap ", "1a 1 1;", 1);
        noBook("chap a ", "1a 1;", 1);
        noBook("chap a ", "a1 1;", 1);
        noBook("", "speed5;", 1);
        noBook("", "5speed;", 1);
        noBook("chap ", "abcdef1 1 1;", 1);
        noBook("chap a 1 ", "999a;", 1);
        noPlan("x reads ", "a1;", 1);
        noPlan("x tells a ", "4to y;", 1);
        sentence("left<9 and read a", 2);
        noSentence("left<", "9and read a", 1);
        noSentence("", "left9", 1);
        sentence("(left<9)and read a", 3);
        noSentence("(left<9)", "andread a", 1);
    }

    // ---- a BOOK

    private void bookText() {
        borders.term("A BOOK is a text of at most 1000 bytes: { LINE ; }.");
        book("", 0);
        book("speed 5;", 1);
        book("speed 5;chap a 1 1;again 5;who x 1 1 1 1;chap b 1 1;", 5);
        noBook("speed 5", "", 1);
        noBook("", ";", 1);
        noBook("speed 5;", ";", 1);
        noBook("speed 5;", "x", 1);
        noBook("speed 5 ", "again 5;", 1);
        book(TestHelp.padded("speed 5", 999) + ";", 1);
        noBook(TestHelp.padded("speed 5;", 1000), " ", 1);
        noBook(TestHelp.padded("speed 5", 1000), ";", 1);
    }

    private void chapLine() {
        borders.term("LINE: 'chap' NAME PAGES WORTH { 'on' CHAP N } [ 'must' ]");
        String ab = "chap a 1 1;chap b 1 1;";
        book(ab + "chap c 1 1;", 3);
        book(ab + "chap c 1 1 must;", 3);
        book(ab + "chap c 1 1 on b 1;", 3);
        book(ab + "chap c 1 1 on b 1 on a 1;", 3);
        book(ab + "chap c 1 1 on a 1 on b 1 must;", 3);
        noBook("chap", "", 1);
        noBook("chap ", ";", 1);
        noBook("chap c", "", 1);
        noBook("chap c ", ";", 1);
        noBook("chap c 1", "", 1);
        noBook("chap c 1", ";", 1);
        noBook("chap c 1 1", "", 1);
        noBook("chap c 1 1 ", "1;", 1);
        noBook("chap c 1 1 ", "x;", 1);
        noBook(ab + "chap c 1 1 ", "a 1;", 1);
        noBook(ab + "chap c 1 1 on", "", 1);
        noBook(ab + "chap c 1 1 on", ";", 1);
        noBook(ab + "chap c 1 1 on ", "1;", 1);
        noBook(ab + "chap c 1 1 on ", "on a 1;", 1);
        noBook(ab + "chap c 1 1 on a", ";", 1);
        noBook(ab + "chap c 1 1 on a 1 ", "b 1;", 1);
        noBook(ab + "chap c 1 1 must ", "must;", 1);
        noBook(ab + "chap c 1 1 must ", "on a 1;", 1);
        noBook(ab + "chap c 1 1 ", "skips 1;", 1);
    }

    private void chapNumbers() {
        borders.term("(1 to 999; 0 to 999; a CHAP told ahead, N 1 to 10 tenths, no one twice, 10 together at most)");
        numberOf("chap a ", 1, 999, " 1;", 1);
        numberOf("chap a 1 ", 0, 999, ";", 1);
        numberOf("chap a 1 1;chap b 1 1 on a ", 1, 10, ";", 2);
    }

    private void chapsLeanedOn() {
        String ab = "chap a 1 1;chap b 1 1;chap c 1 1 on ";
        book(ab + "a 1;", 3);
        book(ab + "b 1;", 3);
        noBook(ab, "c 1;", 3);
        noBook(ab, "d 1;chap d 1 1;", 3);
        noBook("chap c 1 1 on ", "a 1;chap a 1 1;", 3);
        book(ab + "a 1 on b 1;", 3);
        noBook(ab + "a 1 on ", "a 1;", 3);
        noBook(ab + "a 1 on b 1 on ", "a 1;", 3);
        // In another LINE it may come again.
        book(ab + "a 5;chap d 1 1 on a 5;", 4);
        // 10 together: with two, and with eleven
        book(ab + "a 9 on b 1;", 3);
        book(ab + "a 1 on b 9;", 3);
        noBook(ab + "a 9 on b ", "2;", 2);
        noBook(ab + "a 1 on b ", "10;", 2);
        noBook(ab + "a 10 on b ", "1;", 2);
        StringBuilder ten = new StringBuilder(TestHelp.lines("chap", "c", 11, "1 1") + "chap z 1 1");
        for (int i = 0; i < 10; i++) {
            ten.append(" on c").append((char) ('a' + i)).append(" 1");
        }
        book(ten + ";", 12);
        noBook(ten + " on ck ", "1;", 2);
    }

    private void whoLine() {
        borders.term("| 'who' NAME PACE TELL KEEP TIME [ 'skips' N ] (PACE 1 to 99 pages a QUARTER of an hour;"
            + " TELL, KEEP 0 to 10 tenths; TIME 0 to 240 QUARTERS; N 0 to 10 tenths)");
        numberOf("who x ", 1, 99, " 1 1 1;", 1);
        numberOf("who x 1 ", 0, 10, " 1 1;", 1);
        numberOf("who x 1 1 ", 0, 10, " 1;", 1);
        numberOf("who x 1 1 1 ", 0, 240, ";", 1);
        numberOf("who x 1 1 1 1 skips ", 0, 10, ";", 1);
        noBook("who", ";", 1);
        noBook("who ", "1 1 1 1 1;", 1);
        noBook("who x 1 1 1 1 ", "1;", 1);
        noBook("who x 1 1 1 1 ", "must;", 1);
        noBook("who x 1 1 1 1 skips 1 ", "skips 1;", 1);
        noBook("who x 1 1 1 1", "", 1);
    }

    private void speedAndAgain() {
        borders.term("| 'speed' N (1 to 99 pages told in a QUARTER; 20 without)");
        numberOf("speed ", 1, 99, ";", 1);
        borders.due("speed 99", TestHelp.withBook("speed 99;").count(3), 99);
        borders.due("speed 1", TestHelp.withBook("speed 1;").count(3), 1);
        borders.due("without", TestHelp.withBook("again 1;").count(3), 20);
        borders.term("| 'again' N (0 to 10 tenths; 8 without).");
        numberOf("again ", 0, 10, ";", 1);
        borders.due("again 0", TestHelp.withBook("again 0;").count(4), 0);
        borders.due("again 10", TestHelp.withBook("again 10;").count(4), 10);
        borders.due("without", TestHelp.withBook("speed 1;").count(4), 8);
        NineReaders x = TestHelp.withBook("speed 5;again 5;");
        TestHelp.book(x, "");
        borders.due("without, behind a BOOK with it", x.count(4), 8);
        borders.term("| 'speed' N (1 to 99 pages told in a QUARTER; 20 without)");
        borders.due("without, behind a BOOK with it", x.count(3), 20);
        borders.term("speed, again once.");
        book("speed 5;", 1);
        book("speed 5;again 5;", 2);
        noBook("speed 5;", "speed 5;", 3);
        noBook("again 5;", "again 5;", 3);
        noBook("speed 5;again 5;chap a 1 1;", "speed 5;", 3);
        noBook("again 5;speed 5;chap a 1 1;", "again 5;", 3);
        // In the next BOOK each may be told once again.
        borders.due("speed in the next BOOK", TestHelp.book(x, "speed 7;again 7;"), 2);
        borders.due("speed in the next BOOK", TestHelp.book(x, "speed 6;again 6;"), 2);
    }

    private void names() {
        borders.term("NAME: a WORD, none of those told here, in a PLAN or in a SENTENCE; told once.");
        for (String word : WORDS) {
            noBook("chap ", word + " 1 1;", 1);
            noBook("who ", word + " 1 1 1 1;", 1);
            String longer = word + (word.equals("read") || word.equals("or") ? "x" : "s");
            if (longer.length() <= 6 && !word.equals("skips")) {
                book("chap " + longer + " 1 1;who " + longer.substring(1) + "x 1 1 1 1;", 2);
            }
            String shorter = word.substring(0, word.length() - 1);
            if (!shorter.equals("read")) {
                book("chap " + shorter + " 1 1;", 1);
            }
        }
        book("chap name 1 1;chap pages 1 1;chap line 1 1;chap cond 1 1;", 4);
        book("chap a 1 1;chap b 1 1;who c 1 1 1 1;who d 1 1 1 1;", 4);
        noBook("chap a 1 1;chap b 1 1;chap ", "a 1 1;", 3);
        noBook("who c 1 1 1 1;who d 1 1 1 1;who ", "c 1 1 1 1;", 3);
        noBook("chap a 1 1;who c 1 1 1 1;who ", "a 1 1 1 1;", 3);
        noBook("chap a 1 1;who c 1 1 1 1;chap ", "c 1 1;", 3);
        unlikeNames();
        // A NUMBER is no NAME, whichever it is.
        for (int number = 0; number <= 999; number += number < 30 ? 1 : 97) {
            noBook("chap a 1 1;who b 1 1 1 1;chap ", number + " 1 1;", 1);
            noBook("chap a 1 1;who b 1 1 1 1;who ", number + " 1 1 1 1;", 1);
        }
        // In the next BOOK it may be told again.
        NineReaders x = TestHelp.withBook("chap a 1 1;");
        borders.due("a NAME of the BOOK ahead", TestHelp.book(x, "who a 1 1 1 1;"), 1);
    }

    /** Unlike in one letter, at each of six places, or in their lengths alone, NAMES are unlike. */
    private void unlikeNames() {
        for (int place = 0; place < 6; place++) {
            StringBuilder text = new StringBuilder();
            for (char letter = 'a'; letter < 'a' + 25; letter++) {
                String name = "z".repeat(place) + letter + "z".repeat(5 - place);
                text.append(letter < 'q' ? "chap " + name + " 1 1;" : "who " + name + " 1 1 1 1;");
            }
            book(text.toString(), 25);
        }
        StringBuilder lengths = new StringBuilder();
        for (int length = 1; length <= 6; length++) {
            lengths.append("chap ").append("a".repeat(length)).append(" 1 1;who ").append("p".repeat(length)).append(" 1 1 1 1;");
        }
        book(lengths + "chap ap 1 1;chap pa 1 1;chap aap 1 1;chap app 1 1;chap apa 1 1;", 17);
    }

    private void howMany() {
        borders.term("16 CHAPS, 9 READERS at most, each sort numbered from 0.");
        String chaps = TestHelp.lines("chap", "c", 16, "1 1");
        String readers = TestHelp.lines("who", "r", 9, "1 1 1 1");
        book(chaps, 16);
        noBook(chaps, "chap z 1 1;", 4);
        book(readers, 9);
        noBook(readers, "who z 1 1 1 1;", 4);
        book(chaps + readers + "speed 1;again 1;", 27);
        NineReaders x = TestHelp.withBook("who x 7 1 1 1;chap a 5 1;who y 8 1 1 1;chap b 6 1;");
        borders.due("chap(0, 0)", x.chap(0, 0), 5);
        borders.due("chap(1, 0)", x.chap(1, 0), 6);
        borders.due("reader(0, 0)", x.reader(0, 0), 7);
        borders.due("reader(1, 0)", x.reader(1, 0), 8);
    }

    // ---- FAULTS of a BOOK

    private void faultOrder() {
        borders.term("FAULTS, the first along the text, of one TOKEN the least:");
        noBook("chap a ", "0 9999;chap a 1 1;", 2);
        noBook("chap a ", "9999 9999;chap a 0 1;", 1);
        noBook("chap a 1 1;chap ", "a 0 x;speed 0;", 3);
        String chaps = TestHelp.lines("chap", "c", 16, "1 1");
        noBook(chaps, "chap ca 0 x;", 4);
        noBook(chaps + "speed ", "0;chap ca 1 1;", 2);
        // One TOKEN with two of them: no such NAME begins a 61st ACT; no WORD of a ONE begins a 21st.
        String acts = "x reads a;".repeat(60);
        noPlan(acts, "z reads a;", 3);
        noPlan(acts, "x reads a;", 4);
        noPlan(acts, "reads a;", 1);
        String ones = "not read a or ".repeat(10);
        noSentence(ones, ";", 1);
        noSentence(ones, "read z", 4);
        noSentence("not ".repeat(8), "a", 1);
        noSentence("not ".repeat(8), "read z", 4);
    }

    private void noToken() {
        borders.term("1 no TOKEN, or one that can't come (at it; the end: how many bytes there are;");
        noBook("speed 5;", ".", 1);
        noBook("speed 5;", "Speed 5;", 1);
        noBook("speed 5;  ", "5", 1);
        noBook("speed 5;", "must;", 1);
        noBook("speed ", "again;", 1);
        noBook("speed", "", 1);
        noBook("speed  \n", "", 1);
        noBook("speed 5", "", 1);
        noBook("speed 5 ", "", 1);
        noBook(TestHelp.padded("speed 5", 999), "", 1);
        noBook(TestHelp.padded("speed 5", 1000), "", 1);
        // The same TOKEN might come again, but this is none.
        for (String no : new String[] {".", "9a", "a9", "abcdefg", "1000", "A"}) {
            noSentence("not ", no, 1);
            noSentence("(", no, 1);
            noSentence("not read a or not ", no, 1);
            noPlan("x tells a 4 to y ", no + ";", 1);
            noPlan("x reads a;", no + " reads a;", 1);
            noBook("chap a 1 1;", no, 1);
        }
        noPlan("x reads a", "", 1);
        noPlan("x reads a\n ", "", 1);
        noSentence("read a or", "", 1);
        noSentence("", "", 1);
        noSentence("  ", "", 1);
    }

    private void manyBytes() {
        borders.term("1000, if there are more and no FAULT is ahead: TOKENS that begin ahead of it are read whole);");
        noBook(TestHelp.padded("speed 5", 1000), " ", 1);
        noBook(TestHelp.padded("speed 5;", 1000), " ".repeat(40), 1);
        noBook(TestHelp.padded("speed 5;", 1000), "again 5;", 1);
        noBook(TestHelp.padded("speed 5;", 1000), ".", 1);
        // A FAULT ahead
        noBook("speed ", TestHelp.padded("0;", 1034), 2);
        noBook(TestHelp.padded("speed 5;", 999), "; ", 1);
        noBook(TestHelp.padded("speed 5", 999), "5;", 1);
        // A TOKEN that begins at 999 is read whole, and what comes behind it is not.
        noBook(TestHelp.padded("speed 5;", 999), "agains 5;", 1);
        noBook(TestHelp.padded("chap ", 999), "abcdefg 1 1;", 1);
        borders.due("a WORD from 999 on", faultPlace(TestHelp.padded("chap ", 999) + "abcdef 1 1;"), 1000);
        borders.due("a WORD from 999 on", faultPlace(TestHelp.padded("speed 5;", 999) + "again 5;"), 1000);
        borders.due("a NUMBER from 999 on", faultPlace(TestHelp.padded("speed ", 999) + "99;"), 1000);
        noBook(TestHelp.padded("speed ", 999), "100;", 2);
        noBook(TestHelp.padded("speed ", 999), "9999;", 1);
        noBook(TestHelp.padded("speed ", 998), "100;", 2);
        book(TestHelp.padded("speed ", 997) + "99;", 1);
        borders.due("a sign at 1000", faultPlace(TestHelp.padded("speed ", 998) + "99;"), 1000);
        noPlan(TestHelp.padded("x reads a;", 700), " ", 1);
        plan(TestHelp.padded("x reads a;", 700), 1);
        // At the bound, what came last does not come once more.
        noPlan(TestHelp.padded("x tells a 4 to y", 700), " ", 1);
        noPlan(TestHelp.padded("x tells a 4 to", 699) + " ", "y;", 1);
        noSentence(TestHelp.padded("not", 200), " ", 1);
        noSentence(TestHelp.padded("(", 200), "read a)", 1);
        noSentence(TestHelp.padded("read a", 200), " ", 1);
        sentence(TestHelp.padded("read a", 200), 1);
    }

    private static int faultPlace(String text) {
        return -1 - TestHelp.book(new NineReaders(), text);
    }

    private void wrongNumbers() {
        borders.term("2 a NUMBER that is not as told (at it; also an N of 'on' with which they are above 10);");
        noBook("chap a ", "0 1;", 2);
        noBook("chap a ", "000 1;", 2);
        noBook("who x 1 1 1 ", "241;", 2);
        String on = "chap a 1 1;chap b 1 1;chap c 1 1;chap d 1 1 on a 5 on b ";
        book(on + "5;", 4);
        noBook(on, "6;", 2);
        book(on + "4 on c 1;", 4);
        noBook(on + "4 on c ", "2;", 2);
        noBook(on + "5 on c ", "1;", 2);
        noBook(on + "5 on c ", "0;", 2);
    }

    private void wrongNames() {
        borders.term("3 a NAME told twice, not told, or of another sort, a CHAP twice in one LINE (at it),"
            + " speed, again told twice (at it);");
        noBook("chap a 1 1;chap ", "a 1 1;", 3);
        noBook("who x 1 1 1 1;who ", "x 1 1 1 1;", 3);
        noBook("who x 1 1 1 1;chap ", "x 1 1;", 3);
        noBook("chap a 1 1;who ", "a 1 1 1 1;", 3);
        noBook("chap a 1 1;chap b 1 1 on ", "c 1;", 3);
        noBook("chap a 1 1;who x 1 1 1 1;chap b 1 1 on ", "x 1;", 3);
        noBook("chap a 1 1;chap b 1 1 on ", "b 1;", 3);
        noBook("chap a 1 1;chap b 1 1 on a 1 on ", "a 1;", 3);
        noBook("chap a 1 1;chap b 1 1 on a 10 on ", "a 1;", 3);
        noBook("speed 5;", "speed", 3);
        noBook("again 5;", "again x", 3);
    }

    private void tooMany() {
        borders.term("4 a 17th CHAP, a tenth READER (at the LINE's first WORD).");
        String chaps = TestHelp.lines("chap", "c", 16, "1 1");
        String readers = TestHelp.lines("who", "r", 9, "1 1 1 1");
        book(chaps + readers, 25);
        noBook(chaps + " ", "chap", 4);
        noBook(readers + "\n", "who", 4);
        noBook(chaps + readers, "who x 1 1 1 1;", 4);
        noBook(readers + chaps, "chap x 1 1;", 4);
        noBook(TestHelp.lines("chap", "c", 15, "1 1") + "chap z 1 1;speed 1;", "chap", 4);
    }
}

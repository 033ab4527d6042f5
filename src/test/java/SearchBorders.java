/** Terms, part 3: what is searched for in a BOOK alone: BEST, CUT, NET, CHAIN, ALONE, LEAVE OUT. */
final class SearchBorders {
    /** N between a and b 3, b and c 2, a and d 1, c and d 1. */
    private static final String FOUR = "chap a 10 1;chap b 20 1 on a 3;chap c 30 1 on b 2;chap d 5 1 on a 1 on c 1;";

    private final Borders borders;

    SearchBorders(Borders borders) {
        this.borders = borders;
    }

    void all() {
        bestSizes();
        bestTime();
        bestTold();
        bestFirst();
        cut();
        cutFirst();
        net();
        netFirst();
        chain();
        chainFirst();
        alone();
        leave();
        leaveLeaning();
    }

    // ---- BEST

    private void best(String book, int m, int w, int sum, int... who) {
        NineReaders x = TestHelp.withBook(book);
        String call = "best(" + m + ", " + w + ") of " + book;
        borders.due(call, x.best(m, w), sum);
        for (int c = 0; c < who.length; c++) {
            borders.due(call + ", then bestOf(" + c + ")", x.bestOf(c), who[c]);
        }
        borders.due(call + ", then bestOf(" + who.length + ")", x.bestOf(who.length), -1);
    }

    private void bestSizes() {
        borders.term("BEST of the first m CHAPS (1 to 6) and w READERS (1 to 4):");
        String chaps = TestHelp.lines("chap", "c", 7, "1 10");
        String readers = TestHelp.lines("who", "r", 5, "9 10 10 9");
        best(chaps + readers, 6, 4, 240, 0, 0, 0, 0, 0, 0);
        best(chaps + readers, 1, 1, 10, 0);
        best(chaps + readers, 7, 4, -1);
        best(chaps + readers, 6, 5, -1);
        best(chaps + readers, 0, 4, -1);
        best(chaps + readers, 6, 0, -1);
        best(chaps + readers, -1, 1, -1);
        best(chaps + readers, Integer.MIN_VALUE, 1, -1);
        best(chaps + readers, 1, Integer.MAX_VALUE, -1);
        String few = TestHelp.lines("chap", "c", 3, "1 10") + TestHelp.lines("who", "r", 2, "9 10 10 9");
        best(few, 3, 2, 60, 0, 0, 0);
        best(few, 4, 2, -1);
        best(few, 3, 3, -1);
        best(few, 2, 2, 40, 0, 0);
        best("chap a 1 10;", 1, 1, -1);
        best("who x 1 1 1 1;", 1, 1, -1);
        // The first ones: the second CHAP and the second READER count for nothing.
        String two = "chap a 9 10;chap b 9 500;who x 9 10 10 2;who y 9 10 10 9;";
        best(two, 1, 1, 10, 0);
        best(two, 2, 1, 510, 0, 0);
        best(two, 1, 2, 20, 0);
    }

    private void bestTime() {
        borders.term("for each CHAP one who READS it, or none, so that all have time (for reading);");
        String chaps = "chap a 10 5;chap b 11 7;who x 10 0 0 ";
        best(chaps + "0;", 2, 1, 0, -1, -1);
        best(chaps + "1;", 2, 1, 5, 0, -1);
        best(chaps + "2;", 2, 1, 7, -1, 0);
        best(chaps + "3;", 2, 1, 12, 0, 0);
        best(chaps + "1;who y 10 0 0 2;", 2, 2, 12, 0, 1);
        best(chaps + "1;who y 10 0 0 1;", 2, 2, 5, 0, -1);
        best(chaps + "0;who y 10 0 0 3;", 2, 2, 12, 1, 1);
        // Without a, b is READ with LACK; with skips, less is KNOWN.
        best("chap a 2 1;chap b 1 100 on a 10;who x 1 0 0 1;", 2, 1, 50, -1, 0);
        best("chap a 2 1;chap b 1 100 on a 10;who x 1 0 0 3;", 2, 1, 101, 0, 0);
        best("chap a 1 100;who x 1 0 0 1 skips 3;", 1, 1, 70, 0);
        // a might be READ, but b is, with all of LACK: for the one who READS it, and for the one who is told.
        best("chap a 1 1;chap b 1 100 on a 10;who x 1 0 0 1;", 2, 1, 50, -1, 0);
        best("chap a 1 1;chap b 1 100 on a 10;who x 1 0 10 0;who y 1 10 10 1;", 2, 2, 50, -1, 1);
    }

    private void bestTold() {
        borders.term("then, CHAP by CHAP, who READ it tells all others of the w with F 4 (takes no time):");
        // The third one and what it would be told count only among three.
        String three = "chap a 10 100;who x 10 10 0 1;who y 10 10 5 0;who z 10 10 8 0;";
        best(three, 1, 1, 100, 0);
        best(three, 1, 2, 150, 0);
        best(three, 1, 3, 230, 0);
        // TELL 5 of it, KEEP 5, 'again' counts for nothing
        best("chap a 10 100;again 0;who x 10 5 0 1;who y 10 0 5 0;", 1, 2, 125, 0);
        // y KNOWS half of a, so LACK at b is half a MILLION, and a quarter of b is KNOWN.
        best("chap a 10 100;chap b 10 100 on a 10;who x 10 10 0 2;who y 10 0 5 0;", 2, 2, 275, 0, 0);
        // All is READ ahead of all telling: y READS b with LACK; x, who KNOWS a, is told half of it.
        best("chap a 1 0;chap b 1 100 on a 10;who x 1 10 10 1;who y 1 10 10 1;", 2, 2, 100, 0, 1);
    }

    private void bestFirst() {
        borders.term("the greatest SUM of the w; of like ones the first (CHAP by CHAP, the lesser READER, none behind all).");
        best("chap a 1 5;chap b 1 5;who x 1 0 0 1;", 2, 1, 5, 0, -1);
        best("chap a 1 5;chap b 1 6;who x 1 0 0 1;", 2, 1, 6, -1, 0);
        best("chap a 1 5;chap b 1 5;who x 1 9 9 1;who y 1 9 9 1;", 2, 2, 18, 0, 1);
        best("chap a 1 5;who x 1 9 9 0;who y 1 9 9 1;who z 1 9 9 1;", 1, 3, 13, 1);
        best("chap a 1 10;chap b 1 10;chap c 1 10;who x 1 0 10 9;who y 1 10 10 9;", 3, 2, 60, 1, 1, 1);
        best("chap a 1 5;who x 1 0 9 9;who y 1 0 9 9;who z 1 0 9 9;who w 1 1 9 9;", 1, 4, 5, 0);
        best("chap a 1 50;who x 1 0 9 9;who y 1 0 9 9;who z 1 0 9 9;who w 1 1 9 9;", 1, 4, 62, 3);
        // With no WORTH at all, reading is as good as none, and comes first.
        best("chap a 1 0;chap b 1 0;who x 1 0 9 1;who y 1 0 9 9;", 2, 2, 0, 0, 1);
        best("chap a 2 0;chap b 1 0;who x 1 0 9 1;who y 1 0 9 1;", 2, 2, 0, -1, 0);
    }

    // ---- CUT

    private void cut(String book, int k, int pages, int least, int... ends) {
        NineReaders x = TestHelp.withBook(book);
        String call = "cut(" + k + ", " + pages + ") of " + book;
        borders.due(call, x.cut(k, pages), least);
        for (int i = 0; i < ends.length; i++) {
            borders.due(call + ", then cutAt(" + i + ")", x.cutAt(i), ends[i]);
        }
        borders.due(call + ", then cutAt(" + ends.length + ")", x.cutAt(ends.length), -1);
        borders.due(call + ", then cutAt(-1)", x.cutAt(-1), -1);
    }

    private void cut() {
        borders.term("CUT in k STRETCHES (1 to 9) of P pages at most (1 to 999 each): CHAPS in order, no STRETCH empty:");
        String nine = TestHelp.lines("chap", "c", 9, "1 1");
        cut(nine, 9, 1, 0, 0, 1, 2, 3, 4, 5, 6, 7, 8);
        cut(nine, 10, 1, -2);
        cut(nine, 1, 9, 0, 8);
        cut(nine, 0, 9, -2);
        cut(nine, -1, 9, -2);
        cut(nine, Integer.MIN_VALUE, 9, -2);
        cut(nine, Integer.MAX_VALUE, 9, -2);
        cut(nine, 1, 8, -1);
        cut(nine, 9, 0, -2);
        cut(nine, 9, -1, -2);
        cut(nine, 9, 999, 0, 0, 1, 2, 3, 4, 5, 6, 7, 8);
        cut(nine, 9, 1000, -2);
        cut(nine, 9, Integer.MAX_VALUE, -2);
        cut(nine, 10, 0, -2);
        cut("chap a 999 1;", 1, 999, 0, 0);
        cut("chap a 999 1;", 1, 998, -1);
        cut("chap a 998 1;chap b 1 1;", 1, 999, 0, 1);
        cut("chap a 998 1;chap b 2 1;", 1, 999, -1);
        // As many STRETCHES as CHAPS, and one more
        cut(TestHelp.lines("chap", "c", 8, "1 1"), 8, 1, 0, 0, 1, 2, 3, 4, 5, 6, 7);
        cut(TestHelp.lines("chap", "c", 8, "1 1"), 9, 1, -1);
        cut("", 1, 1, -1);
        cut("", 0, 1, -2);
        // 16 CHAPS in eight pairs, and in no seven
        cut(TestHelp.lines("chap", "c", 16, "1 1"), 8, 2, 0, 1, 3, 5, 7, 9, 11, 13, 15);
        cut(TestHelp.lines("chap", "c", 16, "1 1"), 7, 2, -1);
    }

    private void cutFirst() {
        borders.term("the least N together that go over a cut; of like ones the first (the lesser ends).");
        cut(FOUR, 1, 65, 0, 3);
        cut(FOUR, 1, 64, -1);
        // behind a 4, behind b 3, behind c 2
        cut(FOUR, 2, 60, 2, 2, 3);
        cut(FOUR, 2, 59, 3, 1, 3);
        cut(FOUR, 2, 35, 3, 1, 3);
        cut(FOUR, 2, 34, -1);
        // a | b | c d 6, a | b c | d 5, a b | c | d 4: what d leans on a counts once, though it goes over two
        cut(FOUR, 3, 999, 4, 1, 2, 3);
        cut(FOUR, 4, 30, 7, 0, 1, 2, 3);
        cut(FOUR, 4, 29, -1);
        cut(FOUR, 5, 999, -1);
        String like = "chap a 1 1;chap b 1 1;chap c 1 1;chap d 1 1;";
        cut(like, 2, 999, 0, 0, 3);
        cut(like, 3, 999, 0, 0, 1, 3);
        cut(like, 2, 2, 0, 1, 3);
        cut("chap a 1 1;chap b 1 1 on a 2;chap c 1 1 on b 2;", 2, 9, 2, 0, 2);
        cut("chap a 1 1;chap b 1 1 on a 3;chap c 1 1 on b 2;", 2, 9, 2, 1, 2);
    }

    // ---- NET

    private void net(String book, int pages, int least, int side, int... told) {
        NineReaders x = TestHelp.withBook(book);
        TestHelp.put(x, told);
        String call = "net(" + pages + ") of " + told.length + " told ones, of " + book;
        borders.due(call, x.net(pages), least);
        borders.due(call + ", then netSide()", x.netSide(), side);
        borders.due(call + ", then count(5)", x.count(5), 0);
    }

    private void net() {
        borders.term("NET of told CHAPS (2 to 10): in two sides, of P pages at most each, neither empty:");
        String eleven = TestHelp.lines("chap", "c", 11, "1 1");
        net(eleven, 1, 0, 1, 3, 10);
        net(eleven, 9, 0, 1, 0, 1, 2, 3, 4, 5, 6, 7, 8, 9);
        net(eleven, 5, 0, 31, 0, 1, 2, 3, 4, 5, 6, 7, 8, 9);
        net(eleven, 4, -1, -1, 0, 1, 2, 3, 4, 5, 6, 7, 8, 9);
        net(eleven, 9, -2, -1, 0, 1, 2, 3, 4, 5, 6, 7, 8, 9, 10);
        net(eleven, 9, -2, -1, 0);
        net(eleven, 9, -2, -1);
        net(eleven, 9999, 0, 1, 0, 1);
        net(eleven, 10000, -2, -1, 0, 1);
        net(eleven, 0, -2, -1, 0, 1);
        net(eleven, Integer.MIN_VALUE, -2, -1, 0, 1);
        net(eleven, Integer.MAX_VALUE, -2, -1, 0, 1);
        net("chap a 999 1;chap b 998 1;", 999, 0, 1, 0, 1);
        net("chap a 999 1;chap b 998 1;", 998, -1, -1, 0, 1);
        net("chap a 998 1;chap b 999 1;", 998, -1, -1, 0, 1);
        // Neither is empty, however much that costs.
        net("chap a 1 1;chap b 1 1 on a 10;", 9999, 10, 1, 0, 1);
    }

    private void netFirst() {
        borders.term("the least N from one side to the other; of like ones the least set of the side"
            + " without the last told one (as bits, by places told).");
        // without d: a 4, b 5, a b 3, c 3, a c 7, b c 4, a b c 2
        net(FOUR, 60, 2, 7, 0, 1, 2, 3);
        net(FOUR, 59, 3, 3, 0, 1, 2, 3);
        net(FOUR, 35, 3, 3, 0, 1, 2, 3);
        net(FOUR, 34, -1, -1, 0, 1, 2, 3);
        // By places told: d is the first now, and a the last.
        net(FOUR, 60, 2, 1, 3, 2, 1, 0);
        net(FOUR, 59, 3, 2, 3, 2, 1, 0);
        net(FOUR, 59, 3, 1, 2, 0, 1, 3);
        // Either may lean on the other; what is not told counts for nothing.
        net(FOUR, 60, 3, 1, 0, 1);
        net(FOUR, 60, 3, 1, 1, 0);
        net(FOUR, 60, 0, 1, 0, 2);
        net(FOUR, 60, 1, 1, 0, 2, 3);
        net(FOUR, 60, 2, 4, 0, 2, 3, 1);
    }

    // ---- CHAIN

    private void chain(String book, int sum, int[] told, int... row) {
        NineReaders x = TestHelp.withBook(book);
        TestHelp.put(x, told);
        String call = "chain() of " + told.length + " told ones, of " + book;
        borders.due(call, x.chain(), sum);
        for (int i = 0; i < row.length; i++) {
            borders.due(call + ", then chainAt(" + i + ")", x.chainAt(i), row[i]);
        }
        borders.due(call + ", then chainAt(" + row.length + ")", x.chainAt(row.length), -1);
        borders.due(call + ", then chainAt(-1)", x.chainAt(-1), -1);
        borders.due(call + ", then count(5)", x.count(5), 0);
    }

    private static int[] told(int... told) {
        return told;
    }

    private void chain() {
        borders.term("CHAIN of told READERS (2 to 7): the first told one begins, KNOWS a MILLION and has READ it; all others,"
            + " in some order, are told one by one, each by the one ahead (F 4, no LACK):");
        String nine = "again 10;" + TestHelp.lines("who", "r", 9, "9 10 10 9");
        chain(nine, 2000000, told(0, 1), 0, 1);
        chain(nine, 2000000, told(8, 0), 8, 0);
        chain(nine, 7000000, told(8, 2, 3, 4, 5, 6, 7), 8, 2, 3, 4, 5, 6, 7);
        chain(nine, -1, told(8, 1, 2, 3, 4, 5, 6, 7));
        chain(nine, -1, told(0));
        chain(nine, -1, told());
        chain(nine, -1, told(9, 0));
        chain(nine, -1, told(0, 9));
        chain(nine, -1, told(0, 255));
        chain(nine, -1, told(3, 3));
        chain(nine, -1, told(3, 4, 3));
        // What the first one KEEPS counts for nothing, nor does it take time; PARTS are cut.
        chain("who x 9 10 0 0;who y 9 9 10 0;", 2000000, told(0, 1), 0, 1);
        // 90000; 27000, 8100, again 7: 5670; 1701, 510.3, 357
        chain("again 7;" + TestHelp.lines("who", "r", 4, "9 3 3 9"), 1096027, told(0, 1, 2, 3), 0, 1, 2, 3);
        // BOOKS without CHAPS do as well; 'again' counts from the second telling on.
        chain("again 0;who x 9 10 10 9;who y 9 10 10 9;who z 9 10 10 9;", 2000000, told(0, 1, 2), 0, 1, 2);
    }

    private void chainFirst() {
        borders.term("the order with the greatest sum; of like ones the first by places told.");
        // y first: 800000, then 160000; z first: 500000, then 320000
        String three = "who x 10 10 10 9;who y 10 5 8 9;who z 10 10 5 9;";
        chain(three, 1960000, told(0, 1, 2), 0, 1, 2);
        chain(three, 1960000, told(0, 2, 1), 0, 1, 2);
        // y begins: x 500000, z 200000; z begins: x 1000000, then y 640000
        chain(three, 1700000, told(1, 2, 0), 1, 0, 2);
        chain(three, 2640000, told(2, 1, 0), 2, 0, 1);
        String like = TestHelp.lines("who", "r", 5, "9 10 10 9");
        chain(like, 3440000, told(0, 4, 2, 3), 0, 4, 2, 3);
        chain(like, 3440000, told(3, 1, 0, 4), 3, 1, 0, 4);
        chain("who x 9 0 9 9;" + like, 1000000, told(0, 5, 4, 1), 0, 5, 4, 1);
    }

    // ---- ALONE and LEAVE OUT

    private void alone(String book, int worth, int set) {
        NineReaders x = TestHelp.withBook(book);
        borders.due("alone(0, 0) of " + book, x.alone(0, 0), worth);
        borders.due("alone(0, 1) of " + book, x.alone(0, 1), set);
    }

    private void alone() {
        borders.term("ALONE: CHAPS that one READER has time to read: the greatest WORTH together;"
            + " of like ones the least set as bits.");
        String chaps = "chap a 10 5;chap b 21 7;chap c 20 6;who x 10 1 1 ";
        alone(chaps + "0;", 0, 0);
        alone(chaps + "1;", 5, 1);
        alone(chaps + "2;", 6, 4);
        alone(chaps + "3;", 11, 5);
        alone(chaps + "4;", 12, 3);
        alone(chaps + "5;", 13, 6);
        alone(chaps + "6;", 18, 7);
        alone("who x 1 1 1 240;", 0, 0);
        alone("chap a 240 1;chap b 240 2;who x 1 1 1 240;", 2, 2);
        alone("chap a 240 1;chap b 241 2;who x 1 1 1 240;", 1, 1);
        alone("chap a 1 5;chap b 1 5;chap c 1 5;who x 1 1 1 1;", 5, 1);
        alone("chap a 1 5;chap b 1 5;chap c 1 5;who x 1 1 1 2;", 10, 3);
        // a b together are as much as c: the least set is theirs; d of no WORTH stays out.
        alone("chap a 1 2;chap b 1 3;chap c 2 5;chap d 1 0;who x 1 1 1 2;", 5, 3);
        alone("chap a 2 5;chap b 1 2;chap c 1 3;chap d 1 0;who x 1 1 1 2;", 5, 1);
        alone("chap a 1 0;who x 1 1 1 2;", 0, 0);
        // What another READER has time for counts for nothing, nor what was asked ahead.
        NineReaders x = TestHelp.withBook("chap a 1 1;chap b 9 2;chap c 9 3;who x 9 1 1 9;who y 1 1 1 2;");
        borders.due("alone(0, 1) of a quick one", x.alone(0, 1), 7);
        borders.due("alone(1, 1) of a slow one", x.alone(1, 1), 1);
        borders.due("alone(1, 0) of a slow one", x.alone(1, 0), 1);
        alone(TestHelp.lines("chap", "c", 16, "15 999") + "who x 1 1 1 240;", 16 * 999, 65535);
        alone(TestHelp.lines("chap", "c", 16, "15 999") + "who x 1 1 1 239;", 15 * 999, 32767);
    }

    private void leave(String book, int worth, int set) {
        NineReaders x = TestHelp.withBook(book);
        borders.due("leave(0) of " + book, x.leave(0), worth);
        borders.due("leave(1) of " + book, x.leave(1), set);
    }

    private void leave() {
        borders.term("LEAVE OUT: the set of CHAPS of least WORTH without which all others together can be read in all QUARTERS"
            + " of all READERS, each CHAP as long as the quickest takes;");
        // 1, 2 and 3 QUARTERS as the second one READS
        String chaps = "chap a 10 3;chap b 20 2;chap c 21 9;who x 5 1 1 3;who y 10 1 1 ";
        leave(chaps + "3;", 0, 0);
        leave(chaps + "2;", 2, 2);
        leave(chaps + "1;", 2, 2);
        leave(chaps + "0;", 5, 3);
        leave("chap a 10 3;chap b 20 2;chap c 21 9;who x 10 1 1 2;", 11, 6);
        leave("chap a 10 3;chap b 20 2;chap c 21 9;who x 10 1 1 1;", 11, 6);
        leave("chap a 10 3;chap b 20 2;chap c 21 9;who x 10 1 1 0;", 14, 7);
        leave("who x 1 1 1 0;", 0, 0);
        // One CHAP may take longer than any one READER has.
        leave("chap a 2 3;who x 1 1 1 1;who y 1 1 1 1;", 0, 0);
        leave("chap a 3 3;who x 1 1 1 1;who y 1 1 1 1;", 3, 1);
        leave(TestHelp.lines("chap", "c", 16, "999 999") + "who x 1 1 1 0;", 16 * 999, 65535);
        leave(TestHelp.lines("chap", "c", 16, "135 999") + TestHelp.lines("who", "r", 9, "1 1 1 240"), 0, 0);
        leave(TestHelp.lines("chap", "c", 15, "135 999") + "chap d 136 998;" + TestHelp.lines("who", "r", 9, "1 1 1 240"),
            998, 32768);
    }

    private void leaveLeaning() {
        borders.term("what leans by 5 tenths or more on one that is left out is left out, too; of like ones the least set as bits.");
        leave("chap a 1 1;chap b 1 9 on a 5;chap c 1 9;who x 1 1 1 2;", 9, 2);
        leave("chap a 1 1;chap b 1 9 on a 4;chap c 1 9;who x 1 1 1 2;", 1, 1);
        leave("chap a 1 1;chap b 1 9 on a 10;chap c 1 10;who x 1 1 1 1;", 10, 3);
        // on and on: a takes b and c along
        leave("chap a 9 1;chap b 1 5 on a 5;chap c 1 5 on b 5;chap d 1 50;who x 1 1 1 8;", 11, 7);
        leave("chap a 9 1;chap b 1 5 on a 5;chap c 1 5 on b 4;chap d 1 50;who x 1 1 1 8;", 6, 3);
        leave("chap a 1 5;chap b 1 5;chap c 1 5;who x 1 1 1 2;", 5, 1);
        leave("chap a 1 5;chap b 1 5;chap c 1 5;who x 1 1 1 1;", 10, 3);
        leave("chap a 1 0;chap b 1 0;chap c 1 5;who x 1 1 1 2;", 0, 1);
        leave("chap a 1 0;chap b 1 0;chap c 1 5;who x 1 1 1 3;", 0, 0);
        // c alone is as little as a and b together, but a greater set.
        leave("chap a 1 2;chap b 1 3;chap c 2 5;who x 1 1 1 2;", 5, 3);
    }
}

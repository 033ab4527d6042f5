/** The promises 1 to 37: each one's answers, what is no such thing, and what a refused call leaves. */
final class PromiseBorders {
    private static final int LEAST = Integer.MIN_VALUE;
    private static final int MOST = Integer.MAX_VALUE;
    private static final String BOOK = "chap a 40 100;chap b 30 50 on a 4;chap c 25 200 on a 1 on b 2 must;"
        + "who x 10 8 5 10;who y 5 10 10 8 skips 2;speed 10;again 5;";

    private final Borders borders;

    PromiseBorders(Borders borders) {
        this.borders = borders;
    }

    void all() {
        newObject();
        feed();
        feedFull();
        end();
        book();
        emptyThen();
        fault();
        chap();
        leans();
        reader();
        plan();
        make();
        drawn();
        act();
        run();
        why();
        known();
        after();
        allOf();
        best();
        bestOf();
        cut();
        cutAt();
        net();
        netSide();
        chain();
        chainAt();
        alone();
        leave();
        extra();
        ask();
        asked();
        seen();
        ill();
        sentence();
        said();
        image();
        restore();
        restoreLeaves();
        count();
        manyCalls();
    }

    private static NineReaders withAll() {
        NineReaders x = TestHelp.with(BOOK, "x reads a;x tells a 4 to y;");
        TestHelp.sentence(x, "read a");
        return x;
    }

    private static int net(NineReaders x, int pages, int... told) {
        TestHelp.put(x, told);
        return x.net(pages);
    }

    private static int chain(NineReaders x, int... told) {
        TestHelp.put(x, told);
        return x.chain();
    }

    private static int ask(NineReaders x, int... bytes) {
        TestHelp.put(x, bytes);
        return x.ask();
    }

    private void newObject() {
        borders.promise(1, "An empty BOOK, no PLAN; an empty tape.");
        NineReaders x = new NineReaders();
        int[] counts = {0, 0, 0, 20, 8, 0};
        for (int what = 0; what < counts.length; what++) {
            borders.due("count(" + what + ")", x.count(what), counts[what]);
        }
        borders.dueNone("chap(0, 0)", () -> x.chap(0, 0));
        borders.dueNone("reader(0, 0)", () -> x.reader(0, 0));
        borders.dueNone("act(0, 0)", () -> x.act(0, 0));
        borders.due("leans(0, 0)", x.leans(0, 0), -1);
        borders.due("known(0, 0)", x.known(0, 0), -1);
        borders.due("after(0, 0)", x.after(0, 0), -1);
        borders.due("all(0)", x.all(0), 0);
        borders.due("all(1)", x.all(1), -1);
        borders.due("all(2)", x.all(2), 0);
        borders.due("all(3)", x.all(3), 0);
        borders.due("run()", x.run(), -1);
        borders.due("said()", x.said(), -1);
        borders.due("end(0)", x.end(0), true);
        borders.due("end(1)", x.end(1), false);
        for (int kind = 0; kind < 5; kind++) {
            borders.due("make(" + kind + ", 1)", x.make(kind, 1), 0);
        }
        borders.due("plan()", x.plan(), 0);
        borders.due("book()", x.book(), 0);
        // Another object has nothing of it.
        NineReaders other = withAll();
        NineReaders y = new NineReaders();
        borders.due("count(0) beside another", y.count(0), 0);
        borders.due("count(0) of the other", other.count(0), 3);
    }

    private void feed() {
        borders.promise(2, "Twenty bytes come behind the tape, of each number the highest first: how many it has;");
        NineReaders x = new NineReaders();
        borders.due("feed() on an empty tape", x.feed(0, 0, 0, 0, 0), 20);
        borders.due("feed() behind 20", x.feed(0, 0, 0, 0, 0), 40);
        x.end(7);
        borders.due("feed() behind 7", x.feed(0, 0, 0, 0, 0), 27);
        // speed 7; with blanks: each byte stands at its own place.
        String[] pieces = {"spee", "d   ", "   7", "   ;", "    "};
        int[] words = new int[5];
        for (int i = 0; i < 5; i++) {
            words[i] = TestHelp.word(pieces[i].getBytes(java.nio.charset.StandardCharsets.ISO_8859_1), 0);
        }
        x.end(0);
        borders.due("feed() of a text", x.feed(words[0], words[1], words[2], words[3], words[4]), 20);
        borders.due("book() of it", x.book(), 1);
        borders.due("count(3)", x.count(3), 7);
        // Of 00 01 02 03 04 05 06 07 08 09 .. as READERS: the bytes come in this order.
        TestHelp.book(x, TestHelp.lines("who", "r", 9, "1 10 10 1"));
        x.feed(0x08070605, 0x04030201, -1, -1, -1);
        x.end(7);
        borders.due("chain() of 8 7 6 5 4 3 2", x.chain() > 0, true);
        for (int i = 0; i < 7; i++) {
            borders.due("chainAt(" + i + ")", x.chainAt(i), 8 - i);
        }
        // Numbers below 0 have bytes from 128 on.
        TestHelp.book(x, TestHelp.lines("chap", "c", 16, "1 1"));
        x.feed(0xffff0000, 0, 0, 0, 0);
        x.end(2);
        borders.due("ask() of 255 255", x.ask(), 1);
        x.feed(-1, LEAST, MOST, 0, 0);
        x.end(2);
        borders.due("ask() of 255 255", x.ask(), 1);
    }

    private void feedFull() {
        borders.promise(2, "NONE, and none come, if it would have more than 1040.");
        NineReaders x = new NineReaders();
        for (int i = 1; i <= 52; i++) {
            borders.due("feed() number " + i, x.feed(0, 0, 0, 0, 0), 20 * i);
        }
        borders.due("feed() behind 1040", x.feed(1, 1, 1, 1, 1), -1);
        borders.due("count(5)", x.count(5), 1040);
        for (int n : new int[] {1039, 1030, 1021}) {
            borders.due("end(" + n + ")", x.end(n), true);
            borders.due("feed() behind " + n, x.feed(1, 1, 1, 1, 1), -1);
            borders.due("count(5)", x.count(5), n);
        }
        borders.due("end(1020)", x.end(1020), true);
        borders.due("feed() behind 1020", x.feed(1, 1, 1, 1, 1), 1040);
        // None came: the text on the tape is as it was.
        TestHelp.put(x, TestHelp.padded("speed 9;", 1000) + " ".repeat(21));
        borders.due("feed() behind 1021", x.feed(-1, -1, -1, -1, -1), -1);
        x.end(1000);
        borders.due("book()", x.book(), 1);
        borders.due("count(3)", x.count(3), 9);
    }

    private void end() {
        borders.promise(3, "The tape has its first n bytes alone: true; false, if it has not so many, or n is below 0.");
        NineReaders x = new NineReaders();
        borders.due("end(0) of none", x.end(0), true);
        borders.due("end(1) of none", x.end(1), false);
        borders.due("end(-1) of none", x.end(-1), false);
        x.feed(0, 0, 0, 0, 0);
        for (int n : new int[] {21, -1, LEAST, MOST}) {
            borders.due("end(" + n + ") of 20", x.end(n), false);
            borders.due("count(5) behind it", x.count(5), 20);
        }
        borders.due("end(20) of 20", x.end(20), true);
        borders.due("count(5) behind it", x.count(5), 20);
        borders.due("end(19) of 20", x.end(19), true);
        borders.due("count(5) behind it", x.count(5), 19);
        borders.due("end(20) of 19", x.end(20), false);
        borders.due("end(0) of 19", x.end(0), true);
        borders.due("count(5) behind it", x.count(5), 0);
        // What is behind the end is gone; what comes now stands in its place.
        TestHelp.put(x, "speed 99;again 9;");
        x.end(9);
        borders.due("book() of the first 9", x.book(), 1);
        borders.due("count(3)", x.count(3), 99);
        TestHelp.put(x, "speed 99;");
        x.end(6);
        x.feed(0x373b2020, 0x20202020, 0x20202020, 0x20202020, 0x20202020);
        borders.due("book() of the first 6 and 7;", x.book(), 1);
        borders.due("count(3)", x.count(3), 7);
    }

    private void book() {
        borders.promise(4, "is the BOOK now: how many LINES; -1 less the place of a FAULT: it stays.");
        NineReaders x = withAll();
        borders.due("book() of a FAULT at 0", TestHelp.book(x, ";"), -1);
        borders.due("book() of a FAULT at 9", TestHelp.book(x, "speed 55;x"), -10);
        borders.due("book() of a FAULT behind CHAPS and READERS", TestHelp.book(x, "chap q 1 1;who z 1 1 1 1;again 3;chap q"), -39);
        borders.due("count(0)", x.count(0), 3);
        borders.due("count(1)", x.count(1), 2);
        borders.due("count(2)", x.count(2), 2);
        borders.due("count(3)", x.count(3), 10);
        borders.due("count(4)", x.count(4), 5);
        borders.due("chap(0, 0)", x.chap(0, 0), 40);
        borders.due("leans(2, 1)", x.leans(2, 1), 2);
        borders.due("reader(0, 0)", x.reader(0, 0), 10);
        borders.due("said()", x.said(), 1);
        borders.due("plan() with its NAMES", TestHelp.plan(x, "y reads c;"), 1);
        borders.due("plan() with NAMES of the FAULTS", TestHelp.plan(x, "z reads q;"), -1);
        borders.due("book()", TestHelp.book(x, "chap q 1 1;"), 1);
        borders.due("count(0)", x.count(0), 1);
        borders.due("count(1)", x.count(1), 0);
        borders.due("count(3)", x.count(3), 20);
        borders.due("book() of all LINES", TestHelp.book(x, TestHelp.lines("chap", "c", 16, "1 1")
            + TestHelp.lines("who", "r", 9, "1 1 1 1") + "speed 1;again 1;"), 27);
        borders.due("book() of none", TestHelp.book(x, ""), 0);
        borders.due("count(0)", x.count(0), 0);
    }

    private void emptyThen() {
        borders.promise(4, "The tape (empty then, here and below, whatever is answered)");
        NineReaders x = withAll();
        String[] texts = {"", "x reads a;", "x reads", "read a", "x reads d;", "speed 0;", "\u0000\u0001", "\u0000", "\u0000\u0009"};
        for (String text : texts) {
            for (int call = 0; call < 6; call++) {
                NineReaders y = withAll();
                TestHelp.put(y, text);
                long answer = answer(y, call);
                borders.due("count(5) behind call " + call + " of " + text + " with " + answer, y.count(5), 0);
            }
        }
        TestHelp.put(x, 0, 1);
        borders.due("net(0)", x.net(0), -2);
        borders.due("count(5)", x.count(5), 0);
        TestHelp.put(x, 0, 1);
        borders.due("net(1)", x.net(1), -1);
        borders.due("count(5)", x.count(5), 0);
        // Other calls leave the tape.
        x.feed(1, 2, 3, 4, 5);
        x.make(0, 0);
        x.drawn(5, 5);
        x.run();
        x.best(1, 1);
        x.cut(1, 1);
        x.alone(0, 0);
        x.ill(0, 0, 0);
        x.image(0);
        x.restore(0);
        borders.due("count(5) behind other calls", x.count(5), 20);
    }

    private static long answer(NineReaders x, int call) {
        switch (call) {
            case 0: return x.book();
            case 1: return x.plan();
            case 2: return x.sentence();
            case 3: return x.net(999);
            case 4: return x.chain();
            default: return x.ask();
        }
    }

    private void fault() {
        borders.promise(5, "The kind of the FAULT of the latest book(), plan() or sentence(); 0 without one and ahead of any.");
        NineReaders x = new NineReaders();
        borders.due("ahead of any", x.fault(), 0);
        x.feed(0, 0, 0, 0, 0);
        x.net(1);
        borders.due("ahead of any, behind net()", x.fault(), 0);
        TestHelp.book(x, "speed 0;");
        borders.due("book(), 2", x.fault(), 2);
        net(x, 1, 9);
        chain(x, 9);
        ask(x, 9);
        x.make(9, 9);
        borders.due("behind other calls that are refused", x.fault(), 2);
        TestHelp.book(x, BOOK);
        borders.due("book(), none", x.fault(), 0);
        TestHelp.plan(x, "z");
        borders.due("plan(), 3", x.fault(), 3);
        TestHelp.sentence(x, "read a");
        borders.due("sentence(), none", x.fault(), 0);
        TestHelp.sentence(x, "not ".repeat(9));
        borders.due("sentence(), 4", x.fault(), 4);
        TestHelp.plan(x, "");
        borders.due("plan(), none", x.fault(), 0);
        TestHelp.book(x, ".");
        borders.due("book(), 1", x.fault(), 1);
        TestHelp.book(x, "");
        borders.due("book() of nothing", x.fault(), 0);
        TestHelp.sentence(x, "");
        borders.due("sentence() of nothing", x.fault(), 1);
    }

    private void chap() {
        borders.promise(6, "Of CHAP c: 0 PAGES, 1 WORTH, 2 must (1, 0), 3 how many it leans on. NoSuchElementException: no such ones.");
        NineReaders x = withAll();
        int[][] due = {{40, 100, 0, 0}, {30, 50, 0, 1}, {25, 200, 1, 2}};
        for (int c = 0; c < 3; c++) {
            for (int what = 0; what < 4; what++) {
                borders.due("chap(" + c + ", " + what + ")", x.chap(c, what), due[c][what]);
            }
            int of = c;
            for (int what : new int[] {-1, 4, LEAST, MOST}) {
                borders.dueNone("chap(" + c + ", " + what + ")", () -> x.chap(of, what));
            }
        }
        for (int c : new int[] {-1, 3, 15, 16, LEAST, MOST}) {
            borders.dueNone("chap(" + c + ", 0)", () -> x.chap(c, 0));
            borders.dueNone("chap(" + c + ", 9)", () -> x.chap(c, 9));
        }
        NineReaders full = TestHelp.withBook(TestHelp.lines("chap", "c", 15, "1 1") + "chap d 999 0 must;");
        borders.due("chap(15, 0)", full.chap(15, 0), 999);
        borders.due("chap(15, 1)", full.chap(15, 1), 0);
        borders.due("chap(15, 2)", full.chap(15, 2), 1);
        borders.due("chap(15, 3)", full.chap(15, 3), 0);
        NineReaders few = TestHelp.withBook(TestHelp.lines("chap", "c", 14, "1 1") + "chap d 1 1 on cb 1;chap e 1 1 on ca 9 on cn 1;");
        borders.due("chap(14, 3)", few.chap(14, 3), 1);
        borders.due("chap(15, 3)", few.chap(15, 3), 2);
        borders.dueNone("chap(16, 0)", () -> full.chap(16, 0));
    }

    private void leans() {
        borders.promise(7, "By how many tenths CHAP c leans on d; 0: not; NONE: no such ones.");
        NineReaders x = withAll();
        int[][] due = {{0, 0, 0}, {4, 0, 0}, {1, 2, 0}};
        for (int c = 0; c < 3; c++) {
            for (int d = 0; d < 3; d++) {
                borders.due("leans(" + c + ", " + d + ")", x.leans(c, d), due[c][d]);
            }
            for (int d : new int[] {-1, 3, 15, 16, LEAST, MOST}) {
                borders.due("leans(" + c + ", " + d + ")", x.leans(c, d), -1);
                borders.due("leans(" + d + ", " + c + ")", x.leans(d, c), -1);
            }
        }
        NineReaders ten = TestHelp.withBook("chap a 1 1;chap b 1 1 on a 10;");
        borders.due("leans(1, 0) by ten", ten.leans(1, 0), 10);
        TestHelp.book(ten, "chap a 1 1;chap b 1 1;");
        borders.due("leans(1, 0) in the next BOOK", ten.leans(1, 0), 0);
        TestHelp.book(ten, "chap a 1 1;chap b 1 1;");
        borders.due("leans(1, 0) in the BOOK behind it", ten.leans(1, 0), 0);
    }

    private void reader() {
        borders.promise(8, "Of READER r: 0 PACE, 1 TELL, 2 KEEP, 3 TIME, 4 skips. NoSuchElementException: no such ones.");
        NineReaders x = withAll();
        int[][] due = {{10, 8, 5, 10, 0}, {5, 10, 10, 8, 2}};
        for (int r = 0; r < 2; r++) {
            for (int what = 0; what < 5; what++) {
                borders.due("reader(" + r + ", " + what + ")", x.reader(r, what), due[r][what]);
            }
            int of = r;
            for (int what : new int[] {-1, 5, LEAST, MOST}) {
                borders.dueNone("reader(" + r + ", " + what + ")", () -> x.reader(of, what));
            }
        }
        for (int r : new int[] {-1, 2, 8, 9, LEAST, MOST}) {
            borders.dueNone("reader(" + r + ", 0)", () -> x.reader(r, 0));
            borders.dueNone("reader(" + r + ", 9)", () -> x.reader(r, 9));
        }
        // TIME is what the BOOK says, also behind a RUN.
        x.run();
        borders.due("reader(0, 3) behind a RUN", x.reader(0, 3), 10);
        NineReaders full = TestHelp.withBook(TestHelp.lines("who", "r", 8, "1 1 1 1") + "who s 99 0 10 240 skips 10;");
        int[] last = {99, 0, 10, 240, 10};
        for (int what = 0; what < 5; what++) {
            borders.due("reader(8, " + what + ")", full.reader(8, what), last[what]);
        }
        borders.dueNone("reader(9, 0)", () -> full.reader(9, 0));
        TestHelp.book(full, TestHelp.lines("who", "r", 9, "1 1 1 1"));
        borders.due("reader(8, 4) in the next BOOK", full.reader(8, 4), 0);
        TestHelp.book(full, TestHelp.lines("who", "r", 9, "1 1 1 1"));
        borders.due("reader(8, 4) in the BOOK behind it", full.reader(8, 4), 0);
    }

    private void plan() {
        borders.promise(9, "The tape is the PLAN now: how many ACTS; -1 less the place of a FAULT: it stays.");
        NineReaders x = withAll();
        borders.due("plan() of a FAULT at 0", TestHelp.plan(x, ";"), -1);
        borders.due("plan() of a FAULT in the second ACT", TestHelp.plan(x, "y reads b;y reads d;"), -19);
        borders.due("count(2)", x.count(2), 2);
        borders.due("act(0, 0)", x.act(0, 0), 0);
        borders.due("act(1, 2)", x.act(1, 2), 4);
        borders.due("all(0)", x.all(0), 180);
        borders.due("plan() of one", TestHelp.plan(x, "y reads b;"), 1);
        borders.due("count(2)", x.count(2), 1);
        borders.due("act(0, 0)", x.act(0, 0), 1);
        borders.dueNone("act(1, 0)", () -> x.act(1, 0));
        borders.due("all(0)", x.all(0), 32);
        borders.due("plan() of none", TestHelp.plan(x, ""), 0);
        borders.due("count(2)", x.count(2), 0);
        borders.due("all(0)", x.all(0), 0);
        // A PLAN may well be WRONG; BOOK and SENTENCE stay.
        borders.due("plan() of an ACT that is WRONG", TestHelp.plan(x, "x tells a 4 to y;"), 1);
        borders.due("run()", x.run(), 0);
        borders.due("said()", x.said(), 0);
    }

    private void make() {
        borders.promise(10, "The PLAN is made by a KIND: how many ACTS; NONE: not as told (it stays). (k counts for nothing in ROWS.)");
        for (int k : new int[] {0, -1, 1, 17, LEAST, MOST}) {
            borders.due("make(0, " + k + ")", withAll().make(0, k), TestHelp.withBook(BOOK).make(0, 5));
        }
        int[][] wrong = {{-1, 1}, {5, 1}, {LEAST, 1}, {MOST, 1}, {1, 0}, {1, 11}, {2, 0}, {2, 17}, {3, 0}, {3, 5}, {4, 0}, {4, 5}};
        for (int[] one : wrong) {
            NineReaders x = withAll();
            String call = "make(" + one[0] + ", " + one[1] + ")";
            borders.due(call, x.make(one[0], one[1]), -1);
            borders.due(call + ", then count(2)", x.count(2), 2);
            borders.due(call + ", then act(1, 2)", x.act(1, 2), 4);
            borders.due(call + ", then all(0)", x.all(0), 180);
        }
        NineReaders x = withAll();
        // x: a 4, b 3, c 3
        borders.due("make(0, 0)", x.make(0, 0), 3);
        borders.due("count(2)", x.count(2), 3);
        borders.due("act(2, 1)", x.act(2, 1), 2);
        borders.due("after(0, 2)", x.after(0, 2), 7);
        borders.due("said()", x.said(), 1);
        // The PLAN that is there counts for nothing.
        borders.due("make(0, 0) once more", x.make(0, 0), 3);
        borders.due("why() ahead of any run()", x.why(), 0);
    }

    private void drawn() {
        borders.promise(11, "The PLAN is DRAWN (n 1 to 60): how many ACTS; NONE: not as told, or fewer than two READERS,"
            + " or no CHAP (it stays).");
        NineReaders x = withAll();
        for (int n : new int[] {0, -1, 61, LEAST, MOST}) {
            borders.due("drawn(" + n + ", 1)", x.drawn(n, 1), -1);
            borders.due("drawn(" + n + ", 1), then count(2)", x.count(2), 2);
            borders.due("drawn(" + n + ", 1), then act(1, 2)", x.act(1, 2), 4);
        }
        for (int n : new int[] {1, 2, 59, 60}) {
            borders.due("drawn(" + n + ", 1)", x.drawn(n, 1), n);
            borders.due("drawn(" + n + ", 1), then count(2)", x.count(2), n);
        }
        NineReaders one = TestHelp.with("chap a 1 1;who x 1 1 1 1;", "x reads a;");
        borders.due("drawn(5, 1) of one READER", one.drawn(5, 1), -1);
        borders.due("count(2)", one.count(2), 1);
        borders.due("drawn(5, 1) of two READERS", TestHelp.withBook("chap a 1 1;who x 1 1 1 1;who y 1 1 1 1;").drawn(5, 1), 5);
        borders.due("drawn(5, 1) of no CHAP", TestHelp.withBook("who x 1 1 1 1;who y 1 1 1 1;").drawn(5, 1), -1);
        borders.due("drawn(5, 1) of no READERS", TestHelp.withBook("chap a 1 1;").drawn(5, 1), -1);
        borders.due("drawn(5, 1) of nothing", new NineReaders().drawn(5, 1), -1);
    }

    private void act() {
        borders.promise(12, "Of ACT i: 0 who, 1 the CHAP, 2 F (0: it READS), 3 who listens, as bits."
            + " NoSuchElementException: no such ones.");
        NineReaders x = TestHelp.with(BOOK + "who z 1 1 1 1;", "z reads c;y tells b 3 to x z;x tells a 1 to z;");
        int[][] due = {{2, 2, 0, 0}, {1, 1, 3, 5}, {0, 0, 1, 4}};
        for (int i = 0; i < 3; i++) {
            for (int what = 0; what < 4; what++) {
                borders.due("act(" + i + ", " + what + ")", x.act(i, what), due[i][what]);
            }
            int of = i;
            for (int what : new int[] {-1, 4, LEAST, MOST}) {
                borders.dueNone("act(" + i + ", " + what + ")", () -> x.act(of, what));
            }
        }
        for (int i : new int[] {-1, 3, 60, 100, LEAST, MOST}) {
            borders.dueNone("act(" + i + ", 0)", () -> x.act(i, 0));
        }
        // ACTS that a RUN does not come to are there as well.
        borders.due("run()", x.run(), 0);
        borders.due("act(2, 0) behind it", x.act(2, 0), 0);
        TestHelp.plan(x, "x reads a;".repeat(60));
        borders.due("act(59, 0) of 60", x.act(59, 0), 0);
        borders.dueNone("act(60, 0) of 60", () -> x.act(60, 0));
    }

    private void run() {
        borders.promise(13, "RUN: the first ACT that is WRONG; NONE: none.");
        String book = "chap a 1 1;who x 1 1 1 2;who y 1 1 1 2;";
        String[] plans = {"", "x reads a;", "x tells a 1 to y;", "x reads a;x reads a;", "x reads a;x reads a;x reads a;",
            "x reads a;y tells a 1 to x;x reads a;x reads a;", "y reads a;x reads a;y reads a;x reads a;y reads a;"};
        int[] due = {-1, -1, 0, -1, 2, 1, 4};
        for (int i = 0; i < plans.length; i++) {
            NineReaders x = TestHelp.with(book, plans[i]);
            borders.due("run() of " + plans[i], x.run(), due[i]);
            borders.due("run() of " + plans[i] + ", again", x.run(), due[i]);
        }
        NineReaders last = TestHelp.with("chap a 1 1;who x 1 1 1 59;", "x reads a;".repeat(60));
        borders.due("run(), the 60th WRONG", last.run(), 59);
        borders.due("run() of 60", TestHelp.with("chap a 1 1;who x 1 1 1 60;", "x reads a;".repeat(60)).run(), -1);
    }

    private void why() {
        borders.promise(14, "Why it was by the latest run(): 1, 2; 0: none was, or ahead of any.");
        NineReaders x = TestHelp.with("chap a 1 1;who x 1 1 1 1;who y 1 1 1 1;", "x tells a 1 to y;");
        borders.due("ahead of any", x.why(), 0);
        x.known(0, 0);
        x.all(0);
        x.extra(0);
        x.ill(0, 0, 0);
        borders.due("ahead of any, behind other calls", x.why(), 0);
        x.run();
        borders.due("2", x.why(), 2);
        TestHelp.plan(x, "x reads a;x reads a;");
        borders.due("2, the PLAN being another", x.why(), 2);
        x.all(0);
        borders.due("2, behind all(0)", x.why(), 2);
        x.run();
        borders.due("1", x.why(), 1);
        TestHelp.book(x, BOOK);
        borders.due("1, the BOOK being another", x.why(), 1);
        x.run();
        borders.due("none was", x.why(), 0);
    }

    private void known() {
        borders.promise(15, "What READER r KNOWS of CHAP c behind the RUN (of the PLAN of now, here and below, also without run());"
            + " NONE: no such ones.");
        NineReaders x = withAll();
        borders.due("known(0, 0) without run()", x.known(0, 0), 1000000);
        borders.due("known(1, 0) without run()", x.known(1, 0), 800000);
        for (int i : new int[] {-1, 3, 9, 16, LEAST, MOST}) {
            borders.due("known(0, " + i + ")", x.known(0, i), -1);
            borders.due("known(" + i + ", 0)", x.known(i, 0), -1);
        }
        borders.due("known(2, 0)", x.known(2, 0), -1);
        borders.due("known(1, 2)", x.known(1, 2), 0);
        x.run();
        // Each call is of the PLAN of now.
        TestHelp.plan(x, "y reads a;");
        borders.due("known(0, 0) of another PLAN", x.known(0, 0), 0);
        borders.due("known(1, 0) of another PLAN", x.known(1, 0), 800000);
        borders.due("after(0, 2) of another PLAN", x.after(0, 2), 0);
        borders.due("all(0) of another PLAN", x.all(0), 80);
        borders.due("extra(1) of another PLAN", x.extra(1), 0);
        borders.due("said() of another PLAN", x.said(), 2);
        x.make(0, 0);
        borders.due("known(0, 0) of a PLAN that is made", x.known(0, 0), 1000000);
        // The draws of seed 0 are 48, 13884438 and 10945575: x READS a.
        x.drawn(1, 0);
        borders.due("after(0, 2) of a PLAN that is drawn", x.after(0, 2), 1);
        TestHelp.book(x, BOOK);
        borders.due("known(0, 0) of no PLAN", x.known(0, 0), 0);
    }

    private void after() {
        borders.promise(16, "Behind the RUN of READER r: 0 QUARTERS left, 1 KNOWN in all, 2 CHAPS READ, as bits, 3 TOLD, as bits."
            + " NONE: no such ones.");
        NineReaders x = TestHelp.with(BOOK, "x reads a;x tells a 4 to y;x reads b;y reads c;");
        // x: 4, 4 and 2 that are left; b takes 3, so the RUN is over
        int[][] due = {{2, 100, 1, 0}, {4, 80, 0, 1}};
        for (int r = 0; r < 2; r++) {
            for (int what = 0; what < 4; what++) {
                borders.due("after(" + r + ", " + what + ")", x.after(r, what), due[r][what]);
            }
            for (int what : new int[] {-1, 4, LEAST, MOST}) {
                borders.due("after(" + r + ", " + what + ")", x.after(r, what), -1);
            }
        }
        for (int r : new int[] {-1, 2, 9, LEAST, MOST}) {
            borders.due("after(" + r + ", 0)", x.after(r, 0), -1);
        }
        // Without ACTS all TIME is left; sixteen CHAPS are sixteen bits.
        NineReaders full = TestHelp.withBook(TestHelp.lines("chap", "c", 16, "1 1") + "who x 1 10 9 240;who y 1 9 9 240;");
        borders.due("after(0, 0) without ACTS", full.after(0, 0), 240);
        full.make(3, 4);
        borders.due("after(0, 2) of all", full.after(0, 2), 65535);
        borders.due("after(1, 3) of all", full.after(1, 3), 65535);
        borders.due("after(0, 3) of all", full.after(0, 3), 0);
        borders.due("after(1, 2) of all", full.after(1, 2), 0);
        // What is READ and TOLD, too, is both.
        TestHelp.plan(full, "x reads ca;y reads ca;x tells ca 4 to y;");
        borders.due("after(1, 2)", full.after(1, 2), 1);
        borders.due("after(1, 3)", full.after(1, 3), 1);
    }

    private void allOf() {
        borders.promise(17, "SUM (what 0), SENT (1; NONE without READERS), how many times one has not READ a CHAP that is 'must' (2),"
            + " LACKING, as bits (3). NONE: another what.");
        NineReaders x = withAll();
        int[] due = {180, 0, 2, 6};
        for (int what = 0; what < 4; what++) {
            borders.due("all(" + what + ")", x.all(what), due[what]);
        }
        for (int what : new int[] {-1, 4, LEAST, MOST}) {
            borders.due("all(" + what + ")", x.all(what), -1);
        }
        NineReaders none = TestHelp.withBook("chap a 1 1 must;");
        int[] without = {0, -1, 0, 1};
        for (int what = 0; what < 4; what++) {
            borders.due("all(" + what + ") without READERS", none.all(what), without[what]);
        }
        borders.due("all(1) of one READER without CHAPS", TestHelp.withBook("who x 1 1 1 1;").all(1), 0);
        String musts = TestHelp.lines("chap", "c", 16, "1 1 must") + TestHelp.lines("who", "r", 9, "9 9 9 99");
        borders.due("all(2) of all", TestHelp.withBook(musts).all(2), 144);
        borders.due("all(2), one READ", TestHelp.with(musts, "ri reads cp;").all(2), 143);
        borders.due("all(2), READ twice", TestHelp.with(musts, "ri reads cp;ri reads cp;").all(2), 143);
        borders.due("all(2), TOLD", TestHelp.with(musts, "ri reads cp;ri tells cp 4 to all;").all(2), 143);
        borders.due("all(2), READ with nothing KNOWN", TestHelp.with("chap a 1 1 must;who x 1 1 1 1 skips 10;", "x reads a;").all(2), 0);
        borders.due("all(2), no musts", TestHelp.withBook("chap a 1 1;who x 1 1 1 1;").all(2), 0);
    }

    private void best() {
        borders.promise(18, "BEST: the SUM; NONE: not as told.");
        NineReaders x = withAll();
        int[][] wrong = {{0, 1}, {-1, 1}, {4, 1}, {7, 1}, {1, 0}, {1, -1}, {1, 3}, {1, 5}, {LEAST, 1}, {MOST, 1}, {1, LEAST}, {1, MOST}};
        for (int[] one : wrong) {
            borders.due("best(" + one[0] + ", " + one[1] + ")", x.best(one[0], one[1]), -1);
        }
        // x READS a, 100; y is told 800000 of it
        borders.due("best(1, 1)", x.best(1, 1), 100);
        borders.due("best(1, 2)", x.best(1, 2), 180);
        borders.due("best(3, 1)", x.best(3, 1), 350);
        borders.due("the PLAN stays", x.count(2), 2);
        borders.due("best() of nothing", new NineReaders().best(1, 1), -1);
        String most = TestHelp.lines("chap", "c", 6, "1 999") + TestHelp.lines("who", "r", 4, "9 10 10 240");
        borders.due("best(6, 4)", TestHelp.withBook(most).best(6, 4), 6 * 4 * 999);
    }

    private void bestOf() {
        borders.promise(19, "Who READS CHAP c by the latest best() that was not NONE; NONE: nobody, no such one of its m, or ahead of any.");
        NineReaders x = TestHelp.withBook("chap a 5 9;chap b 1 8;chap c 1 7;who x 1 9 9 1;who y 1 9 9 1;");
        borders.due("ahead of any", x.bestOf(0), -1);
        x.best(9, 9);
        borders.due("ahead of any that was not NONE", x.bestOf(0), -1);
        x.best(3, 2);
        int[] due = {-1, 0, 1};
        for (int c = 0; c < 3; c++) {
            borders.due("bestOf(" + c + ")", x.bestOf(c), due[c]);
        }
        for (int c : new int[] {-1, 3, 6, 16, LEAST, MOST}) {
            borders.due("bestOf(" + c + ")", x.bestOf(c), -1);
        }
        x.best(4, 2);
        x.best(3, 3);
        borders.due("bestOf(2) behind NONE", x.bestOf(2), 1);
        x.best(2, 2);
        borders.due("bestOf(1) of m 2", x.bestOf(1), 0);
        borders.due("bestOf(2) of m 2", x.bestOf(2), -1);
        TestHelp.book(x, "");
        borders.due("bestOf(1), the BOOK being another", x.bestOf(1), 0);
    }

    private void cut() {
        borders.promise(20, "CUT: the least N; NONE: it can't be; -2: not as told.");
        NineReaders x = withAll();
        borders.due("cut(1, 95)", x.cut(1, 95), 0);
        borders.due("cut(1, 94)", x.cut(1, 94), -1);
        borders.due("cut(2, 70)", x.cut(2, 70), 3);
        borders.due("cut(3, 40)", x.cut(3, 40), 7);
        borders.due("cut(3, 39)", x.cut(3, 39), -1);
        borders.due("cut(4, 999)", x.cut(4, 999), -1);
        borders.due("cut(9, 999)", x.cut(9, 999), -1);
        borders.due("cut(9, 1)", x.cut(9, 1), -1);
        TestHelp.book(x, "chap a 5 1;chap b 5 1 on a 9;");
        borders.due("cut(2, 5) of a smaller BOOK", x.cut(2, 5), 9);
        borders.due("cut(1, 10) of a smaller BOOK", x.cut(1, 10), 0);
        borders.due("cut(3, 10) of a smaller BOOK", x.cut(3, 10), -1);
        int[][] wrong = {{0, 5}, {-1, 5}, {10, 5}, {1, 0}, {1, -1}, {1, 1000}, {LEAST, 5}, {MOST, 5}, {1, LEAST}, {1, MOST}, {10, 1000}};
        for (int[] one : wrong) {
            borders.due("cut(" + one[0] + ", " + one[1] + ")", x.cut(one[0], one[1]), -2);
        }
    }

    private void cutAt() {
        borders.promise(21, "The last CHAP of the i-th STRETCH by the latest cut() that was 0 or above;"
            + " NONE: there is none such, or ahead of any.");
        NineReaders x = withAll();
        borders.due("ahead of any", x.cutAt(0), -1);
        x.cut(1, 1);
        x.cut(0, 1);
        borders.due("ahead of any that was 0 or above", x.cutAt(0), -1);
        // a b | c would be too long: a | b c
        x.cut(2, 55);
        borders.due("cutAt(0)", x.cutAt(0), 0);
        borders.due("cutAt(1)", x.cutAt(1), 2);
        for (int i : new int[] {-1, 2, 9, LEAST, MOST}) {
            borders.due("cutAt(" + i + ")", x.cutAt(i), -1);
        }
        x.cut(3, 1);
        x.cut(10, 1);
        borders.due("cutAt(1) behind NONE and -2", x.cutAt(1), 2);
        x.cut(1, 999);
        borders.due("cutAt(0), 0 being the least N", x.cutAt(0), 2);
        borders.due("cutAt(1), one STRETCH", x.cutAt(1), -1);
        TestHelp.book(x, "");
        borders.due("cutAt(0), the BOOK being another", x.cutAt(0), 2);
    }

    private void net() {
        borders.promise(22, "NET, the tape's bytes being CHAPS (unlike): the least N; NONE: it can't be; -2: not as told (P 1 to 9999).");
        NineReaders x = withAll();
        borders.due("net(55) of a b c", net(x, 55, 0, 1, 2), 5);
        borders.due("net(54) of a b c", net(x, 54, 0, 1, 2), -1);
        borders.due("net(9999) of a b c", net(x, 9999, 0, 1, 2), 3);
        borders.due("net(10000) of a b c", net(x, 10000, 0, 1, 2), -2);
        borders.due("net(1) of a b c", net(x, 1, 0, 1, 2), -1);
        borders.due("net(0) of a b c", net(x, 0, 0, 1, 2), -2);
        borders.due("net(-1) of a b c", net(x, -1, 0, 1, 2), -2);
        borders.due("net(MOST) of a b c", net(x, MOST, 0, 1, 2), -2);
        borders.due("net(LEAST) of a b c", net(x, LEAST, 0, 1, 2), -2);
        borders.due("net(99) of a b b", net(x, 99, 0, 1, 1), -2);
        borders.due("net(99) of a b a", net(x, 99, 0, 1, 0), -2);
        borders.due("net(99) of a and no CHAP", net(x, 99, 0, 3), -2);
        borders.due("net(99) of no CHAP and a", net(x, 99, 3, 0), -2);
        borders.due("net(99) of a and 255", net(x, 99, 0, 255), -2);
        borders.due("net(99) of a and 32", net(x, 99, 0, 32), -2);
        borders.due("net(99) of a", net(x, 99, 0), -2);
        borders.due("net(99) of none", net(x, 99), -2);
    }

    private void netSide() {
        borders.promise(23, "The side without the last told one by the latest net() that was 0 or above, as bits by places; NONE ahead of any.");
        NineReaders x = withAll();
        borders.due("ahead of any", x.netSide(), -1);
        net(x, 1, 0, 1);
        net(x, 0, 0, 1);
        borders.due("ahead of any that was 0 or above", x.netSide(), -1);
        net(x, 55, 0, 1, 2);
        borders.due("a b c: a apart", x.netSide(), 1);
        net(x, 99, 2, 1, 0);
        borders.due("c b a: c apart, the first place", x.netSide(), 1);
        net(x, 99, 1, 2, 0);
        borders.due("b c a: c apart, the second place", x.netSide(), 2);
        net(x, 1, 0, 1);
        net(x, 99, 0, 0);
        borders.due("behind NONE and -2", x.netSide(), 2);
        TestHelp.book(x, "");
        borders.due("the BOOK being another", x.netSide(), 2);
    }

    private void chain() {
        borders.promise(24, "CHAIN, the tape's bytes being READERS (unlike): the greatest sum of what all of them KNOW; NONE: not as told.");
        NineReaders x = withAll();
        // x TELLS 8, y KEEPS 10; y TELLS 10, x KEEPS 5
        borders.due("x y", chain(x, 0, 1), 1800000);
        borders.due("y x", chain(x, 1, 0), 1500000);
        int[][] wrong = {{}, {0}, {0, 0}, {1, 1}, {0, 2}, {2, 0}, {0, 255}, {0, 1, 2}, {0, 1, 0}, {0, 32}};
        for (int[] told : wrong) {
            borders.due("chain() of " + told.length + " told ones", chain(x, told), -1);
        }
        borders.due("chain() without READERS", chain(TestHelp.withBook("chap a 1 1;chap b 1 1;"), 0, 1), -1);
    }

    private void chainAt() {
        borders.promise(25, "The i-th READER of it by the latest chain() that was not NONE; NONE: there is none such, or ahead of any.");
        NineReaders x = TestHelp.withBook("who x 1 9 9 1;who y 1 1 1 1;who z 1 9 9 1;");
        borders.due("ahead of any", x.chainAt(0), -1);
        chain(x, 0);
        borders.due("ahead of any that was not NONE", x.chainAt(0), -1);
        chain(x, 0, 1, 2);
        int[] due = {0, 2, 1};
        for (int i = 0; i < 3; i++) {
            borders.due("chainAt(" + i + ")", x.chainAt(i), due[i]);
        }
        for (int i : new int[] {-1, 3, 7, LEAST, MOST}) {
            borders.due("chainAt(" + i + ")", x.chainAt(i), -1);
        }
        chain(x, 0, 1, 1);
        borders.due("chainAt(1) behind NONE", x.chainAt(1), 2);
        chain(x, 1, 2);
        borders.due("chainAt(0) of two", x.chainAt(0), 1);
        borders.due("chainAt(1) of two", x.chainAt(1), 2);
        borders.due("chainAt(2) of two", x.chainAt(2), -1);
        TestHelp.book(x, "");
        borders.due("chainAt(1), the BOOK being another", x.chainAt(1), 2);
    }

    private void alone() {
        borders.promise(26, "ALONE: the WORTH (what 0), the CHAPS as bits (1); NONE: no such ones.");
        NineReaders x = withAll();
        // x has time for all; y for b or c alone with 8 and 6 of 8: c
        borders.due("alone(0, 0)", x.alone(0, 0), 350);
        borders.due("alone(0, 1)", x.alone(0, 1), 7);
        borders.due("alone(1, 0)", x.alone(1, 0), 200);
        borders.due("alone(1, 1)", x.alone(1, 1), 4);
        for (int i : new int[] {-1, 2, 9, LEAST, MOST}) {
            borders.due("alone(" + i + ", 0)", x.alone(i, 0), -1);
            borders.due("alone(" + i + ", 1)", x.alone(i, 1), -1);
            borders.due("alone(0, " + i + ")", x.alone(0, i), -1);
        }
        borders.due("alone(0, 0) without READERS", new NineReaders().alone(0, 0), -1);
        // What a RUN takes counts for nothing.
        borders.due("after(0, 0)", x.after(0, 0), 2);
        borders.due("alone(0, 0) behind it", x.alone(0, 0), 350);
    }

    private void leave() {
        borders.promise(27, "LEAVE OUT: the WORTH (what 0), the CHAPS as bits (1). NONE: another what, or no READERS.");
        NineReaders x = withAll();
        borders.due("leave(0)", x.leave(0), 0);
        borders.due("leave(1)", x.leave(1), 0);
        for (int what : new int[] {-1, 2, LEAST, MOST}) {
            borders.due("leave(" + what + ")", x.leave(what), -1);
        }
        // In the next BOOKS, what was strongly leaned on ahead and the quick ones are gone.
        TestHelp.book(x, "chap a 9 5;chap b 1 1 on a 9;who x 1 1 1 9;who y 9 1 1 0;");
        borders.due("leave(0) with a quick one", x.leave(0), 0);
        TestHelp.book(x, "chap a 9 5;chap b 1 7;who x 1 1 1 8;");
        borders.due("leave(0)", x.leave(0), 5);
        borders.due("leave(1)", x.leave(1), 1);
        TestHelp.book(x, "chap a 9 5;who x 1 1 1 8;");
        borders.due("leave(0)", x.leave(0), 5);
        borders.due("leave(1)", x.leave(1), 1);
        NineReaders none = TestHelp.withBook("chap a 9 5;");
        borders.due("leave(0) without READERS", none.leave(0), -1);
        borders.due("leave(1) without READERS", none.leave(1), -1);
        NineReaders empty = TestHelp.withBook("who x 1 1 1 0;");
        borders.due("leave(0) without CHAPS", empty.leave(0), 0);
        borders.due("leave(1) without CHAPS", empty.leave(1), 0);
    }

    private void extra() {
        borders.promise(28, "EXTRA: by how much SUM grows (what 0), the READER (1), the CHAP (2); NONE: there is none, another what.");
        NineReaders x = withAll();
        // x has 2 left: none; y has 4: none (b takes 6, c takes 5)
        for (int what : new int[] {0, 1, 2, 3, -1, LEAST, MOST}) {
            borders.due("extra(" + what + ") without time", x.extra(what), -1);
        }
        TestHelp.plan(x, "x reads a;");
        // c with LACK 200000: 900000 of 200
        int[] due = {180, 0, 2, -1, -1, -1, -1};
        int[] whats = {0, 1, 2, 3, -1, LEAST, MOST};
        for (int i = 0; i < whats.length; i++) {
            borders.due("extra(" + whats[i] + ")", x.extra(whats[i]), due[i]);
        }
        borders.due("all(0) behind it", x.all(0), 100);
        borders.due("count(2) behind it", x.count(2), 1);
    }

    private void ask() {
        borders.promise(29, "ASKED, the tape's pairs of bytes being sets of CHAPS (the higher one first): how many;"
            + " NONE: they do not have all LACKING ones; -2: not as told.");
        NineReaders x = withAll();
        // b and c are LACKING.
        borders.due("b c", ask(x, 0, 6), 1);
        borders.due("a b c", ask(x, 0, 7), 1);
        borders.due("b, c", ask(x, 0, 2, 0, 4), 2);
        borders.due("b", ask(x, 0, 2), -1);
        borders.due("a", ask(x, 0, 1), -1);
        borders.due("no CHAP at all", ask(x, 0, 0), -1);
        borders.due("a fourth CHAP", ask(x, 0, 8), -2);
        borders.due("a fourth CHAP beside", ask(x, 0, 6, 0, 8), -2);
        borders.due("a ninth CHAP", ask(x, 1, 6), -2);
        borders.due("the lower one first", ask(x, 6, 0), -2);
        borders.due("none told", ask(x), -2);
        borders.due("half a pair", ask(x, 0), -2);
        borders.due("a pair and a half", ask(x, 0, 6, 0), -2);
        borders.due("ten", ask(x, 0, 6, 0, 6, 0, 6, 0, 6, 0, 6, 0, 6, 0, 6, 0, 6, 0, 6, 0, 6), 1);
        borders.due("ten and a half", ask(x, 0, 6, 0, 6, 0, 6, 0, 6, 0, 6, 0, 6, 0, 6, 0, 6, 0, 6, 0, 6, 0), -2);
        borders.due("eleven", ask(x, 0, 6, 0, 6, 0, 6, 0, 6, 0, 6, 0, 6, 0, 6, 0, 6, 0, 6, 0, 6, 0, 6), -2);
        NineReaders nine = TestHelp.withBook(TestHelp.lines("chap", "c", 9, "1 1"));
        borders.due("nine CHAPS", ask(nine, 1, 255), 1);
        borders.due("a tenth CHAP", ask(nine, 3, 255), -2);
        x.make(0, 0);
        borders.due("none LACKING", ask(x, 0, 1), 0);
    }

    private void asked() {
        borders.promise(30, "Which of them by the latest ask() that was 0 or above, as bits by places; NONE ahead of any.");
        NineReaders x = withAll();
        borders.due("ahead of any", x.asked(), -1);
        ask(x, 0, 2);
        ask(x);
        borders.due("ahead of any that was 0 or above", x.asked(), -1);
        ask(x, 0, 2, 0, 1, 0, 4);
        borders.due("the first and the third", x.asked(), 5);
        ask(x, 0, 2);
        ask(x, 0, 8);
        borders.due("behind NONE and -2", x.asked(), 5);
        x.make(0, 0);
        ask(x, 0, 2);
        borders.due("none, 0 being how many", x.asked(), 0);
        ask(TestHelp.withBook(BOOK), 0, 7);
        TestHelp.book(x, BOOK);
        borders.due("the BOOK being another", x.asked(), 0);
        ask(x, 0, 0, 0, 0, 0, 0, 0, 0, 0, 0, 0, 0, 0, 0, 0, 0, 0, 0, 0, 7);
        borders.due("the tenth", x.asked(), 512);
    }

    private void seen() {
        borders.promise(31, "SEEN of a READER for x: how many questions; NONE: 300 are too few; -2: not as told.");
        NineReaders x = withAll();
        borders.due("seen(0, 1)", x.seen(0, 1), 0);
        borders.due("seen(0, 2), who skips nothing", x.seen(0, 2), -1);
        borders.due("seen(0, 1000000)", x.seen(0, 1000000), -1);
        // y skips 2: 0.8 to the 3rd is 0.512, to the 4th 0.4096; to the 62nd just below 10^-6
        borders.due("seen(1, 1)", x.seen(1, 1), 0);
        borders.due("seen(1, 2)", x.seen(1, 2), 4);
        borders.due("seen(1, 1000000)", x.seen(1, 1000000), 62);
        int[][] wrong = {{-1, 1}, {2, 1}, {9, 1}, {LEAST, 1}, {MOST, 1}, {0, 0}, {1, 0}, {1, -1}, {1, 1000001}, {1, LEAST}, {1, MOST}};
        for (int[] one : wrong) {
            borders.due("seen(" + one[0] + ", " + one[1] + ")", x.seen(one[0], one[1]), -2);
        }
        borders.due("seen(0, 1) without READERS", new NineReaders().seen(0, 1), -2);
    }

    private void ill() {
        borders.promise(32, "ILL: the SUM (what 0), how many ACTS are dropped (1), who HELPS (2; NONE: nobody else is there),"
            + " the SUM then (3; NONE likewise). The PLAN stays. NONE: no such READER, ACT (0 to how many there are), what.");
        NineReaders x = withAll();
        int[][] due = {{0, 0, 0, 2, 1, 80}, {0, 1, 100, 1, 1, 100}, {0, 2, 180, 0, 1, 180}, {1, 0, 100, 1, 0, 100},
            {1, 1, 100, 1, 0, 100}, {1, 2, 180, 0, 0, 180}};
        for (int[] one : due) {
            for (int what = 0; what < 4; what++) {
                borders.due("ill(" + one[0] + ", " + one[1] + ", " + what + ")", x.ill(one[0], one[1], what), one[2 + what]);
            }
        }
        int[][] wrong = {{-1, 0, 0}, {2, 0, 0}, {9, 0, 0}, {0, -1, 0}, {0, 3, 0}, {0, 0, -1}, {0, 0, 4}, {LEAST, 0, 0}, {MOST, 0, 0},
            {0, LEAST, 0}, {0, MOST, 0}, {0, 0, LEAST}, {0, 0, MOST}};
        for (int[] one : wrong) {
            String call = "ill(" + one[0] + ", " + one[1] + ", " + one[2] + ")";
            borders.due(call, x.ill(one[0], one[1], one[2]), -1);
        }
        borders.due("count(2) behind it", x.count(2), 2);
        borders.due("act(1, 3) behind it", x.act(1, 3), 2);
        borders.due("all(0) behind it", x.all(0), 180);
        borders.due("run() behind it", x.run(), -1);
        NineReaders one = TestHelp.with("chap a 1 7;who x 1 1 1 1;", "x reads a;");
        int[][] alone = {{0, 1, -1, -1}, {7, 0, -1, -1}};
        for (int act = 0; act < 2; act++) {
            for (int what = 0; what < 4; what++) {
                borders.due("ill(0, " + act + ", " + what + ") of one READER", one.ill(0, act, what), alone[act][what]);
            }
        }
        borders.due("ill(0, 0, 0) without READERS", new NineReaders().ill(0, 0, 0), -1);
        TestHelp.plan(x, "x reads a;".repeat(60));
        borders.due("ill(1, 60, 1) of 60 ACTS", x.ill(1, 60, 1), 58);
        borders.due("ill(0, 59, 1) of 60 ACTS", x.ill(0, 59, 1), 58);
        borders.due("ill(1, 61, 1) of 60 ACTS", x.ill(1, 61, 1), -1);
    }

    private void sentence() {
        borders.promise(33, "The tape is the SENTENCE now: how many ONES (each not, bracket and other one);"
            + " -1 less the place of a FAULT: it stays.");
        String[] texts = {"read a", "not read a", "(read a)", "not (read a)", "read a or told b", "read a and (not told b or left<3)",
            "((read a) or not not (told b and knows c > 5)) and total=1 or count=3"};
        int[] ones = {1, 2, 2, 3, 2, 5, 10};
        for (int i = 0; i < texts.length; i++) {
            borders.due("sentence() of " + texts[i], TestHelp.sentence(withAll(), texts[i]), ones[i]);
        }
        NineReaders x = withAll();
        borders.due("sentence() of a FAULT at 0", TestHelp.sentence(x, ";"), -1);
        borders.due("sentence() of a FAULT at 9", TestHelp.sentence(x, "not read q"), -10);
        borders.due("sentence() of a FAULT behind good ONES", TestHelp.sentence(x, "not read a or told b or"), -24);
        borders.due("said()", x.said(), 1);
        borders.due("sentence() of another", TestHelp.sentence(x, "not read a"), 2);
        borders.due("said()", x.said(), 2);
        borders.due("sentence() of no bytes", x.sentence(), -1);
        borders.due("said()", x.said(), 2);
        borders.due("count(2)", x.count(2), 2);
    }

    private void said() {
        borders.promise(34, "The READERS of whom it may be said, as bits; NONE: there is no SENTENCE.");
        NineReaders x = TestHelp.with(BOOK, "x reads a;");
        borders.due("no SENTENCE", x.said(), -1);
        TestHelp.sentence(x, "read");
        borders.due("no SENTENCE but one with a FAULT", x.said(), -1);
        TestHelp.sentence(x, "read a");
        borders.due("read a", x.said(), 1);
        TestHelp.sentence(x, "not read a");
        borders.due("not read a", x.said(), 2);
        TestHelp.sentence(x, "read a or left>0");
        borders.due("read a or left>0", x.said(), 3);
        TestHelp.sentence(x, "read b");
        borders.due("read b", x.said(), 0);
        TestHelp.book(x, BOOK);
        borders.due("no SENTENCE any more", x.said(), -1);
    }

    private void image() {
        borders.promise(35, "BOOK, PLAN and SENTENCE are kept in place k (0, 1): true; false: no such one.");
        NineReaders x = withAll();
        for (int k : new int[] {-1, 2, LEAST, MOST}) {
            borders.due("image(" + k + ")", x.image(k), false);
        }
        borders.due("restore(0), nothing being kept", x.restore(0), false);
        borders.due("restore(1), nothing being kept", x.restore(1), false);
        borders.due("image(0)", x.image(0), true);
        borders.due("restore(1), nothing being kept there", x.restore(1), false);
        TestHelp.book(x, "chap q 7 7;who z 7 7 7 7;");
        borders.due("image(1)", x.image(1), true);
        TestHelp.book(x, "");
        borders.due("restore(0)", x.restore(0), true);
        borders.due("count(0) of 0", x.count(0), 3);
        borders.due("count(2) of 0", x.count(2), 2);
        borders.due("said() of 0", x.said(), 1);
        borders.due("restore(1)", x.restore(1), true);
        borders.due("count(0) of 1", x.count(0), 1);
        borders.due("count(2) of 1", x.count(2), 0);
        borders.due("said() of 1", x.said(), -1);
        // Kept anew, what was kept there is gone; the other place is as it was.
        borders.due("image(0) anew", x.image(0), true);
        TestHelp.book(x, "");
        borders.due("restore(0) anew", x.restore(0), true);
        borders.due("count(0) of 0 anew", x.count(0), 1);
        borders.due("image(-1)", x.image(-1), false);
        borders.due("restore(1)", x.restore(1), true);
        borders.due("reader(0, 0) of 1", x.reader(0, 0), 7);
    }

    private void restore() {
        borders.promise(36, "They are as kept in place k (the tape, and what other calls told last, stays):"
            + " true; false: no such one, or nothing is kept there.");
        NineReaders x = withAll();
        x.image(1);
        TestHelp.book(x, "speed 99;who z 9 9 9 9;");
        for (int k : new int[] {-1, 0, 2, LEAST, MOST}) {
            borders.due("restore(" + k + ")", x.restore(k), false);
            borders.due("count(3) behind it", x.count(3), 99);
        }
        borders.due("restore(1)", x.restore(1), true);
        int[] counts = {3, 2, 2, 10, 5, 0};
        for (int what = 0; what < counts.length; what++) {
            borders.due("count(" + what + ")", x.count(what), counts[what]);
        }
        int[][] chaps = {{40, 100, 0, 0}, {30, 50, 0, 1}, {25, 200, 1, 2}};
        for (int c = 0; c < 3; c++) {
            for (int what = 0; what < 4; what++) {
                borders.due("chap(" + c + ", " + what + ")", x.chap(c, what), chaps[c][what]);
            }
        }
        borders.due("leans(2, 1)", x.leans(2, 1), 2);
        borders.due("reader(1, 4)", x.reader(1, 4), 2);
        borders.due("act(1, 3)", x.act(1, 3), 2);
        borders.due("known(1, 0)", x.known(1, 0), 800000);
        borders.due("said()", x.said(), 1);
        // Twice the same; what is done meanwhile does not change what is kept.
        TestHelp.plan(x, "y reads b;y reads c;y reads a;");
        TestHelp.sentence(x, "told b or total=7");
        borders.due("restore(1) once more", x.restore(1), true);
        borders.due("count(2)", x.count(2), 2);
        int[][] acts = {{0, 0, 0, 0}, {0, 0, 4, 2}};
        for (int i = 0; i < 2; i++) {
            for (int what = 0; what < 4; what++) {
                borders.due("act(" + i + ", " + what + ")", x.act(i, what), acts[i][what]);
            }
        }
        borders.due("said()", x.said(), 1);
        borders.due("NAMES are kept", TestHelp.plan(x, "y reads c;"), 1);
        borders.due("NAMES are kept", TestHelp.plan(x, "z reads c;"), -1);
        restoreSentences();
        restoreFull();
    }

    private void restoreFull() {
        String chaps = TestHelp.lines("chap", "c", 15, "7 8 must") + "chap d 9 10 on co 3 on ca 4;";
        String readers = TestHelp.lines("who", "r", 8, "1 2 3 4 skips 5") + "who s 6 7 8 9 skips 10;";
        NineReaders x = TestHelp.with(chaps + readers, "s reads d;".repeat(60));
        String sentence = "told ca or ".repeat(17) + "not told d";
        borders.due("sentence() of 19 ONES", TestHelp.sentence(x, sentence), 19);
        x.image(0);
        x.image(1);
        TestHelp.book(x, "");
        TestHelp.book(x, "chap a 1 1;chap b 1 1 on a 1;");
        borders.due("restore(1) of a full BOOK", x.restore(1), true);
        borders.due("chap(15, 0)", x.chap(15, 0), 9);
        borders.due("chap(14, 2)", x.chap(14, 2), 1);
        borders.due("leans(15, 14)", x.leans(15, 14), 3);
        borders.due("leans(15, 0)", x.leans(15, 0), 4);
        borders.due("leans(1, 0)", x.leans(1, 0), 0);
        borders.due("reader(8, 4)", x.reader(8, 4), 10);
        borders.due("reader(7, 3)", x.reader(7, 3), 4);
        borders.due("count(2)", x.count(2), 60);
        borders.due("act(59, 0)", x.act(59, 0), 8);
        borders.due("act(59, 1)", x.act(59, 1), 15);
        borders.due("said()", x.said(), 511);
        x.make(3, 1);
        x.image(0);
        int acts = x.count(2);
        x.make(0, 0);
        borders.due("restore(0)", x.restore(0), true);
        borders.due("count(2) of a PLAN that was made", x.count(2), acts);
    }

    /** x KNOWS all of a, y 800000 of it; x has 2 left, y 4. */
    private void restoreSentences() {
        String[] texts = {"read a", "told a", "knows a > 79", "knows a < 99", "knows a = 80", "total = 80", "left < 4", "count < 1",
            "not (told a or read a)", "knows a > 80 and left = 2", "left = 4 or left = 2"};
        int[] due = {1, 2, 3, 2, 2, 2, 1, 2, 0, 1, 3};
        String[] others = {"told b", "left = 999", "read c and knows b = 3 or total < 2"};
        for (int i = 0; i < texts.length; i++) {
            for (String other : others) {
                NineReaders x = withAll();
                TestHelp.sentence(x, texts[i]);
                x.image(0);
                TestHelp.sentence(x, other);
                x.image(1);
                TestHelp.sentence(x, other);
                borders.due("restore(0) with " + texts[i], x.restore(0), true);
                borders.due("said() of " + texts[i] + " behind " + other, x.said(), due[i]);
            }
        }
    }

    private void restoreLeaves() {
        NineReaders x = withAll();
        x.image(0);
        TestHelp.book(x, "chap a 1 5;chap b 1 5;who x 1 1 1 1;who y 1 1 1 1;");
        TestHelp.plan(x, "x tells a 1 to y;");
        x.run();
        x.best(2, 2);
        x.cut(2, 1);
        net(x, 1, 0, 1);
        chain(x, 1, 0);
        ask(x, 0, 3);
        TestHelp.sentence(x, "read c");
        x.feed(1, 2, 3, 4, 5);
        borders.due("restore(0)", x.restore(0), true);
        borders.due("count(5)", x.count(5), 20);
        borders.due("fault()", x.fault(), 3);
        borders.due("why()", x.why(), 2);
        borders.due("bestOf(1)", x.bestOf(1), 1);
        borders.due("cutAt(0)", x.cutAt(0), 0);
        borders.due("netSide()", x.netSide(), 1);
        borders.due("chainAt(0)", x.chainAt(0), 1);
        borders.due("asked()", x.asked(), 1);
        borders.due("run()", x.run(), -1);
        borders.due("why() behind run()", x.why(), 0);
    }

    private void count() {
        borders.promise(37, "0 CHAPS, 1 READERS, 2 ACTS, 3 'speed', 4 'again', 5 bytes of the tape. NONE for another what.");
        NineReaders x = withAll();
        x.feed(0, 0, 0, 0, 0);
        int[] due = {3, 2, 2, 10, 5, 20};
        for (int what = 0; what < due.length; what++) {
            borders.due("count(" + what + ")", x.count(what), due[what]);
        }
        for (int what : new int[] {-1, 6, LEAST, MOST}) {
            borders.due("count(" + what + ")", x.count(what), -1);
        }
        TestHelp.book(x, TestHelp.lines("chap", "c", 16, "1 1") + TestHelp.lines("who", "r", 9, "1 1 1 60"));
        TestHelp.plan(x, "ra reads ca;".repeat(58));
        int[] full = {16, 9, 58, 20, 8, 0};
        for (int what = 0; what < full.length; what++) {
            borders.due("count(" + what + ") of much", x.count(what), full[what]);
        }
    }

    private void manyCalls() {
        borders.of("What it is", "An object is used for at most 512 calls after it has been made;");
        NineReaders x = new NineReaders();
        for (int call = 1; call <= 512; call++) {
            borders.due("feed(), call " + call, x.feed(0, 0, 0, 0, 0), call <= 52 ? 20 * call : -1);
        }
        // BOOK: 4 calls, then 508 of others
        NineReaders y = new NineReaders();
        y.feed(0x63686170, 0x20612039, 0x20353b77, 0x686f2078, 0x20312031);
        y.feed(0x20312038, 0x3b202020, 0x20202020, 0x20202020, 0x20202020);
        borders.due("end(), call 3", y.end(25), true);
        borders.due("book() of chap a 9 5;who x 1 1 1 8; call 4", y.book(), 2);
        for (int call = 5; call <= 512; call++) {
            switch (call % 4) {
                case 0:
                    borders.due("leave(0), call " + call, y.leave(0), 5);
                    break;
                case 1:
                    borders.due("make(0, 0), call " + call, y.make(0, 0), 0);
                    break;
                case 2:
                    borders.due("image(0), call " + call, y.image(0), true);
                    break;
                default:
                    borders.due("best(1, 1), call " + call, y.best(1, 1), 0);
                    break;
            }
        }
    }
}

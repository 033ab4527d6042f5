/** Terms, part 2: what READING and TELLING give and take, RUN, a PLAN's text, what is KNOWN in all. */
final class RunBorders {
    private static final String LEANING = "chap a 1 0;chap b 1 0 on a 10;chap c 1 0 on b 5;chap d 1 0 on c 1;chap e 1 0 on d 1;"
        + "chap f 1 0 on e 3;chap g 1 0 on e 4 on f 3;chap h 1 0 on g 1 on f 5;"
        + "who x 9 7 10 99;who y 9 9 7 99 skips 3;who z 9 10 9 99;again 3;";
    private static final String PAIR = "chap a 1 1;chap b 1 1;who x 1 1 1 1;who y 1 1 1 1;";

    private final Borders borders;

    RunBorders(Borders borders) {
        this.borders = borders;
    }

    void all() {
        nothingAtFirst();
        lack();
        order();
        readingTime();
        reading();
        tellingTime();
        gets();
        getsNothing();
        besides();
        wrongTime();
        wrongNothing();
        run();
        planText();
        all60();
        toAll();
        planFaults();
        inAll();
        sent();
    }

    private void known(String book, String plan, int r, int c, int want) {
        borders.due("known(" + r + ", " + c + ") of " + plan + " in " + book, TestHelp.with(book, plan).known(r, c), want);
    }

    private void after(String book, String plan, int r, int what, int want) {
        borders.due("after(" + r + ", " + what + ") of " + plan + " in " + book, TestHelp.with(book, plan).after(r, what), want);
    }

    private void run(String book, String plan, int want, int why) {
        NineReaders x = TestHelp.with(book, plan);
        borders.due("run() of " + plan + " in " + book, x.run(), want);
        borders.due("run() of " + plan + " in " + book + ", then why()", x.why(), why);
    }

    // ---- what is KNOWN

    private void nothingAtFirst() {
        borders.term("==== 2. What a READER KNOWS of a CHAP is told in PARTS of a MILLION, 0 at first.");
        known(LEANING, "", 0, 0, 0);
        known(LEANING, "", 2, 6, 0);
        known(LEANING, "x reads a;", 0, 0, 1000000);
        known(LEANING, "x reads a;", 0, 1, 0);
        known(LEANING, "x reads a;", 1, 0, 0);
        // Each RUN begins with nothing KNOWN.
        NineReaders x = TestHelp.with(LEANING, "x reads a;");
        borders.due("run()", x.run(), -1);
        TestHelp.plan(x, "x reads b;");
        borders.due("known(0, 0) of the PLAN behind it", x.known(0, 0), 0);
        borders.due("known(0, 1) of the PLAN behind it", x.known(0, 1), 500000);
    }

    private void lack() {
        borders.term("LACK of a READER at a CHAP: for each CHAP that it leans on N times what is not KNOWN of that one,"
            + " all added, by 10, cut.");
        // Without what it leans on, LACK at b is a MILLION; with all of it, 0.
        known(LEANING, "x reads b;", 0, 1, 500000);
        known(LEANING, "x reads a;x reads b;", 0, 1, 1000000);
        // What another KNOWS counts for nothing.
        known(LEANING, "y reads a;x reads b;", 0, 1, 500000);
        String upToE = "x reads b;x reads c;x reads d;x reads e;";
        known(LEANING, upToE, 0, 2, 875000);
        known(LEANING, upToE, 0, 3, 993750);
        // 3 times 312 by 10 is 93.6, cut 93; rounded 94 would be 999953.
        known(LEANING, upToE + "x reads f;", 0, 5, 999954);
        // 4 times 312 and 3 times 46 are 1386, by 10 138; each by 10 would be 124 and 13.
        known(LEANING, upToE + "x reads f;x reads g;", 0, 6, 999931);
        // 69 and 5 times 46 are 299, by 10 29, half of it 14; rounded 30 would be 999985.
        known(LEANING, upToE + "x reads f;x reads g;x reads h;", 0, 7, 999986);
        // d leans on c, c on b: what c leans on is no LACK at d.
        known("chap a 1 0;chap b 1 0 on a 10;chap c 1 0 on b 5;who x 9 1 1 9;", "x reads b;x reads c;", 0, 2, 875000);
    }

    private void order() {
        borders.term("A PLAN: ACTS, done one behind the other.");
        known(LEANING, "x reads a;x reads b;", 0, 1, 1000000);
        known(LEANING, "x reads b;x reads a;", 0, 1, 500000);
        known(LEANING, "x reads b;x reads a;x reads b;", 0, 1, 1000000);
        // 500000 is told: TELL 7, KEEP 7, LACK 300000; what x READS behind it counts no more.
        known(LEANING, "x reads b;x tells b 4 to y;x reads a;x reads b;", 1, 1, 0);
        known(LEANING, "y reads a;x reads b;x tells b 4 to y;x reads a;x reads b;", 1, 1, 171500);
    }

    private void readingTime() {
        borders.term("READS: takes PAGES by PACE, cut up, QUARTERS;");
        String[] pages = {"1", "9", "10", "11", "20", "21", "999"};
        int[] takes = {1, 1, 1, 2, 2, 3, 100};
        for (int i = 0; i < pages.length; i++) {
            String chap = "chap a " + pages[i] + " 1;";
            after(chap + "who x 10 1 1 240;", "x reads a;", 0, 0, 240 - takes[i]);
            run(chap + "who x 10 1 1 " + takes[i] + ";", "x reads a;", -1, 0);
            run(chap + "who x 10 1 1 " + (takes[i] - 1) + ";", "x reads a;", 0, 1);
        }
        after("chap a 99 1;who x 99 1 1 240;", "x reads a;", 0, 0, 239);
        after("chap a 100 1;who x 99 1 1 240;", "x reads a;", 0, 0, 238);
        after("chap a 240 1;who x 1 1 1 240;", "x reads a;", 0, 0, 0);
        run("chap a 241 1;who x 1 1 1 240;", "x reads a;", 0, 1);
        // Each time anew, also what is READ already.
        after("chap a 11 1;who x 10 1 1 9;", "x reads a;x reads a;", 0, 0, 5);
    }

    private void reading() {
        borders.term("then of the CHAP is KNOWN a MILLION less half of LACK (cut), times (10 less skips) by 10, cut,"
            + " if that is more than was KNOWN; it is READ.");
        // LACK at e is 625, half of it 312; with skips 3 LACK at d is 32275, half of it 16137, and 688704.1 is cut.
        known(LEANING, "x reads b;x reads c;x reads d;x reads e;", 0, 4, 999688);
        known(LEANING, "y reads b;y reads c;y reads d;", 1, 1, 350000);
        known(LEANING, "y reads b;y reads c;y reads d;", 1, 2, 586250);
        known(LEANING, "y reads b;y reads c;y reads d;", 1, 3, 685519);
        for (int skips = 0; skips <= 10; skips++) {
            known("chap a 1 1;who x 1 1 1 1 skips " + skips + ";", "x reads a;", 0, 0, 1000000 - skips * 100000);
        }
        after("chap a 1 1;who x 1 1 1 1 skips 10;", "x reads a;", 0, 2, 1);
        // y is TOLD F times 200000; reading gives 500000.
        String told = "chap a 4 0;who x 9 10 10 99;who y 9 10 8 99 skips 5;";
        known(told, "x reads a;x tells a 2 to y;y reads a;", 1, 0, 500000);
        known(told, "x reads a;x tells a 3 to y;y reads a;", 1, 0, 600000);
        known(told, "x reads a;x tells a 3 to y;", 1, 0, 600000);
        after(told, "x reads a;x tells a 3 to y;y reads a;", 1, 2, 1);
        after(told, "x reads a;x tells a 3 to y;y reads a;", 1, 3, 1);
        after(told, "x reads a;x tells a 3 to y;", 1, 2, 0);
    }

    private void tellingTime() {
        borders.term("TELLS, with FULLNESS F (1 to 4), to some others: takes PAGES times F by 4 times 'speed', cut up,"
            + " QUARTERS of the one who tells and of each who listens;");
        // PAGES, F, speed, what it takes
        int[][] facts = {{40, 1, 10, 1}, {41, 1, 10, 2}, {39, 1, 10, 1}, {40, 4, 10, 4}, {41, 4, 10, 5}, {40, 3, 10, 3},
            {1, 1, 99, 1}, {99, 4, 99, 1}, {100, 4, 99, 2}, {132, 3, 99, 1}, {133, 3, 99, 2}, {198, 2, 99, 1}, {199, 2, 99, 2},
            {3, 4, 1, 3}, {3, 1, 1, 1}, {5, 1, 1, 2}, {80, 1, 20, 1}, {81, 1, 20, 2}};
        for (int[] fact : facts) {
            String book = "chap a " + fact[0] + " 1;speed " + fact[2] + ";who x 99 10 10 90;who y 1 1 1 9;who z 1 1 1 9;";
            String plan = "x reads a;x tells a " + fact[1] + " to ";
            int reads = fact[0] > 99 ? fact[0] > 198 ? 3 : 2 : 1;
            after(book, plan + "z;", 0, 0, 90 - reads - fact[3]);
            after(book, plan + "z;", 1, 0, 9);
            after(book, plan + "z;", 2, 0, 9 - fact[3]);
            after(book, plan + "all;", 0, 0, 90 - reads - fact[3]);
            after(book, plan + "all;", 1, 0, 9 - fact[3]);
            after(book, plan + "all;", 2, 0, 9 - fact[3]);
        }
    }

    private void gets() {
        borders.term("each who listens GETS what the one who tells KNOWS, times TELL by 10, cut, times F by 4, cut,"
            + " times own KEEP by 10, cut, if the one who tells has not READ it times 'again' by 10, cut,"
            + " times (a MILLION less own LACK) by a MILLION, cut;");
        String upToE = "x reads b;x reads c;x reads d;x reads e;";
        // 999688, TELL 7: 699781.6; F 3: 524835.75; KEEP 7: 367384.5; LACK 100000: 330645.6
        known(LEANING, upToE + "x tells e 3 to y;", 1, 4, 330645);
        // y tells z, KNOWS 551963, TELL 9: 496766.7; KEEP 9: 447089.4; again 3: 134126.7; LACK 100000: 120713.4
        String toY = upToE + "x tells e 3 to y;x tells e 3 to y;";
        known(LEANING, toY + "y tells e 4 to z;", 2, 4, 120713);
        // When y has READ it (LACK 100000: 665000), 'again' counts for nothing: 598500, 538650, 484785.
        known(LEANING, toY + "y reads e;", 1, 4, 665000);
        known(LEANING, toY + "y reads e;y tells e 4 to z;", 2, 4, 484785);
        // F from 1 to 4, of a MILLION
        for (int f = 1; f <= 4; f++) {
            known("chap a 1 1;who x 9 10 9 9;who y 9 9 10 9;", "x reads a;x tells a " + f + " to y;", 1, 0, f * 250000);
        }
        for (int n = 0; n <= 10; n++) {
            String reads = "x reads a;x tells a 4 to y;";
            known("chap a 1 1;who x 9 " + n + " 9 9;who y 9 9 10 9;", reads, 1, 0, n * 100000);
            known("chap a 1 1;who x 9 10 9 9;who y 9 9 " + n + " 9;", reads, 1, 0, n * 100000);
            String book = "chap a 1 1;again " + n + ";who x 9 10 9 9;who y 9 10 10 9;who z 9 9 10 9;";
            known(book, reads + "y tells a 4 to z;", 2, 0, n * 100000);
            known(book, reads, 1, 0, 1000000);
        }
    }

    private void getsNothing() {
        // Nothing comes of it with TELL 0, KEEP 0, again 0 or a LACK of a MILLION; it is TOLD all the same.
        String[] readers = {"who x 9 0 9 9;who y 9 9 10 9;", "who x 9 10 9 9;who y 9 9 0 9;"};
        for (String two : readers) {
            known("chap a 1 1;" + two, "x reads a;x tells a 4 to y;", 1, 0, 0);
            after("chap a 1 1;" + two, "x reads a;x tells a 4 to y;", 1, 3, 1);
        }
        String full = "chap a 1 1;chap b 1 1 on a 10;who x 9 10 9 9;who y 9 9 10 9;";
        known(full, "x reads a;x reads b;x tells b 4 to y;", 1, 1, 0);
        after(full, "x reads a;x reads b;x tells b 4 to y;", 1, 3, 2);
        // LACK of the one who tells counts for nothing, own LACK does.
        known(full, "x reads b;y reads a;x tells b 4 to y;", 1, 1, 500000);
    }

    private void besides() {
        borders.term("then KNOWS, besides what was KNOWN (h), (a MILLION less h) times that by a MILLION, cut; it is TOLD.");
        // 669355 times 330645 by a MILLION is 221318.8
        String upToE = "x reads b;x reads c;x reads d;x reads e;";
        known(LEANING, upToE + "x tells e 3 to y;x tells e 3 to y;", 1, 4, 551963);
        String ninths = "chap a 1 1;who x 9 9 9 99;who y 9 9 10 99;";
        int[] due = {900000, 990000, 999000, 999900, 999990, 999999, 999999, 999999};
        for (int times = 1; times <= due.length; times++) {
            known(ninths, "x reads a;" + "x tells a 4 to y;".repeat(times), 1, 0, due[times - 1]);
        }
        // One who KNOWS all of it stays so, and is TOLD.
        known(ninths, "x reads a;y reads a;x tells a 4 to y;", 1, 0, 1000000);
        after(ninths, "x reads a;y reads a;x tells a 4 to y;", 1, 3, 1);
        after(ninths, "x reads a;y reads a;x tells a 4 to y;", 0, 3, 0);
        after(ninths, "x reads a;y reads a;", 1, 3, 0);
    }

    // ---- WRONG

    private void wrongTime() {
        borders.term("An ACT is WRONG, the least of these: 1 the READER, the one who tells, or one who listens"
            + " has too few QUARTERS left; 2 the one who tells KNOWS nothing of it.");
        // a takes 2 to read and 3 to tell
        String chap = "chap a 30 1;speed 10;who x 15 10 10 ";
        run(chap + "2;", "x reads a;", -1, 0);
        run(chap + "1;", "x reads a;", 0, 1);
        run(chap + "4;", "x reads a;x reads a;", -1, 0);
        run(chap + "3;", "x reads a;x reads a;", 1, 1);
        String tells = "x reads a;x tells a 4 to y z;";
        run(chap + "5;who y 9 9 9 3;who z 9 9 9 3;", tells, -1, 0);
        run(chap + "4;who y 9 9 9 3;who z 9 9 9 3;", tells, 1, 1);
        run(chap + "5;who y 9 9 9 2;who z 9 9 9 3;", tells, 1, 1);
        run(chap + "5;who y 9 9 9 3;who z 9 9 9 2;", tells, 1, 1);
        run(chap + "5;who y 9 9 9 3;who z 9 9 9 0;", "x reads a;x tells a 4 to y;", -1, 0);
    }

    private void wrongNothing() {
        String three = "chap a 1 1;who x 9 10 9 9;who y 9 9 9 9;who z 9 9 9 ";
        run(three + "9;", "x tells a 1 to y;", 0, 2);
        run(three + "9;", "y reads a;x tells a 1 to y;", 1, 2);
        run(three + "9;", "x reads a;x tells a 1 to y;", -1, 0);
        run(three + "9;", "x reads a;x tells a 1 to y;y tells a 1 to z;", -1, 0);
        // Both: the least
        run(three + "0;", "x tells a 1 to z;", 0, 1);
        run(three + "0;", "x tells a 1 to y;", 0, 2);
        run("chap a 1 1;who x 9 10 9 0;who y 9 9 9 9;", "x tells a 1 to y;", 0, 1);
        // READ with skips 10, nothing is KNOWN of it.
        run("chap a 1 1;who x 9 10 9 9 skips 9;who y 9 9 9 9;", "x reads a;x tells a 1 to y;", -1, 0);
        run("chap a 1 1;who x 9 10 9 9 skips 10;who y 9 9 9 9;", "x reads a;x tells a 1 to y;", 1, 2);
        // x tells 100000 on: y KNOWS 250, z one PART, w nothing.
        String last = "chap a 1 1;again 2;who x 9 1 9 9 skips 9;who y 9 1 1 9;who z 9 9 10 9;who w 9 9 9 9;";
        String down = "x reads a;x tells a 1 to y;y tells a 1 to z;z tells a 4 to w;";
        known(last, down, 1, 0, 250);
        known(last, down, 2, 0, 1);
        known(last, down, 3, 0, 0);
        run(last, down, -1, 0);
        run(last, down + "w tells a 4 to x;", 4, 2);
    }

    private void run() {
        borders.term("RUN: all ACTS up to the first that is WRONG.");
        String book = "chap a 1 1;chap b 9 1;who x 1 9 9 3;who y 9 9 9 9;";
        run(book, "", -1, 0);
        run(book, "x reads a;y reads b;", -1, 0);
        run(book, "x reads b;y reads b;", 0, 1);
        run(book, "x reads a;x reads b;y reads b;y reads a;", 1, 1);
        // What stands behind the WRONG one is not done, nor the WRONG one in part.
        after(book, "x reads a;x reads b;y reads b;y reads a;", 0, 0, 2);
        after(book, "x reads a;x reads b;y reads b;y reads a;", 0, 2, 1);
        after(book, "x reads a;x reads b;y reads b;y reads a;", 1, 2, 0);
        after(book, "x reads b;y reads b;", 1, 2, 0);
        String all = "chap a 40 1;speed 10;who x 40 9 9 9;who y 9 9 9 9;who z 9 9 9 0;";
        after(all, "x reads a;x tells a 1 to all;", 1, 0, 9);
        after(all, "x reads a;x tells a 1 to all;", 1, 3, 0);
        after(all, "x reads a;x tells a 1 to all;", 0, 0, 8);
    }

    // ---- a PLAN's text

    private void plan(String book, String text, int acts) {
        NineReaders x = TestHelp.with(book, "y reads b;");
        borders.due("plan() of " + text, TestHelp.plan(x, text), acts);
        borders.due("plan() of " + text + ", then fault()", x.fault(), 0);
        borders.due("plan() of " + text + ", then count(2)", x.count(2), acts);
        borders.due("plan() of " + text + ", then count(5)", x.count(5), 0);
    }

    private void noPlan(String book, String ahead, String at, int fault) {
        NineReaders x = TestHelp.with(book, "y reads b;");
        String call = "plan() of " + ahead + at;
        int who = x.act(0, 0);
        borders.due(call, TestHelp.plan(x, ahead + at), -1 - ahead.length());
        borders.due(call + ", then fault()", x.fault(), fault);
        borders.due(call + ", then count(5)", x.count(5), 0);
        borders.due(call + ", then count(2)", x.count(2), 1);
        borders.due(call + ", then act(0, 0)", x.act(0, 0), who);
        borders.due(call + ", then act(0, 1)", x.act(0, 1), 1);
    }

    private void planText() {
        borders.term("A PLAN's text, of at most 700 bytes: { READER 'reads' CHAP ; |"
            + " READER 'tells' CHAP F 'to' ( 'all' | READER { READER } ) ; }.");
        plan(PAIR, "", 0);
        plan(PAIR, " \n", 0);
        plan(PAIR, "x reads a;", 1);
        plan(PAIR, "x tells a 1 to y;x tells a 4 to all;", 2);
        plan(PAIR, TestHelp.padded("x reads a;", 700), 1);
        plan(PAIR, TestHelp.padded("x reads a", 699) + ";", 1);
        noPlan(PAIR, TestHelp.padded("x reads a;", 700), " ", 1);
        noPlan(PAIR, TestHelp.padded("x reads a", 700), ";", 1);
        noPlan(PAIR, TestHelp.padded("x reads a;", 700), " ".repeat(340), 1);
        noPlan(PAIR, TestHelp.padded("x reads ", 699), "ab;", 3);
        noPlan(PAIR, TestHelp.padded("x reads a;", 699), ";", 1);
        noPlan(PAIR, "x", "", 1);
        noPlan(PAIR, "x ", "a;", 1);
        noPlan(PAIR, "x ", "read a;", 1);
        noPlan(PAIR, "x reads", ";", 1);
        noPlan(PAIR, "x reads a ", "b;", 1);
        noPlan(PAIR, "x reads a", "", 1);
        noPlan(PAIR, "x reads a;", ";", 1);
        noPlan(PAIR, "x tells", ";", 1);
        noPlan(PAIR, "x tells a ", "to y;", 1);
        noPlan(PAIR, "x tells a 1 ", "y;", 1);
        noPlan(PAIR, "x tells a 1 to", ";", 1);
        noPlan(PAIR, "x tells a 1 to y ", "all;", 1);
        noPlan(PAIR, "x tells a 1 to all ", "y;", 1);
        noPlan(PAIR, "x tells a 1 to all ", "all;", 1);
        noPlan(PAIR, "x tells a 1 to y ", "1;", 1);
        noPlan(PAIR, "x tells a 1 to y", "", 1);
    }

    private void all60() {
        String sixty = "x reads a;".repeat(60);
        plan(PAIR, "x reads a;".repeat(59), 59);
        plan(PAIR, sixty, 60);
        plan(PAIR, TestHelp.padded(sixty, 700), 60);
        noPlan(PAIR, TestHelp.padded(sixty, 700), "x", 1);
    }

    private void toAll() {
        borders.term("'all': all others (it can't come where there are none).");
        String one = "chap a 1 1;chap b 1 1;who y 1 1 1 1;";
        noPlan(one, "y tells a 1 to ", "all;", 1);
        noPlan(one, "y tells a 1 to ", "y;", 3);
        plan(PAIR, "y tells a 1 to all;", 1);
        String nine = "chap a 1 1;" + TestHelp.lines("who", "r", 9, "1 1 1 1");
        int[] due = {0b111111110, 0b111111101, 0b111101111, 0b011111111};
        String[] who = {"ra", "rb", "re", "ri"};
        for (int i = 0; i < who.length; i++) {
            NineReaders x = TestHelp.with(nine, who[i] + " tells a 1 to all;");
            borders.due("act(0, 3) of " + who[i] + " of nine", x.act(0, 3), due[i]);
        }
        borders.due("act(0, 3) of the first of two", TestHelp.with(PAIR, "x tells a 1 to all;").act(0, 3), 2);
        borders.due("act(0, 3) of the second of two", TestHelp.with(PAIR, "y tells a 1 to all;").act(0, 3), 1);
    }

    private void planFaults() {
        borders.term("FAULTS: 1; 2; 3 no such NAME, who tells or one told already among who listen (at it);"
            + " 4 a 61st ACT (at its first WORD).");
        noPlan(PAIR, "x reads a;", "5 reads a;", 1);
        noPlan(PAIR, "x reads a;", "all reads a;", 1);
        for (int f = 0; f <= 5; f++) {
            if (f >= 1 && f <= 4) {
                plan(PAIR, "x tells a " + f + " to y;", 1);
            } else {
                noPlan(PAIR, "x tells a ", f + " to y;", 2);
            }
        }
        noPlan(PAIR, "x tells a ", "999 to y;", 2);
        noPlan(PAIR, "x tells a ", "1000 to y;", 1);
        noPlan(PAIR, "", "z reads a;", 3);
        noPlan(PAIR, "", "a reads a;", 3);
        noPlan(PAIR, "x reads ", "c;", 3);
        noPlan(PAIR, "x reads ", "y;", 3);
        noPlan(PAIR, "x tells ", "c 1 to y;", 3);
        noPlan(PAIR, "x tells ", "x 1 to y;", 3);
        noPlan(PAIR, "x tells a 1 to ", "z;", 3);
        noPlan(PAIR, "x tells a 1 to ", "b;", 3);
        noPlan(PAIR, "x tells a 1 to ", "x;", 3);
        noPlan(PAIR, "x tells a 1 to y ", "x;", 3);
        noPlan(PAIR, "x tells a 1 to y ", "y;", 3);
        // All the others, and then one more
        String nine = "chap a 1 1;chap b 1 1;who y 1 1 1 1;" + TestHelp.lines("who", "r", 8, "1 1 1 1");
        String others = "y tells a 1 to ra rb rc rd re rf rg rh";
        plan(nine, others + ";", 1);
        plan(nine, "ra tells a 1 to rh rg rf re rd rc rb y;", 1);
        noPlan(nine, others + " ", "ra;", 3);
        noPlan(nine, others + " ", "rh;", 3);
        noPlan(nine, others + " ", "y;", 3);
        noPlan(nine, others + " ", "ri;", 3);
        String sixty = "x reads a;".repeat(60);
        noPlan(PAIR, sixty + " ", "x reads a;", 4);
        noPlan(PAIR, sixty, "y", 4);
        noPlan(PAIR, "x reads a;".repeat(59) + "x tells a ", "5 to y;x reads a;", 2);
    }

    // ---- in all

    private void inAll() {
        borders.term("KNOWN in all by a READER: WORTH times what is KNOWN by a MILLION, cut, CHAP by CHAP, added.");
        String half = "who x 9 9 9 9 skips 5;";
        after("chap a 1 1;" + half, "x reads a;", 0, 1, 0);
        after("chap a 1 2;" + half, "x reads a;", 0, 1, 1);
        after("chap a 1 3;" + half, "x reads a;", 0, 1, 1);
        after("chap a 1 1;chap b 1 1;" + half, "x reads a;x reads b;", 0, 1, 0);
        after("chap a 1 3;chap b 1 3;" + half, "x reads a;x reads b;", 0, 1, 2);
        after("chap a 1 999;who x 9 9 9 9;", "x reads a;", 0, 1, 999);
        after("chap a 1 0;who x 9 9 9 9;", "x reads a;", 0, 1, 0);
        String chaps = TestHelp.lines("chap", "c", 16, "1 999");
        borders.due("after(0, 1) of all CHAPS of the most WORTH",
            made(chaps + "who x 9 9 9 240;").after(0, 1), 16 * 999);
        borders.term("SUM: of all READERS.");
        borders.due("all(0) without READERS", TestHelp.withBook("chap a 1 9;").all(0), 0);
        borders.due("all(0)", TestHelp.with("chap a 1 3;" + half + "who y 9 9 9 9 skips 5;", "x reads a;y reads a;").all(0), 2);
        borders.due("all(0) of all", TestHelp.with("chap a 1 999;" + TestHelp.lines("who", "r", 9, "1 10 10 9"),
            "ri reads a;ri tells a 4 to all;").all(0), 9 * 999);
    }

    private static NineReaders made(String book) {
        NineReaders x = TestHelp.withBook(book);
        x.make(0, 0);
        return x;
    }

    private void sent() {
        borders.term("SENT: the READER who KNOWS most in all (of like ones the least).");
        String book = "chap a 1 5;chap b 1 6;" + TestHelp.lines("who", "r", 9, "9 9 9 9");
        borders.due("all(1), nobody KNOWS a thing", TestHelp.withBook(book).all(1), 0);
        borders.due("all(1), one does", TestHelp.with(book, "ri reads a;").all(1), 8);
        borders.due("all(1), two do", TestHelp.with(book, "ri reads a;rc reads a;").all(1), 2);
        borders.due("all(1), one more", TestHelp.with(book, "rc reads a;ri reads b;").all(1), 8);
        borders.due("all(1), less than 1 counts not", TestHelp.with("chap a 1 1;who x 9 9 9 9;who y 9 9 9 9 skips 1;",
            "y reads a;").all(1), 0);
    }
}

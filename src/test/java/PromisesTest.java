/** Each promise by its number: ordinary inputs, the edges that the document names, wrong inputs. */
public final class PromisesTest {
    private static final TestHelp HELP = new TestHelp();
    private static final int LEAST = Integer.MIN_VALUE;
    private static final int MOST = Integer.MAX_VALUE;
    private static final String BOOK = "chap aa 40 100;chap bb 30 50 on aa 4;chap cc 25 200 must;"
        + "who xx 10 8 5 10;who yy 5 10 10 8 skips 2;speed 10;again 5;";

    public static void main(String[] args) {
        newObject();
        feedAndEnd();
        factsOfTheBook();
        actsOfPlans();
        kinds();
        drawnPlans();
        runs();
        tellingWithLoss();
        bests();
        cuts();
        nets();
        chains();
        setsOfChaps();
        extras();
        questions();
        unseen();
        illness();
        sentences();
        images();
        counts();
        HELP.finish();
    }

    private static NineReaders withBook(String text) {
        NineReaders x = new NineReaders();
        if (TestHelp.book(x, text) < 0) {
            throw new IllegalStateException("a wrong book in a test: " + text);
        }
        return x;
    }

    private static NineReaders with(String book, String plan) {
        NineReaders x = withBook(book);
        if (TestHelp.plan(x, plan) < 0) {
            throw new IllegalStateException("a wrong plan in a test: " + plan);
        }
        return x;
    }

    private static void newObject() {
        NineReaders x = new NineReaders();
        HELP.due("1: NONE", NineReaders.NONE, -1);
        int[] counts = {0, 0, 0, 20, 8, 0};
        for (int what = 0; what < counts.length; what++) {
            HELP.due("1: count " + what, x.count(what), counts[what]);
        }
        HELP.due("1: fault", x.fault(), 0);
        HELP.due("1: why", x.why(), 0);
        HELP.due("1: run", x.run(), -1);
        HELP.due("1: said", x.said(), -1);
        HELP.due("1: book of nothing", x.book(), 0);
        HELP.due("1: plan of nothing", x.plan(), 0);
        HELP.due("1: sentence of nothing", x.sentence(), -1);
    }

    private static void feedAndEnd() {
        NineReaders x = new NineReaders();
        for (int i = 1; i <= 52; i++) {
            HELP.due("2: feed", x.feed(1, 2, 3, 4, 5), 20 * i);
        }
        HELP.due("2: feed above 1040", x.feed(1, 2, 3, 4, 5), -1);
        HELP.due("2: nothing came", x.count(5), 1040);
        HELP.due("3: end(1041)", x.end(1041), false);
        HELP.due("3: end(-1)", x.end(-1), false);
        HELP.due("3: end(least)", x.end(LEAST), false);
        HELP.due("3: end(1040)", x.end(1040), true);
        HELP.due("3: end(1021)", x.end(1021), true);
        HELP.due("2: feed above 1040", x.feed(0, 0, 0, 0, 0), -1);
        HELP.due("3: end(1020)", x.end(1020), true);
        HELP.due("2: feed to 1040", x.feed(0, 0, 0, 0, 0), 1040);
        HELP.due("3: end(3)", x.end(3), true);
        HELP.due("3: end(4)", x.end(4), false);
        HELP.due("3: count", x.count(5), 3);
        HELP.due("3: end(0)", x.end(0), true);
        // The highest byte comes first, from numbers below 0 as well.
        x.feed('a' << 24 | 'g' << 16 | 'a' << 8 | 'i', 'n' << 24 | ' ' << 16 | '3' << 8 | ';', -1, -1, -1);
        HELP.due("2: a wrong byte at 8", x.book(), -9);
        x.feed('a' << 24 | 'g' << 16 | 'a' << 8 | 'i', 'n' << 24 | ' ' << 16 | '3' << 8 | ';', 0, 0, 0);
        HELP.due("3: end(8)", x.end(8), true);
        HELP.due("4: book", x.book(), 1);
        HELP.due("37: again", x.count(4), 3);
        // What was cut off the tape is gone: "24" is no "249", which would be a FAULT of its own.
        TestHelp.put(x, "who x 1 1 1 249;");
        HELP.due("3: end(14)", x.end(14), true);
        HELP.due("4: the end of the text", x.book(), -15);
        HELP.due("5: fault", x.fault(), 1);
    }

    private static void factsOfTheBook() {
        NineReaders x = withBook(BOOK);
        int[][] chaps = {{40, 100, 0, 0}, {30, 50, 0, 1}, {25, 200, 1, 0}};
        for (int c = 0; c < 3; c++) {
            for (int what = 0; what < 4; what++) {
                HELP.due("6: chap " + c + " " + what, x.chap(c, what), chaps[c][what]);
            }
        }
        int[][] readers = {{10, 8, 5, 10, 0}, {5, 10, 10, 8, 2}};
        for (int r = 0; r < 2; r++) {
            for (int what = 0; what < 5; what++) {
                HELP.due("8: reader " + r + " " + what, x.reader(r, what), readers[r][what]);
            }
        }
        int[] wrong = {-1, LEAST, MOST, 16, 9};
        for (int i : wrong) {
            HELP.dueNone("6: chap " + i + " 0", () -> x.chap(i, 0));
            HELP.dueNone("6: chap 0 " + i, () -> x.chap(0, i));
            HELP.dueNone("8: reader " + i + " 0", () -> x.reader(i, 0));
            HELP.dueNone("8: reader 0 " + i, () -> x.reader(0, i));
            HELP.due("7: leans", x.leans(i, 0), -1);
            HELP.due("7: leans", x.leans(0, i), -1);
        }
        HELP.dueNone("6: chap 3 0", () -> x.chap(3, 0));
        HELP.dueNone("6: chap 0 4", () -> x.chap(0, 4));
        HELP.dueNone("8: reader 2 0", () -> x.reader(2, 0));
        HELP.dueNone("8: reader 0 5", () -> x.reader(0, 5));
        HELP.due("7: leans 1 0", x.leans(1, 0), 4);
        HELP.due("7: leans 0 1", x.leans(0, 1), 0);
        HELP.due("7: leans 1 1", x.leans(1, 1), 0);
        HELP.due("7: leans 3 0", x.leans(3, 0), -1);
        HELP.due("7: leans 0 3", x.leans(0, 3), -1);
        NineReaders y = withBook("chap a 1 1;chap b 1 1;chap c 1 1 on b 3 on a 7;chap d 1 1;");
        HELP.due("6: chap 2 3", y.chap(2, 3), 2);
        HELP.due("7: leans 2 0", y.leans(2, 0), 7);
        HELP.due("7: leans 2 1", y.leans(2, 1), 3);
        // What an earlier BOOK leaned on is gone.
        TestHelp.book(y, "chap a 1 1;chap b 1 1;chap c 1 1 on b 1;");
        TestHelp.book(y, "chap a 1 1;chap b 1 1;chap c 1 1 on b 2;");
        HELP.due("7: leans 2 0 anew", y.leans(2, 0), 0);
        HELP.due("7: leans 2 1 anew", y.leans(2, 1), 2);
        HELP.due("6: count of CHAPS", y.count(0), 3);
    }

    private static void actsOfPlans() {
        NineReaders x = withBook(BOOK + "who zz 1 1 1 1;");
        HELP.due("9: plan", TestHelp.plan(x, "xx reads cc;yy tells bb 3 to all;yy tells aa 1 to zz;"), 3);
        int[][] acts = {{0, 2, 0, 0}, {1, 1, 3, 5}, {1, 0, 1, 4}};
        for (int i = 0; i < 3; i++) {
            for (int what = 0; what < 4; what++) {
                HELP.due("12: act " + i + " " + what, x.act(i, what), acts[i][what]);
            }
        }
        int[] wrong = {-1, LEAST, MOST, 100, 3 + 1};
        for (int i : wrong) {
            HELP.dueNone("12: act " + i, () -> x.act(i, 0));
            HELP.dueNone("12: act 0 " + i, () -> x.act(0, i));
        }
        HELP.dueNone("12: act 3 0", () -> x.act(3, 0));
        HELP.due("9: a PLAN of no ACTS", TestHelp.plan(x, ""), 0);
        HELP.due("9: count of ACTS", x.count(2), 0);
        HELP.dueNone("12: act 0 0", () -> x.act(0, 0));
    }

    private static void dueActs(String name, NineReaders x, int answered, int[][] acts) {
        HELP.due(name + " acts", answered, acts.length);
        HELP.due(name + " count", x.count(2), acts.length);
        for (int i = 0; i < acts.length && i < answered; i++) {
            for (int what = 0; what < 4; what++) {
                int want = what < acts[i].length ? acts[i][what] : 0;
                HELP.due(name + " act " + i + " " + what, x.act(i, what), want);
            }
        }
        HELP.due(name + " run", x.run(), -1);
    }

    private static void kinds() {
        NineReaders x = withBook("chap a 20 5;chap b 30 9 on a 3;chap c 10 9;chap d 40 1 on a 5;chap e 10 9;"
            + "who x 10 9 9 4;who y 10 9 9 2;who z 20 9 9 9;speed 40;");
        // x has 4: a (2), not b (3); y has 2: not b; z has 9: b (2), c (1), d (2), e (1)
        int[][] rows = {{0, 0}, {2, 1}, {2, 2}, {2, 3}, {2, 4}};
        dueActs("10: ROWS", x, x.make(0, 0), rows);
        dueActs("10: ROWS, k counts for nothing", x, x.make(0, LEAST), rows);
        // the parts of 4: a d, b, c, e
        dueActs("10: LEAN 4", x, x.make(1, 4), new int[][] {{2, 0}, {2, 3}, {2, 1}, {0, 2}, {2, 4}});
        // the parts of 3: a b d, c, e
        dueActs("10: LEAN 3", x, x.make(1, 3), new int[][] {{2, 0}, {2, 1}, {2, 3}, {0, 2}, {2, 4}});
        dueActs("10: LEAN 6", x, x.make(1, 6), new int[][] {{2, 0}, {2, 1}, {2, 2}, {2, 3}, {0, 4}});
        // behind ROWS x has 2, y 2, z 3; of like WORTH b, c, e, then a
        dueActs("10: TWICE 1", x, x.make(2, 1), rows);
        dueActs("10: TWICE 2", x, x.make(2, 2), new int[][] {{0, 0}, {2, 1}, {2, 2}, {2, 3}, {2, 4}, {0, 2}});
        dueActs("10: TWICE 16", x, x.make(2, 16),
            new int[][] {{0, 0}, {2, 1}, {2, 2}, {2, 3}, {2, 4}, {0, 2}, {1, 4}, {2, 0}});
        // F 4: a takes 1, b 1, c 1, d 1, e 1
        dueActs("10: CHAIN 4", x, x.make(3, 4), new int[][] {{0, 0}, {2, 1}, {2, 2}, {2, 3}, {2, 4},
            {0, 0, 4, 2}, {1, 0, 4, 4}, {2, 1, 4, 1}});
        dueActs("10: ROUND 4", x, x.make(4, 4), new int[][] {{0, 0}, {2, 1}, {2, 2}, {2, 3}, {2, 4},
            {0, 0, 4, 6}, {2, 1, 4, 3}});
        int[][] wrong = {{-1, 1}, {5, 1}, {LEAST, 1}, {MOST, 1}, {1, 0}, {1, 11}, {2, 0}, {2, 17}, {3, 0}, {3, 5},
            {4, 0}, {4, 5}, {1, LEAST}, {2, MOST}, {3, -1}};
        x.make(0, 0);
        for (int[] w : wrong) {
            HELP.due("10: make " + w[0] + " " + w[1], x.make(w[0], w[1]), -1);
            HELP.due("10: it stays", x.count(2), 5);
        }
        // A part ends with the first CHAP for which there is no time, even if a later one would fit.
        NineReaders y = withBook("chap a 1 1;chap b 90 1 on a 9;chap c 1 1 on b 9;chap d 1 1;who x 9 1 1 3;");
        dueActs("10: LEAN ends a part", y, y.make(1, 9), new int[][] {{0, 0}, {0, 3}});
        dueActs("10: ROWS end", y, y.make(0, 0), new int[][] {{0, 0}});
        dueActs("10: CHAIN of one READER", y, y.make(3, 1), new int[][] {{0, 0}});
        dueActs("10: ROUND of one READER", y, y.make(4, 1), new int[][] {{0, 0}});
        NineReaders none = withBook("chap a 1 1;");
        for (int kind = 0; kind < 5; kind++) {
            dueActs("10: no READERS " + kind, none, none.make(kind, 1), new int[][] {});
        }
        mostActs();
    }

    private static void mostActs() {
        StringBuilder text = new StringBuilder();
        for (int c = 0; c < 16; c++) {
            text.append("chap c").append((char) ('a' + c)).append(" 1 9;");
        }
        for (int r = 0; r < 9; r++) {
            text.append("who r").append((char) ('a' + r)).append(" 9 10 10 240;");
        }
        NineReaders x = withBook(text.toString());
        HELP.due("10: 100 ACTS at most", x.make(3, 4), 100);
        // 16 readings, 8 tellings of each of ten CHAPS, 4 of the eleventh
        HELP.due("10: the last ACT's CHAP", x.act(99, 1), 10);
        HELP.due("10: the last ACT's teller", x.act(99, 0), 3);
        HELP.due("10: the last ACT's listener", x.act(99, 3), 16);
        HELP.dueNone("10: act 100", () -> x.act(100, 0));
        HELP.due("13: none is WRONG", x.run(), -1);
        HELP.due("32: ill ahead of the last", x.ill(3, 99, 1), 1);
        HELP.due("32: ill behind all", x.ill(3, 100, 1), 0);
        HELP.due("32: ill beyond", x.ill(3, 101, 1), -1);
        // A PLAN of 100 ACTS is kept whole.
        HELP.due("35: image", x.image(1), true);
        TestHelp.book(x, "");
        HELP.due("36: restore", x.restore(1), true);
        HELP.due("36: the last ACT's teller", x.act(99, 0), 3);
    }

    private static void drawnPlans() {
        NineReaders x = withBook(BOOK);
        HELP.due("11: drawn", x.drawn(60, 1), 60);
        // seed 0: x becomes 12345; (12345 >>> 8) % 2 = 48 % 2
        HELP.due("11: drawn 1", x.drawn(1, 0), 1);
        HELP.due("11: who", x.act(0, 0), 0);
        int second = 12345 * 1103515245 + 12345;
        int third = second * 1103515245 + 12345;
        HELP.due("11: the CHAP", x.act(0, 1), (second >>> 8) % 3);
        HELP.due("11: reads", x.act(0, 2) == 0, (third >>> 8) % 4 != 0);
        int[] wrong = {0, -1, 61, LEAST, MOST};
        for (int n : wrong) {
            HELP.due("11: drawn " + n, x.drawn(n, 5), -1);
            HELP.due("11: it stays", x.count(2), 1);
        }
        HELP.due("11: one READER", withBook("chap a 1 1;who x 1 1 1 1;").drawn(1, 1), -1);
        HELP.due("11: no CHAP", withBook("who x 1 1 1 1;who y 1 1 1 1;").drawn(1, 1), -1);
    }

    private static void runs() {
        NineReaders x = with(BOOK, "xx reads aa;xx tells aa 4 to all;yy reads bb;xx reads cc;");
        HELP.due("14: why ahead of any", x.why(), 0);
        HELP.due("15: known also without run", x.known(1, 0), 800000);
        HELP.due("14: why still ahead of any", x.why(), 0);
        HELP.due("13: run", x.run(), 2);
        HELP.due("14: why", x.why(), 1);
        int[][] after = {{2, 100, 1, 0}, {4, 80, 0, 1}};
        for (int r = 0; r < 2; r++) {
            for (int what = 0; what < 4; what++) {
                HELP.due("16: after " + r + " " + what, x.after(r, what), after[r][what]);
            }
        }
        int[] all = {180, 0, 2, 6, -1};
        for (int what = 0; what < all.length; what++) {
            HELP.due("17: all " + what, x.all(what), all[what]);
        }
        for (int i : new int[] {-1, LEAST, MOST, 9, 16}) {
            HELP.due("15: known", x.known(i, 0), -1);
            HELP.due("15: known", x.known(0, i), -1);
            HELP.due("16: after", x.after(i, 0), -1);
            HELP.due("16: after", x.after(0, i), -1);
            HELP.due("17: all", x.all(i), -1);
        }
        HELP.due("15: known 2 0", x.known(2, 0), -1);
        HELP.due("15: known 0 3", x.known(0, 3), -1);
        HELP.due("16: after 2 0", x.after(2, 0), -1);
        HELP.due("16: after 0 4", x.after(0, 4), -1);
        // why() tells of the latest run(), not of the PLAN of now.
        TestHelp.plan(x, "yy tells cc 1 to xx;");
        HELP.due("14: why of the latest run", x.why(), 1);
        HELP.due("13: run", x.run(), 0);
        HELP.due("14: KNOWS nothing", x.why(), 2);
        // Both too few QUARTERS and KNOWS nothing: the least.
        NineReaders y = with("chap a 90 1;who x 1 1 1 1;who y 1 1 1 9;", "x tells a 4 to y;");
        HELP.due("13: run", y.run(), 0);
        HELP.due("14: why, the least", y.why(), 1);
        NineReaders z = with("chap a 20 1;who x 99 1 1 9;who y 1 1 1 0;who z 1 1 1 9;",
            "x reads a;x tells a 4 to z;x tells a 4 to y z;");
        HELP.due("13: one who listens has too few", z.run(), 2);
        HELP.due("14: why", z.why(), 1);
        // SENT: of like ones the least; half a MILLION is not LACKING.
        NineReaders even = with("chap a 1 9;chap b 1 9;who x 1 1 1 9 skips 5;who y 1 1 1 9 skips 5;",
            "y reads a;x reads a;");
        HELP.due("17: SENT", even.all(1), 0);
        HELP.due("15: half a MILLION", even.known(0, 0), 500000);
        HELP.due("17: LACKING", even.all(3), 2);
        NineReaders nobody = withBook("chap a 1 1 must;chap b 1 1;");
        HELP.due("17: SENT without READERS", nobody.all(1), -1);
        HELP.due("17: musts without READERS", nobody.all(2), 0);
        HELP.due("17: LACKING without READERS", nobody.all(3), 3);
    }

    private static void tellingWithLoss() {
        // b leans on a by 7 tenths: LACK 700000, half of it 350000
        String book = "chap a 7 10;chap b 7 100 on a 7;who x 7 9 8 99;who y 7 7 9 99 skips 1;who z 7 10 3 99;again 3;";
        NineReaders x = with(book, "x reads b;");
        HELP.due("15: READ with LACK", x.known(0, 1), 650000);
        x = with(book, "y reads b;");
        HELP.due("15: READ with LACK and skips", x.known(1, 1), 585000);
        x = with(book, "x reads a;x reads b;");
        HELP.due("15: READ without LACK", x.known(0, 1), 1000000);
        // x tells b, F 3: 650000 * 9/10 = 585000, * 3/4 = 438750, y's KEEP 9: 394875, LACK 700000: 118462
        x = with(book, "x reads b;x tells b 3 to y;");
        HELP.due("15: TOLD with LACK", x.known(1, 1), 118462);
        // again: the same besides 118462: 118462 + 881538 * 118462 by a MILLION = 104428
        x = with(book, "x reads b;x tells b 3 to y;x tells b 3 to y;");
        HELP.due("15: TOLD twice", x.known(1, 1), 222890);
        // y tells z what it has not READ: 118462 * 7/10 = 82923, * 4/4, KEEP 3: 24876, again 3: 7462, LACK: 2238
        x = with(book, "x reads b;x tells b 3 to y;y tells b 4 to z;");
        HELP.due("15: TOLD by one who has not READ", x.known(2, 1), 2238);
        HELP.due("16: TOLD", x.after(2, 3), 2);
        HELP.due("16: who tells is not TOLD", x.after(0, 3), 0);
        // What is KNOWN stays if reading gives less.
        x = with("chap a 1 1;who x 9 10 9 9;who y 9 9 10 9 skips 9;", "x reads a;x tells a 4 to y;y reads a;");
        HELP.due("15: KNOWN stays", x.known(1, 0), 1000000);
        HELP.due("16: it is READ", x.after(1, 2), 1);
        // Skips 10: READ, but nothing is KNOWN.
        x = with("chap a 1 1;who x 9 10 9 9 skips 10;who y 9 9 10 9;", "x reads a;x tells a 4 to y;");
        HELP.due("13: who KNOWS nothing tells", x.run(), 1);
        HELP.due("14: why", x.why(), 2);
        HELP.due("16: it is READ", x.after(0, 2), 1);
        // QUARTERS are cut up: 21 by 20 are 2; 21 * 3 by 4 * 20 is 1
        x = with("chap a 21 1;who x 20 10 9 9;who y 9 9 10 9;", "x reads a;x tells a 3 to y;");
        HELP.due("16: QUARTERS left", x.after(0, 0), 6);
        HELP.due("16: QUARTERS left", x.after(1, 0), 8);
    }

    private static void bests() {
        NineReaders x = withBook("chap aa 10 100;who pp 10 10 10 9;who qq 10 5 8 9;who rr 10 10 5 9;");
        HELP.due("19: bestOf ahead of any", x.bestOf(0), -1);
        HELP.due("18: best", x.best(1, 3), 280);
        HELP.due("19: bestOf", x.bestOf(0), 2);
        HELP.due("18: best of one", x.best(1, 1), 100);
        HELP.due("19: bestOf", x.bestOf(0), 0);
        int[][] wrong = {{0, 1}, {2, 1}, {7, 1}, {1, 0}, {1, 4}, {1, 5}, {-1, 1}, {1, LEAST}, {MOST, 1}};
        x.best(1, 3);
        for (int[] w : wrong) {
            HELP.due("18: best " + w[0] + " " + w[1], x.best(w[0], w[1]), -1);
            HELP.due("19: the latest that was not NONE", x.bestOf(0), 2);
        }
        HELP.due("19: bestOf 1", x.bestOf(1), -1);
        HELP.due("19: bestOf -1", x.bestOf(-1), -1);
        HELP.due("19: bestOf most", x.bestOf(MOST), -1);
        TestHelp.book(x, "");
        HELP.due("19: told last stays", x.bestOf(0), 2);
        // Nobody has time: none behind all.
        NineReaders y = withBook("chap a 9 9;chap b 1 0;who x 1 1 1 8;who y 1 1 1 1;");
        HELP.due("18: best", y.best(2, 2), 0);
        HELP.due("19: nobody", y.bestOf(0), -1);
        HELP.due("19: of like ones the lesser READER", y.bestOf(1), 0);
        // All is read ahead of all telling: y reads b with LACK, though x could have told a.
        NineReaders z = withBook("chap a 1 0;chap b 1 100 on a 10;who x 1 10 10 1;who y 1 10 10 1;");
        HELP.due("18: best", z.best(2, 2), 100);
        HELP.due("19: of like ones the first", z.bestOf(0), 0);
        HELP.due("19: of like ones the first", z.bestOf(1), 1);
    }

    private static void cuts() {
        NineReaders x = withBook("chap a 5 1;chap b 5 1 on a 4;chap c 5 1 on a 2 on b 1;chap d 5 1 on c 3;");
        HELP.due("21: cutAt ahead of any", x.cutAt(0), -1);
        HELP.due("20: one STRETCH", x.cut(1, 20), 0);
        HELP.due("21: cutAt 0", x.cutAt(0), 3);
        HELP.due("21: cutAt 1", x.cutAt(1), -1);
        HELP.due("20: too long", x.cut(1, 19), -1);
        // a | b c d: 6; a b | c d: 3; a b c | d: 3
        HELP.due("20: two", x.cut(2, 999), 3);
        HELP.due("21: the lesser ends", x.cutAt(0), 1);
        HELP.due("21: the last", x.cutAt(1), 3);
        // a | b | c d: 7; a | b c | d: 9; a b | c | d: 6: an N over two cuts counts once
        HELP.due("20: three", x.cut(3, 10), 6);
        HELP.due("21: cutAt 0", x.cutAt(0), 1);
        HELP.due("21: cutAt 1", x.cutAt(1), 2);
        HELP.due("20: four", x.cut(4, 5), 10);
        HELP.due("20: more than there are", x.cut(5, 5), -1);
        HELP.due("21: the latest that could be", x.cutAt(3), 3);
        int[][] wrong = {{0, 5}, {10, 5}, {-1, 5}, {1, 0}, {1, 1000}, {LEAST, 5}, {1, MOST}};
        for (int[] w : wrong) {
            HELP.due("20: cut " + w[0] + " " + w[1], x.cut(w[0], w[1]), -2);
        }
        HELP.due("21: the latest that could be", x.cutAt(2), 2);
        HELP.due("21: cutAt -1", x.cutAt(-1), -1);
        HELP.due("21: cutAt 4", x.cutAt(4), -1);
        HELP.due("21: cutAt most", x.cutAt(MOST), -1);
        HELP.due("20: no CHAPS", new NineReaders().cut(1, 1), -1);
        HELP.due("20: no CHAPS, not as told", new NineReaders().cut(0, 1), -2);
    }

    private static int net(NineReaders x, int pages, int... told) {
        TestHelp.put(x, told);
        int answer = x.net(pages);
        HELP.due("22: the tape is empty", x.count(5), 0);
        return answer;
    }

    private static void nets() {
        NineReaders x = withBook("chap a 5 1;chap b 5 1 on a 4;chap c 5 1 on a 2 on b 1;chap d 5 1 on c 3;");
        HELP.due("23: netSide ahead of any", x.netSide(), -1);
        HELP.due("22: net", net(x, 10, 0, 1, 2, 3), 3);
        HELP.due("23: netSide", x.netSide(), 3);
        HELP.due("22: net", net(x, 15, 3, 2, 1, 0), 3);
        HELP.due("23: netSide by places told", x.netSide(), 1);
        HELP.due("22: of both directions", net(x, 9999, 1, 0), 4);
        HELP.due("23: netSide", x.netSide(), 1);
        HELP.due("22: it can't be", net(x, 9, 0, 1, 2, 3), -1);
        HELP.due("22: it can't be", net(x, 4, 0, 1), -1);
        HELP.due("22: not as told", net(x, 0, 0, 1), -2);
        HELP.due("22: not as told", net(x, 10000, 0, 1), -2);
        HELP.due("22: not as told", net(x, LEAST, 0, 1), -2);
        HELP.due("22: not as told", net(x, 5, 0), -2);
        HELP.due("22: not as told", net(x, 5), -2);
        HELP.due("22: like ones", net(x, 5, 1, 1), -2);
        HELP.due("22: no CHAP", net(x, 5, 0, 4), -2);
        HELP.due("22: no CHAP", net(x, 5, 0, 255), -2);
        HELP.due("23: the latest that could be", x.netSide(), 1);
        StringBuilder many = new StringBuilder();
        for (int c = 0; c < 11; c++) {
            many.append("chap c").append((char) ('a' + c)).append(" 999 1;");
        }
        NineReaders y = withBook(many.toString());
        HELP.due("22: ten", net(y, 9999, 0, 1, 2, 3, 4, 5, 6, 7, 8, 9), 0);
        HELP.due("23: the least set", y.netSide(), 1);
        HELP.due("22: eleven", net(y, 9999, 0, 1, 2, 3, 4, 5, 6, 7, 8, 9, 10), -2);
        HELP.due("22: half of ten", net(y, 4995, 0, 1, 2, 3, 4, 5, 6, 7, 8, 9), 0);
        HELP.due("23: the least half", y.netSide(), 31);
        HELP.due("22: less than half of ten", net(y, 4994, 0, 1, 2, 3, 4, 5, 6, 7, 8, 9), -1);
    }

    private static int chain(NineReaders x, int... told) {
        TestHelp.put(x, told);
        int answer = x.chain();
        HELP.due("24: the tape is empty", x.count(5), 0);
        return answer;
    }

    private static void chains() {
        NineReaders x = withBook("who pp 10 10 10 9;who qq 10 5 8 9;who rr 10 10 5 9;");
        HELP.due("25: chainAt ahead of any", x.chainAt(0), -1);
        HELP.due("24: chain", chain(x, 0, 2, 1), 1960000);
        int[] order = {0, 1, 2, -1};
        for (int i = 0; i < order.length; i++) {
            HELP.due("25: chainAt " + i, x.chainAt(i), order[i]);
        }
        HELP.due("24: not as told", chain(x, 0), -1);
        HELP.due("24: not as told", chain(x), -1);
        HELP.due("24: like ones", chain(x, 0, 1, 0), -1);
        HELP.due("24: no READER", chain(x, 0, 3), -1);
        HELP.due("25: the latest that was not NONE", x.chainAt(1), 1);
        HELP.due("25: chainAt -1", x.chainAt(-1), -1);
        HELP.due("25: chainAt least", x.chainAt(LEAST), -1);
        HELP.due("25: chainAt most", x.chainAt(MOST), -1);
        HELP.due("24: two", chain(x, 2, 1), 1800000);
        HELP.due("25: shorter now", x.chainAt(2), -1);
        StringBuilder many = new StringBuilder();
        for (int r = 0; r < 8; r++) {
            many.append("who r").append((char) ('a' + r)).append(" 1 10 10 1;");
        }
        NineReaders y = withBook(many + "again 10;");
        HELP.due("24: seven", chain(y, 6, 5, 4, 3, 2, 1, 0), 7000000);
        HELP.due("25: the first by places told", y.chainAt(1), 5);
        HELP.due("25: the first by places told", y.chainAt(6), 0);
        HELP.due("24: eight", chain(y, 0, 1, 2, 3, 4, 5, 6, 7), -1);
    }

    private static void setsOfChaps() {
        NineReaders x = withBook("chap a 10 7;chap b 10 9 on a 5;chap c 10 20 on b 4;chap d 5 0;who p 10 0 0 2;who q 4 0 0 0;");
        HELP.due("26: alone", x.alone(0, 0), 29);
        HELP.due("26: alone", x.alone(0, 1), 6);
        HELP.due("26: no time", x.alone(1, 0), 0);
        HELP.due("26: no time", x.alone(1, 1), 0);
        // Keeping c and one more takes 2; d takes 1: without d and one of a, b; what leans on a goes with it.
        HELP.due("27: leave", x.leave(0), 9);
        HELP.due("27: leave", x.leave(1), 10);
        for (int i : new int[] {-1, 2, LEAST, MOST}) {
            HELP.due("26: alone " + i, x.alone(i, 0), -1);
            HELP.due("26: alone 0 " + i, x.alone(0, i), -1);
            HELP.due("27: leave " + i, x.leave(i), -1);
        }
        HELP.due("27: no READERS", withBook("chap a 1 1;").leave(0), -1);
        NineReaders y = withBook("chap a 3 5;chap b 3 5;chap c 3 5;chap d 3 0;who p 1 0 0 6;");
        HELP.due("26: of like ones", y.alone(0, 0), 10);
        HELP.due("26: the least set", y.alone(0, 1), 3);
        HELP.due("27: of like ones", y.leave(0), 5);
        HELP.due("27: the least set", y.leave(1), 9);
        // Without CHAPS nothing is left out.
        HELP.due("27: no CHAPS", withBook("who p 1 0 0 6;").leave(0), 0);
        HELP.due("27: no CHAPS", withBook("who p 1 0 0 6;").leave(1), 0);
        // 4 tenths do not count, 5 go on from one to the next.
        NineReaders z = withBook("chap a 9 1;chap b 1 5 on a 5;chap c 1 5 on b 5;chap d 1 9 on a 4;who p 1 0 0 3;");
        HELP.due("27: what leans goes too", z.leave(0), 11);
        HELP.due("27: what leans goes too", z.leave(1), 7);
        // c leans strongly on both a and b: leaving either takes c along.
        NineReaders both = withBook("chap a 1 3;chap b 1 2;chap c 1 9 on a 5 on b 5;who p 1 0 0 2;");
        HELP.due("27: leans on both", both.leave(0), 9);
        HELP.due("27: leans on both", both.leave(1), 4);
        NineReaders slow = withBook("chap a 240 3;chap b 241 2;chap c 240 3;who p 1 0 0 240;");
        HELP.due("26: all the TIME", slow.alone(0, 0), 3);
        HELP.due("26: all the TIME", slow.alone(0, 1), 1);
    }

    private static void extras() {
        NineReaders x = with(BOOK, "yy reads bb;yy tells bb 2 to xx;xx reads cc;");
        HELP.due("28: extra", x.extra(0), 100);
        HELP.due("28: READER", x.extra(1), 0);
        HELP.due("28: CHAP", x.extra(2), 0);
        for (int what : new int[] {-1, 3, LEAST, MOST}) {
            HELP.due("28: extra " + what, x.extra(what), -1);
        }
        NineReaders none = with("chap a 1 1;who x 1 1 1 1;", "x reads a;");
        for (int what = 0; what < 3; what++) {
            HELP.due("28: there is none", none.extra(what), -1);
        }
        NineReaders nothing = with("chap a 1 0;chap b 1 0;who x 1 1 1 0;who y 1 1 1 1;", "");
        HELP.due("28: it grows by nothing", nothing.extra(0), 0);
        HELP.due("28: the least READER with time", nothing.extra(1), 1);
        HELP.due("28: the least CHAP", nothing.extra(2), 0);
        HELP.due("28: the PLAN stays", nothing.after(1, 2), 0);
    }

    private static int ask(NineReaders x, int... bytes) {
        TestHelp.put(x, bytes);
        int answer = x.ask();
        HELP.due("29: the tape is empty", x.count(5), 0);
        return answer;
    }

    private static void questions() {
        StringBuilder many = new StringBuilder();
        for (int c = 0; c < 10; c++) {
            many.append("chap c").append((char) ('a' + c)).append(" 1 1;");
        }
        NineReaders x = with(many + "who x 1 1 1 9;", "x reads ca;");
        HELP.due("30: asked ahead of any", x.asked(), -1);
        HELP.due("29: it can't be", ask(x, 0, 254, 1, 0), -1);
        HELP.due("30: asked ahead of any", x.asked(), -1);
        HELP.due("29: all LACKING", ask(x, 0, 254, 1, 0, 3, 0, 3, 1), 2);
        HELP.due("30: the least set", x.asked(), 5);
        HELP.due("29: one", ask(x, 3, 254), 1);
        HELP.due("30: asked", x.asked(), 1);
        HELP.due("29: no such CHAP", ask(x, 4, 0), -2);
        HELP.due("29: no such CHAP", ask(x, 3, 254, 128, 0), -2);
        HELP.due("29: nothing", ask(x), -2);
        HELP.due("29: half a pair", ask(x, 3, 254, 0), -2);
        int[] ten = new int[20];
        ten[18] = 3;
        ten[19] = 255;
        HELP.due("29: ten", ask(x, ten), 1);
        HELP.due("30: the tenth", x.asked(), 512);
        HELP.due("29: eleven", ask(x, new int[22]), -2);
        HELP.due("30: the latest that was 0 or above", x.asked(), 512);
        // Ten questions of one CHAP each are all needed; then nine.
        NineReaders each = withBook(many + "who x 1 1 1 9;");
        int[] ones = new int[20];
        for (int i = 0; i < 10; i++) {
            ones[2 * i] = 1 << i >> 8;
            ones[2 * i + 1] = 1 << i & 255;
        }
        HELP.due("29: all ten", ask(each, ones), 10);
        HELP.due("30: all ten", each.asked(), 1023);
        TestHelp.plan(each, "x reads cc;");
        HELP.due("29: nine", ask(each, ones), 9);
        HELP.due("30: nine", each.asked(), 1019);
        NineReaders full = with("chap a 1 1;who x 1 1 1 9;", "x reads a;");
        HELP.due("29: none LACKING", ask(full, 0, 1), 0);
        HELP.due("30: none", full.asked(), 0);
        StringBuilder sixteen = new StringBuilder();
        for (int c = 0; c < 16; c++) {
            sixteen.append("chap c").append((char) ('a' + c)).append(" 1 1;");
        }
        NineReaders all = withBook(sixteen.toString());
        HELP.due("29: sixteen CHAPS", ask(all, 255, 0, 0, 255, 255, 255), 1);
        HELP.due("30: the third", all.asked(), 4);
    }

    private static void unseen() {
        NineReaders x = withBook("who a 1 1 1 1;who b 1 1 1 1 skips 5;who c 1 1 1 1 skips 10;who d 1 1 1 1 skips 1;");
        HELP.due("31: by 1 at once", x.seen(0, 1), 0);
        HELP.due("31: never", x.seen(0, 2), -1);
        HELP.due("31: half", x.seen(1, 2), 1);
        HELP.due("31: by 3", x.seen(1, 3), 2);
        HELP.due("31: by 4", x.seen(1, 4), 2);
        HELP.due("31: by 1024", x.seen(1, 1024), 10);
        HELP.due("31: by 1025", x.seen(1, 1025), 11);
        HELP.due("31: by a MILLION", x.seen(1, 1000000), 20);
        HELP.due("31: skips all", x.seen(2, 1000000), 1);
        HELP.due("31: skips all, by 1", x.seen(2, 1), 0);
        // 0.9 to the 131st is just above 10^-6, to the 132nd below it
        HELP.due("31: skips one", x.seen(3, 1000000), 132);
        int[][] wrong = {{-1, 1}, {4, 1}, {9, 1}, {MOST, 1}, {0, 0}, {0, -1}, {0, 1000001}, {0, LEAST}, {0, MOST}};
        for (int[] w : wrong) {
            HELP.due("31: seen " + w[0] + " " + w[1], x.seen(w[0], w[1]), -2);
        }
    }

    private static void illness() {
        NineReaders x = with(BOOK, "yy reads bb;yy tells bb 2 to xx;xx reads cc;");
        int[][] due = {
            {0, 2, 36, 1, 1, 36}, {1, 1, 232, 1, 0, 232}, {0, 1, 32, 2, 1, 32}, {1, 0, 200, 2, 0, 240},
            {0, 3, 236, 0, 1, 236}};
        for (int[] d : due) {
            for (int what = 0; what < 4; what++) {
                HELP.due("32: ill " + d[0] + " " + d[1] + " " + what, x.ill(d[0], d[1], what), d[2 + what]);
            }
        }
        HELP.due("32: the PLAN stays", x.count(2), 3);
        HELP.due("32: the RUN stays", x.all(0), 236);
        int[][] wrong = {{-1, 0, 0}, {2, 0, 0}, {0, -1, 0}, {0, 4, 0}, {0, 0, -1}, {0, 0, 4}, {MOST, 0, 0},
            {0, LEAST, 0}, {0, 0, MOST}};
        for (int[] w : wrong) {
            HELP.due("32: ill " + w[0] + " " + w[1] + " " + w[2], x.ill(w[0], w[1], w[2]), -1);
        }
        NineReaders one = with("chap a 1 5;who x 1 1 1 1;", "x reads a;");
        HELP.due("32: SUM", one.ill(0, 0, 0), 0);
        HELP.due("32: dropped", one.ill(0, 0, 1), 1);
        HELP.due("32: nobody else", one.ill(0, 0, 2), -1);
        HELP.due("32: nobody else", one.ill(0, 0, 3), -1);
        // An ACT that is WRONG is dropped, and those behind it are done.
        NineReaders y = with("chap a 1 5;chap b 1 7;who x 1 9 1 9;who y 1 9 1 9;who z 1 9 9 9;",
            "x reads a;x tells a 4 to y z;y tells a 4 to x z;z reads b;y tells b 1 to x;y reads a;");
        HELP.due("32: dropped", y.ill(0, 1, 1), 3);
        HELP.due("32: SUM", y.ill(0, 1, 0), 17);
        HELP.due("32: dropped", y.ill(1, 1, 1), 3);
        // The helper reads what it has not, in the order of the ACTS, up to the first it has no time for.
        NineReaders z = with("chap a 2 5;chap b 1 7;chap c 9 50;chap d 1 90;who x 1 9 1 20;who y 1 9 1 4;who z 1 9 9 3;",
            "y reads b;x reads b;x reads a;x reads c;x reads d;");
        HELP.due("32: dropped", z.ill(0, 1, 1), 4);
        HELP.due("32: SUM", z.ill(0, 1, 0), 7);
        HELP.due("32: who HELPS", z.ill(0, 1, 2), 2);
        HELP.due("32: the SUM then", z.ill(0, 1, 3), 19);
    }

    private static int said(NineReaders x, String text) {
        if (TestHelp.sentence(x, text) < 0) {
            throw new IllegalStateException("a wrong sentence in a test: " + text);
        }
        return x.said();
    }

    private static void sentences() {
        NineReaders x = with(BOOK, "yy reads bb;yy tells bb 2 to xx;xx reads cc;");
        HELP.due("34: no SENTENCE", x.said(), -1);
        // xx: READ cc, TOLD bb, KNOWS bb 96000, 204 in all, 5 left; yy: READ bb, KNOWS bb 640000, 32 in all, 0 left
        HELP.due("34: read", said(x, "read cc"), 1);
        HELP.due("34: read", said(x, "read bb"), 2);
        HELP.due("34: told", said(x, "told bb"), 1);
        HELP.due("34: not", said(x, "not told bb"), 2);
        HELP.due("34: not not", said(x, "not not told bb"), 1);
        HELP.due("34: knows", said(x, "knows bb > 63"), 2);
        HELP.due("34: knows", said(x, "knows bb > 64"), 0);
        HELP.due("34: knows, cut", said(x, "knows bb = 9"), 1);
        HELP.due("34: knows", said(x, "knows bb < 9"), 0);
        HELP.due("34: knows", said(x, "knows cc = 100"), 1);
        HELP.due("34: knows", said(x, "knows aa = 0"), 3);
        HELP.due("34: total", said(x, "total = 204"), 1);
        HELP.due("34: total", said(x, "total < 33"), 2);
        HELP.due("34: total", said(x, "total > 31"), 3);
        HELP.due("34: left", said(x, "left = 5"), 1);
        HELP.due("34: left", said(x, "left < 1"), 2);
        HELP.due("34: count", said(x, "count = 1"), 3);
        HELP.due("34: count", said(x, "count > 1"), 0);
        HELP.due("34: and", said(x, "count = 1 and left = 5"), 1);
        HELP.due("34: or", said(x, "left = 0 or left = 5"), 3);
        // 'and' binds closer than 'or', 'not' closer than both
        HELP.due("34: or and", said(x, "read cc or read bb and read aa"), 1);
        HELP.due("34: and or", said(x, "read aa and read bb or read cc"), 1);
        HELP.due("34: and or", said(x, "read aa and (read bb or read cc)"), 0);
        HELP.due("34: or and", said(x, "(read cc or read bb) and count = 1"), 3);
        HELP.due("34: not and", said(x, "not read aa and read bb"), 2);
        HELP.due("34: not bracket", said(x, "not (read aa or read bb)"), 1);
        HELP.due("34: or or and", said(x, "read aa or read bb or read cc and not told bb"), 2);
        HELP.due("34: deep", said(x, "not(not(read aa or not(told bb and left=5)))"), 2);
        HELP.due("33: ONES", TestHelp.sentence(x, "not(not(read aa or not(told bb and left=5)))"), 9);
        HELP.due("34: behind the PLAN of now", x.said(), 2);
        TestHelp.plan(x, "");
        HELP.due("34: behind the PLAN of now", x.said(), 3);
        HELP.due("34: no READERS", said(withBook("chap a 1 1;"), "not read a"), 0);
        everyJoining();
    }

    /** All ways to join four ONES, with each of them so or not, by the rows of truth. */
    private static void everyJoining() {
        NineReaders x = with("chap a 1 1;who x 9 1 1 9;", "x reads a;");
        String[] joins = {"and", "or"};
        for (int code = 0; code < 128; code++) {
            StringBuilder text = new StringBuilder();
            boolean any = false;
            boolean all = true;
            for (int i = 0; i < 4; i++) {
                boolean so = (code >> i & 1) != 0;
                text.append(so ? "read a " : "told a ");
                all &= so;
                if (i < 3) {
                    int join = code >> (4 + i) & 1;
                    text.append(joins[join]).append(' ');
                    if (join == 1) {
                        any |= all;
                        all = true;
                    }
                }
            }
            HELP.due("34: " + text, said(x, text.toString()), any || all ? 1 : 0);
        }
    }

    private static void images() {
        NineReaders x = with(BOOK, "yy reads bb;");
        TestHelp.sentence(x, "read bb");
        HELP.due("36: nothing is kept", x.restore(0), false);
        HELP.due("35: image 0", x.image(0), true);
        for (int k : new int[] {-1, 2, LEAST, MOST}) {
            HELP.due("35: image " + k, x.image(k), false);
            HELP.due("36: restore " + k, x.restore(k), false);
        }
        HELP.due("36: nothing is kept", x.restore(1), false);
        TestHelp.book(x, "chap q 7 7;who z 1 1 1 7;who y 1 1 1 7;who w 1 1 1 7;again 1;");
        HELP.due("34: no SENTENCE", x.said(), -1);
        TestHelp.plan(x, "z reads q;y reads q;");
        TestHelp.sentence(x, "not read q");
        HELP.due("35: image 1", x.image(1), true);
        TestHelp.plan(x, "z tells q 1 to y;");
        HELP.due("13: run", x.run(), 0);
        HELP.due("18: best", x.best(1, 1), 7);
        x.feed(1, 2, 3, 4, 5);
        HELP.due("36: restore 0", x.restore(0), true);
        HELP.due("36: the tape stays", x.count(5), 20);
        HELP.due("36: why stays", x.why(), 2);
        HELP.due("36: bestOf stays", x.bestOf(0), 0);
        HELP.due("36: CHAPS", x.count(0), 3);
        HELP.due("36: READERS", x.count(1), 2);
        HELP.due("36: speed", x.count(3), 10);
        HELP.due("36: again", x.count(4), 5);
        HELP.due("36: leans", x.leans(1, 0), 4);
        HELP.due("36: must", x.chap(2, 2), 1);
        HELP.due("36: skips", x.reader(1, 4), 2);
        HELP.due("36: PLAN", x.act(0, 1), 1);
        HELP.due("36: ACTS", x.count(2), 1);
        HELP.due("36: SENTENCE", x.said(), 2);
        HELP.due("36: NAMES", TestHelp.plan(x, "xx reads aa;xx reads cc;"), 2);
        HELP.due("36: another PLAN does not change what is kept", x.restore(0), true);
        HELP.due("36: ACTS", x.count(2), 1);
        HELP.due("36: restore 1", x.restore(1), true);
        HELP.due("36: ACTS", x.count(2), 2);
        HELP.due("36: SENTENCE", x.said(), 4);
        HELP.due("36: known", x.known(1, 0), 1000000);
        TestHelp.sentence(x, "read");
        HELP.due("36: fault", x.fault(), 1);
        HELP.due("36: restore 0", x.restore(0), true);
        HELP.due("36: fault stays", x.fault(), 1);
        HELP.due("35: what is kept is kept anew", x.image(1), true);
        HELP.due("36: restore 1", x.restore(1), true);
        HELP.due("36: CHAPS", x.count(0), 3);
        NineReaders empty = new NineReaders();
        HELP.due("35: nothing can be kept", empty.image(0), true);
        TestHelp.book(empty, BOOK);
        HELP.due("36: and comes again", empty.restore(0), true);
        HELP.due("36: no CHAPS", empty.count(0), 0);
        HELP.due("36: no SENTENCE", empty.said(), -1);
        HELP.due("36: speed", empty.count(3), 20);
    }

    private static void counts() {
        NineReaders x = with(BOOK, "xx reads aa;");
        x.feed(0, 0, 0, 0, 0);
        int[] due = {3, 2, 1, 10, 5, 20};
        for (int what = 0; what < due.length; what++) {
            HELP.due("37: count " + what, x.count(what), due[what]);
        }
        for (int what : new int[] {-1, 6, LEAST, MOST}) {
            HELP.due("37: count " + what, x.count(what), -1);
        }
    }
}

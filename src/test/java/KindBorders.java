/** Terms, part 3: the KINDS of PLANS that are made, and DRAWN. */
final class KindBorders {
    private final Borders borders;

    KindBorders(Borders borders) {
        this.borders = borders;
    }

    void all() {
        hundred();
        rows();
        lean();
        leanParts();
        twice();
        twiceWho();
        chain();
        chainEnds();
        round();
        drawn();
        drawnActs();
    }

    private void made(String book, int kind, int k, int[]... acts) {
        NineReaders x = TestHelp.withBook(book);
        borders.dueActs("make(" + kind + ", " + k + ") of " + book, x, x.make(kind, k), acts);
    }

    private void range(int kind, int least, int most) {
        for (int k : new int[] {least, most}) {
            borders.due("make(" + kind + ", " + k + ")", withOneAct().make(kind, k), 1);
        }
        for (int k : new int[] {least - 1, most + 1, Integer.MIN_VALUE, Integer.MAX_VALUE, -least}) {
            NineReaders x = withOneAct();
            borders.due("make(" + kind + ", " + k + ")", x.make(kind, k), -1);
            borders.due("make(" + kind + ", " + k + "), then count(2)", x.count(2), 1);
            borders.due("make(" + kind + ", " + k + "), then act(0, 1)", x.act(0, 1), 1);
        }
    }

    /** One READER, who has time for the first CHAP alone; the PLAN has the second. */
    private static NineReaders withOneAct() {
        return TestHelp.with("chap a 1 1;chap b 9 1;who x 1 1 1 1;", "x reads b;");
    }

    private void hundred() {
        borders.term("==== 3. KINDS of PLANS that are made (100 ACTS at most; none that would be WRONG):");
        String nine = TestHelp.lines("who", "r", 9, "9 10 10 240");
        borders.due("11 CHAPS, 9 READERS", TestHelp.withBook(TestHelp.lines("chap", "c", 11, "1 1") + nine).make(3, 4), 99);
        NineReaders x = TestHelp.withBook(TestHelp.lines("chap", "c", 12, "1 1") + nine);
        borders.due("12 CHAPS, 9 READERS", x.make(3, 4), 100);
        borders.due("act(99, 0)", x.act(99, 0), 7);
        borders.due("act(99, 1)", x.act(99, 1), 10);
        borders.due("act(99, 3)", x.act(99, 3), 1 << 8);
        borders.dueNone("act(100, 0)", () -> x.act(100, 0));
        borders.due("run()", x.run(), -1);
        // 16 readings, ten CHAPS told 8 times, the eleventh 4 times: the sixth READER has no time; the others are too long.
        String full = TestHelp.lines("chap", "c", 11, "1 1") + TestHelp.lines("chap", "d", 5, "990 1") + "speed 1;"
            + TestHelp.lines("who", "r", 5, "99 10 10 240") + "who s 99 10 10 20;" + TestHelp.lines("who", "t", 3, "9 10 10 240");
        NineReaders y = TestHelp.withBook(full);
        borders.due("just 100 ACTS", y.make(3, 1), 100);
        borders.due("act(99, 0)", y.act(99, 0), 3);
        borders.due("act(99, 1)", y.act(99, 1), 10);
        borders.due("run()", y.run(), -1);
        fullBooks();
    }

    /** 16 CHAPS and 9 READERS, all of them used; and 9 who have no time at all. */
    private void fullBooks() {
        String chaps = TestHelp.lines("chap", "c", 16, "10 1");
        int[][] reads = new int[16][];
        int[][] reads9 = new int[9][];
        for (int c = 0; c < 16; c++) {
            reads[c] = new int[] {c / 2, c};
        }
        for (int c = 0; c < 9; c++) {
            reads9[c] = new int[] {c, c};
        }
        String two = TestHelp.lines("who", "r", 9, "10 9 9 2");
        String one = TestHelp.lines("who", "r", 9, "10 9 9 1");
        String none = TestHelp.lines("who", "r", 9, "10 9 9 0");
        for (int kind = 0; kind <= 4; kind++) {
            // By LEAN each part is READ by one with the most left: first each READER's first, then the second.
            if (kind == 1) {
                int[][] round = new int[16][];
                for (int c = 0; c < 16; c++) {
                    round[c] = new int[] {c % 9, c};
                }
                made(chaps + two, 1, 1, round);
            } else if (kind != 2) {
                made("speed 1;" + chaps + two, kind, 4, reads);
            }
            made("speed 1;" + chaps + one, kind, 4, reads9);
            made("speed 1;" + chaps + none, kind, 4);
        }
        StringBuilder hanging = new StringBuilder("chap ca 10 1;");
        for (int c = 1; c < 16; c++) {
            hanging.append("chap c").append((char) ('a' + c)).append(" 10 1 on c").append((char) ('a' + c - 1)).append(" 5;");
        }
        made(hanging + two, 1, 5, new int[] {0, 0}, new int[] {0, 1});
        made(hanging + TestHelp.lines("who", "r", 9, "99 9 9 16"), 1, 5, java.util.stream.IntStream.range(0, 16)
            .mapToObj(c -> new int[] {0, c}).toArray(int[][]::new));
        // The ninth has time for two: 16 are READ, and then the first one more.
        int[][] last = java.util.Arrays.copyOf(reads, 17);
        last[16] = new int[] {8, 0};
        made(chaps + two, 2, 1, last);
    }

    private void rows() {
        borders.term("0 ROWS: CHAPS in order, READER by READER, each as many as there is time for, one behind the other"
            + " (a CHAP that the one has no time for is the first of the next one; when there is none, it ends).");
        String chaps = "chap a 10 1;chap b 20 1;chap c 10 1;";
        made(chaps + "who x 10 1 1 4;who y 10 1 1 0;", 0, 0, new int[] {0, 0}, new int[] {0, 1}, new int[] {0, 2});
        made(chaps + "who x 10 1 1 3;who y 10 1 1 1;", 0, 0, new int[] {0, 0}, new int[] {0, 1}, new int[] {1, 2});
        made(chaps + "who x 10 1 1 2;who y 10 1 1 3;", 0, 0, new int[] {0, 0}, new int[] {1, 1}, new int[] {1, 2});
        made(chaps + "who x 10 1 1 1;who y 10 1 1 2;", 0, 0, new int[] {0, 0}, new int[] {1, 1});
        // y has time for c, but b was first.
        made(chaps + "who x 10 1 1 2;who y 10 1 1 1;", 0, 0, new int[] {0, 0});
        made(chaps + "who x 10 1 1 0;who y 10 1 1 4;", 0, 0, new int[] {1, 0}, new int[] {1, 1}, new int[] {1, 2});
        made(chaps + "who x 10 1 1 0;", 0, 0);
        made(chaps, 0, 0);
        made("who x 10 1 1 9;", 0, 0);
        // x has time left for c when y comes, but is over.
        made(chaps + "who x 10 1 1 2;who y 10 1 1 2;", 0, 0, new int[] {0, 0}, new int[] {1, 1});
    }

    private void lean() {
        borders.term("1 LEAN k (1 to 10): CHAPS hang together, if one leans on the other by k tenths or more, and so on;");
        range(1, 1, 10);
        String two = "who x 10 1 1 2;who y 10 1 1 2;";
        for (int tenths = 1; tenths <= 10; tenths++) {
            String book = "chap a 10 1;chap b 10 1 on a " + tenths + ";" + two;
            for (int k = 1; k <= 10; k++) {
                // Apart, the second READER has more time left for b.
                int[] b = {tenths >= k ? 0 : 1, 1};
                made(book, 1, k, new int[] {0, 0}, b);
            }
        }
        // c leans on both a and b, or c on b and b on a: all three hang together.
        String three = "who x 10 1 1 3;who y 10 1 1 3;";
        int[][] all = {{0, 0}, {0, 1}, {0, 2}};
        made("chap a 10 1;chap b 10 1;chap c 10 1 on a 5 on b 5;" + three, 1, 5, all);
        made("chap a 10 1;chap b 10 1 on a 5;chap c 10 1 on b 5;" + three, 1, 5, all);
        made("chap a 10 1;chap b 10 1;chap c 10 1 on a 5 on b 4;" + three, 1, 5, new int[] {0, 0}, new int[] {0, 2}, new int[] {1, 1});
    }

    private void leanParts() {
        borders.term("part by part (by the least CHAP) the READER with the most QUARTERS left (of like ones the least)"
            + " READS its CHAPS in order, as long as there is time (the first one for which there is none ends that part).");
        // the parts a d, b c: y has most at first, then x and y like
        String parts = "chap a 10 1;chap b 10 1;chap c 10 1 on b 9;chap d 10 1 on a 9;";
        made(parts + "who x 10 1 1 2;who y 10 1 1 4;", 1, 9, new int[] {1, 0}, new int[] {1, 3}, new int[] {0, 1}, new int[] {0, 2});
        made(parts + "who x 10 1 1 2;who y 10 1 1 5;", 1, 9, new int[] {1, 0}, new int[] {1, 3}, new int[] {1, 1}, new int[] {1, 2});
        made(parts + "who x 10 1 1 2;who y 10 1 1 2;", 1, 9, new int[] {0, 0}, new int[] {0, 3}, new int[] {1, 1}, new int[] {1, 2});
        made(parts + "who x 10 1 1 1;who y 10 1 1 1;", 1, 9, new int[] {0, 0}, new int[] {1, 1});
        made(parts + "who x 10 1 1 0;who y 10 1 1 0;", 1, 9);
        made(parts, 1, 9);
        // Of a b c b is too long: c, for which there would be time, is not READ; d is a part of its own.
        String long2 = "chap a 10 1;chap b 50 1 on a 9;chap c 10 1 on b 9;chap d 10 1;who x 10 1 1 ";
        made(long2 + "7;", 1, 9, new int[] {0, 0}, new int[] {0, 1}, new int[] {0, 2});
        made(long2 + "8;", 1, 9, new int[] {0, 0}, new int[] {0, 1}, new int[] {0, 2}, new int[] {0, 3});
        made(long2 + "5;", 1, 9, new int[] {0, 0}, new int[] {0, 3});
        made(long2 + "6;", 1, 9, new int[] {0, 0}, new int[] {0, 1});
        // The one with the most QUARTERS may be too slow: no other READS that part.
        made("chap a 10 1;chap b 1 1;who x 1 1 1 5;who y 10 1 1 4;", 1, 9, new int[] {0, 1});
    }

    private void twice() {
        borders.term("2 TWICE k (1 to 16): as ROWS; then the k CHAPS of the most WORTH (of like ones the least), one by one:"
            + " the READER with the most QUARTERS left of those who have not READ it READS it, if there is time.");
        range(2, 1, 16);
        // x READS a, b, c by ROWS; then b, c (of like WORTH) and a
        String book = "chap a 10 5;chap b 10 9;chap c 20 9;who x 10 1 1 4;who y 10 1 1 4;";
        int[][] acts = {{0, 0}, {0, 1}, {0, 2}, {1, 1}, {1, 2}, {1, 0}};
        made(book, 2, 1, acts[0], acts[1], acts[2], acts[3]);
        made(book, 2, 2, acts[0], acts[1], acts[2], acts[3], acts[4]);
        made(book, 2, 3, acts);
        made(book, 2, 4, acts);
        made(book, 2, 16, acts);
        String sixteen = TestHelp.lines("chap", "c", 16, "1 1") + "who x 1 1 1 16;who y 1 1 1 16;";
        for (int k : new int[] {1, 15, 16}) {
            NineReaders x = TestHelp.withBook(sixteen);
            borders.due("make(2, " + k + ") of 16 CHAPS", x.make(2, k), 16 + k);
            borders.due("make(2, " + k + ") of 16 CHAPS, the last one", x.act(15 + k, 1), k - 1);
        }
    }

    private void twiceWho() {
        int[] a = {0, 0};
        int[] b = {0, 1};
        // Of like QUARTERS left the least; one who has READ it does not count, however many are left.
        made("chap a 10 5;chap b 10 9;who x 10 1 1 9;who y 10 1 1 2;who z 10 1 1 2;", 2, 1, a, b, new int[] {1, 1});
        made("chap a 10 5;chap b 10 9;who x 10 1 1 9;who y 10 1 1 2;who z 10 1 1 3;", 2, 1, a, b, new int[] {2, 1});
        // All have READ it.
        made("chap a 10 5;chap b 10 9;who x 10 1 1 9;", 2, 2, a, b);
        // No time for b, just time for a
        made("chap a 10 5;chap b 20 9;who x 10 1 1 9;who y 10 1 1 1;", 2, 1, a, b);
        made("chap a 10 5;chap b 20 9;who x 10 1 1 9;who y 10 1 1 1;", 2, 2, a, b, new int[] {1, 0});
        made("chap a 10 5;chap b 20 9;who x 10 1 1 9;who y 10 1 1 2;", 2, 2, a, b, new int[] {1, 1});
        // z has the most left, but is too slow; y is not asked.
        made("chap a 10 5;who x 10 1 1 1;who y 10 1 1 1;who z 1 1 1 2;", 2, 1, a);
        // A CHAP that nobody READ by ROWS counts, too.
        made("chap a 10 5;chap b 40 9;chap c 10 7;who x 10 1 1 2;", 2, 1, a);
        made("chap a 10 5;chap b 40 9;chap c 10 7;who x 10 1 1 2;", 2, 2, a, new int[] {0, 2});
    }

    private void chain() {
        borders.term("3 CHAIN k (1 to 4): as ROWS; then CHAP by CHAP: who READ it tells the next READER (by numbers, round),"
            + " that one the next, with F k, until one comes who has READ it, or it would be WRONG.");
        range(3, 1, 4);
        // a takes 1 to read, F to tell with F
        String a = "chap a 40 1;speed 10;who x 40 10 10 ";
        int[][] acts = {{0, 0}, {0, 0, 2, 2}, {1, 0, 2, 4}};
        made(a + "3;who y 40 10 10 4;who z 40 10 10 2;", 3, 2, acts);
        made(a + "2;who y 40 10 10 4;who z 40 10 10 2;", 3, 2, acts[0]);
        made(a + "3;who y 40 10 10 3;who z 40 10 10 2;", 3, 2, acts[0], acts[1]);
        made(a + "3;who y 40 10 10 1;who z 40 10 10 2;", 3, 2, acts[0]);
        made(a + "3;who y 40 10 10 4;who z 40 10 10 1;", 3, 2, acts[0], acts[1]);
        // y READS it and tells z, who tells x: round, up to y.
        made(a + "0;who y 40 10 10 9;who z 40 10 10 9;", 3, 1, new int[] {1, 0}, new int[] {1, 0, 1, 4});
        made("chap a 80 1;speed 10;who x 40 10 10 1;who y 40 10 10 9;who z 40 10 10 9;", 3, 1, new int[] {1, 0},
            new int[] {1, 0, 1, 4});
        made("chap a 40 1;speed 10;who x 1 10 10 9;who y 40 10 10 9;who z 40 10 10 9;", 3, 1, new int[] {1, 0},
            new int[] {1, 0, 1, 4}, new int[] {2, 0, 1, 1});
        for (int f = 1; f <= 4; f++) {
            made(a + "9;who y 40 10 10 9;", 3, f, new int[] {0, 0}, new int[] {0, 0, f, 2});
        }
    }

    private void chainEnds() {
        // KNOWING nothing of it, y can't tell it on, and z is left out.
        String two = "chap a 40 1;chap b 40 1;speed 10;";
        made(two + "who x 40 0 10 9;who y 40 9 9 9;who z 40 9 9 9;", 3, 1, new int[] {0, 0}, new int[] {0, 1},
            new int[] {0, 0, 1, 2}, new int[] {0, 1, 1, 2});
        made(two + "who x 40 10 10 9 skips 10;who y 40 9 9 9;", 3, 1, new int[] {0, 0}, new int[] {0, 1});
        // One READER alone is the next one, who has READ it.
        made(two + "who x 40 9 9 9;", 3, 1, new int[] {0, 0}, new int[] {0, 1});
        // When a is over for want of time, b is told yet.
        made("chap a 80 1;chap b 40 1;speed 10;who x 40 9 9 9;who y 40 9 9 1;", 3, 1, new int[] {0, 0}, new int[] {0, 1},
            new int[] {0, 1, 1, 2});
        // Telling a on took all that x had left, so b is not told.
        made("chap a 40 1;chap b 40 1;speed 10;who x 40 9 9 3;who y 1 9 9 2;who z 1 9 9 60;", 3, 1, new int[] {0, 0},
            new int[] {0, 1}, new int[] {0, 0, 1, 2}, new int[] {1, 0, 1, 4});
        // The second has READ b and tells it to the first, who has just time for it, or not.
        String each = "chap a 40 1;chap b 200 1;speed 60;who y 40 9 9 ";
        made(each + "3;who x 99 9 9 9;", 3, 1, new int[] {0, 0}, new int[] {1, 1}, new int[] {0, 0, 1, 2}, new int[] {1, 1, 1, 1});
        made(each + "2;who x 99 9 9 9;", 3, 1, new int[] {0, 0}, new int[] {1, 1}, new int[] {0, 0, 1, 2});
    }

    private void round() {
        borders.term("4 ROUND k (1 to 4): as ROWS; then READER by READER, of each CHAP that was READ by that one:"
            + " it is told to all others who have time, if there are some, with F k, if that is not WRONG.");
        range(4, 1, 4);
        String a = "chap a 40 1;speed 10;who x 40 10 10 ";
        made(a + "4;who y 40 9 9 3;who z 40 9 9 3;", 4, 3, new int[] {0, 0}, new int[] {0, 0, 3, 6});
        made(a + "4;who y 40 9 9 2;who z 40 9 9 3;", 4, 3, new int[] {0, 0}, new int[] {0, 0, 3, 4});
        made(a + "4;who y 40 9 9 3;who z 40 9 9 2;", 4, 3, new int[] {0, 0}, new int[] {0, 0, 3, 2});
        // Nobody else has time, or the one who tells has none, or there is nobody else.
        made(a + "4;who y 40 9 9 2;who z 40 9 9 2;", 4, 3, new int[] {0, 0});
        made(a + "3;who y 40 9 9 3;who z 40 9 9 3;", 4, 3, new int[] {0, 0});
        made(a + "9;", 4, 3, new int[] {0, 0});
        for (int f = 1; f <= 4; f++) {
            made(a + "9;who y 40 9 9 9;", 4, f, new int[] {0, 0}, new int[] {0, 0, f, 2});
        }
        // KNOWING nothing of it is WRONG.
        made("chap a 40 1;speed 10;who x 40 9 9 9 skips 10;who y 40 9 9 9;", 4, 1, new int[] {0, 0});
        made("chap a 40 1;speed 10;who x 40 9 9 9 skips 9;who y 40 9 9 9;", 4, 1, new int[] {0, 0}, new int[] {0, 0, 1, 2});
        // y READ b and c, which come behind what x tells: b takes too long to be told, c does not.
        made("chap a 40 1;chap b 400 1;chap c 40 1;speed 10;who x 40 9 9 10;who y 99 9 9 9;", 4, 1, new int[] {0, 0},
            new int[] {1, 1}, new int[] {1, 2}, new int[] {0, 0, 1, 2}, new int[] {1, 2, 1, 1});
        // x has no time left to tell, nor to listen.
        made("chap a 40 1;chap b 40 1;speed 40;who x 40 9 9 1;who y 40 9 9 9;", 4, 1, new int[] {0, 0}, new int[] {1, 1});
    }

    // ---- DRAWN

    private static int next(int x) {
        return x * 1103515245 + 12345;
    }

    private void drawn() {
        borders.term("DRAWN by a seed x: for each draw of n x becomes x * 1103515245 + 12345 (an int, wrapping),"
            + " the draw is (x >>> 8) % n:");
        // The first draw is of the nine READERS, the second of the sixteen CHAPS.
        String book = TestHelp.lines("chap", "c", 16, "1 1") + TestHelp.lines("who", "r", 9, "1 1 1 1");
        NineReaders x = TestHelp.withBook(book);
        borders.due("drawn(1, 0)", x.drawn(1, 0), 1);
        borders.due("drawn(1, 0), then act(0, 0): 12345 >>> 8 is 48", x.act(0, 0), 48 % 9);
        borders.due("drawn(1, 0), then act(0, 1)", x.act(0, 1), (next(12345) >>> 8) % 16);
        for (int seed : new int[] {1, -1, 2, 99903, 68404, Integer.MIN_VALUE, Integer.MAX_VALUE, 12345, -12345}) {
            borders.due("drawn(1, " + seed + ")", x.drawn(1, seed), 1);
            int first = next(seed);
            int second = next(first);
            borders.due("drawn(1, " + seed + "), then act(0, 0)", x.act(0, 0), (first >>> 8) % 9);
            borders.due("drawn(1, " + seed + "), then act(0, 1)", x.act(0, 1), (second >>> 8) % 16);
        }
    }

    private void drawnActs() {
        borders.term("a PLAN of n ACTS: a draw of READERS, of CHAPS, of 4: 0: that one tells all others,"
            + " F 1 more than a draw of 4; else READS.");
        NineReaders x = TestHelp.withBook("chap a 1 1;chap b 1 1;chap c 1 1;who x 1 1 1 1;who y 1 1 1 1;who z 1 1 1 1;");
        int[] met = new int[5];
        for (int seed = -40; seed < 40; seed++) {
            borders.due("drawn(60, " + seed + ")", x.drawn(60, seed), 60);
            int now = seed;
            for (int i = 0; i < 60; i++) {
                now = next(now);
                int who = (now >>> 8) % 3;
                now = next(now);
                int chap = (now >>> 8) % 3;
                now = next(now);
                int f = 0;
                if ((now >>> 8) % 4 == 0) {
                    now = next(now);
                    f = 1 + (now >>> 8) % 4;
                }
                met[f]++;
                borders.due("drawn(60, " + seed + "), then act(" + i + ", 0)", x.act(i, 0), who);
                borders.due("drawn(60, " + seed + "), then act(" + i + ", 1)", x.act(i, 1), chap);
                borders.due("drawn(60, " + seed + "), then act(" + i + ", 2)", x.act(i, 2), f);
                borders.due("drawn(60, " + seed + "), then act(" + i + ", 3)", x.act(i, 3), f == 0 ? 0 : 7 - (1 << who));
            }
        }
        for (int f = 0; f <= 4; f++) {
            borders.due("F " + f + " is met", met[f] > 0, true);
        }
    }
}

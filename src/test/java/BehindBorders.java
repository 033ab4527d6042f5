/** Terms, part 3: what is asked behind a RUN: EXTRA, LACKING, ASKED, SEEN, ILL, a SENTENCE. */
final class BehindBorders {
    private static final String THREE = "chap a 10 10;chap b 10 20;chap c 10 40;speed 10;"
        + "who x 10 10 10 9;who y 10 10 10 9;who z 10 10 10 9;";
    private static final String SIX_ACTS = "x reads a;x tells a 4 to y;y reads b;y tells b 4 to x;x reads c;z reads c;";

    private final Borders borders;

    BehindBorders(Borders borders) {
        this.borders = borders;
    }

    void all() {
        extra();
        extraOfLike();
        lacking();
        asked();
        seen();
        seenSizes();
        illActs();
        illListeners();
        illWrong();
        helped();
        helpedInTime();
        helpedOfLike();
        sentenceText();
        sentenceOnes();
        sentenceSigns();
        sentenceMany();
        sentenceFaults();
        saidBehind();
        newBook();
        throwing();
    }

    // ---- EXTRA, LACKING, ASKED, SEEN

    private void extra(String book, String plan, int grows, int reader, int chap) {
        NineReaders x = TestHelp.with(book, plan);
        int[] due = {grows, reader, chap};
        for (int what = 0; what < 3; what++) {
            borders.due("extra(" + what + ") behind " + plan + " in " + book, x.extra(what), due[what]);
        }
        borders.due("extra(0) behind " + plan + ", then after(0, 2)", x.after(0, 2), TestHelp.with(book, plan).after(0, 2));
    }

    private void extra() {
        borders.term("EXTRA: behind a RUN the READER and the CHAP (that one has not READ, and has time for)"
            + " with which SUM grows most, when it is READ, too; of like ones the least READER, then the least CHAP.");
        String chaps = "chap a 10 10;chap b 20 30;who x 10 9 9 ";
        extra(chaps + "0;", "", -1, -1, -1);
        extra(chaps + "1;", "", 10, 0, 0);
        extra(chaps + "2;", "", 30, 0, 1);
        extra(chaps + "2;", "x reads a;", -1, -1, -1);
        extra(chaps + "3;", "x reads a;", 30, 0, 1);
        extra(chaps + "3;", "x reads a;x reads b;", -1, -1, -1);
        NineReaders none = TestHelp.withBook("chap a 10 10;");
        for (int what = 0; what < 3; what++) {
            borders.due("extra(" + what + ") without READERS", none.extra(what), -1);
        }
        // READ already, though to READ it again would be more
        String leaning = "chap a 1 0;chap b 1 100 on a 10;who x 1 10 10 9;who y 1 9 10 ";
        extra(leaning + "0;", "x reads b;x reads a;", -1, -1, -1);
        // TOLD only: what is KNOWN already grows by the rest.
        extra(leaning + "9;", "x reads a;x reads b;x tells a 4 to y;x tells b 3 to y;", 25, 1, 1);
        // Behind a RUN that ends: what was not done is not READ.
        extra(chaps + "2;", "x reads b;x reads a;", -1, -1, -1);
        extra(chaps + "2;who y 10 9 9 2;", "x reads b;x reads a;y reads b;", 30, 1, 1);
    }

    private void extraOfLike() {
        String like = "chap a 1 10;chap b 1 10;chap c 1 11;who x 1 9 9 9;who y 1 9 9 9;";
        extra(like, "", 11, 0, 2);
        extra(like, "x reads c;", 11, 1, 2);
        extra(like, "x reads c;y reads c;", 10, 0, 0);
        extra(like, "x reads c;y reads c;x reads a;", 10, 0, 1);
        extra(like, "x reads c;y reads c;x reads a;x reads b;", 10, 1, 0);
        extra(like, "x reads c;y reads c;x reads a;x reads b;y reads a;", 10, 1, 1);
        // WORTH times the PARTS is cut ahead and behind: 1 of 3 to 3 of 3
        extra("chap a 1 3;who x 1 10 9 9;who y 1 9 5 9;", "x reads a;x tells a 4 to y;", 2, 1, 0);
        // SUM may grow by nothing.
        extra("chap a 1 0;chap b 1 0;who x 1 9 9 0;who y 1 9 9 1;", "", 0, 1, 0);
        extra("chap a 1 1;who x 1 9 9 1 skips 1;", "", 0, 0, 0);
    }

    private void lacking() {
        borders.term("LACKING: CHAPS of which behind the RUN nobody KNOWS half a MILLION.");
        String skips = "chap a 1 1;chap b 1 1;who x 9 9 9 9 skips ";
        borders.due("all(3), half a MILLION", TestHelp.with(skips + "5;", "x reads a;").all(3), 2);
        borders.due("all(3), 400000", TestHelp.with(skips + "6;", "x reads a;").all(3), 3);
        // y KNOWS 999990 of a, so LACK at b is 2, and of 999999 y READS 499999; told once more, half a MILLION.
        String close = "chap a 1 1;chap b 1 1 on a 2;who x 9 9 9 99;who y 9 9 10 99 skips 5;";
        String told = "x reads a;" + "x tells a 4 to y;".repeat(5);
        NineReaders below = TestHelp.with(close, told + "y reads b;");
        borders.due("known(1, 1)", below.known(1, 1), 499999);
        borders.due("all(3), 499999", below.all(3), 2);
        NineReaders half = TestHelp.with(close, told + "x tells a 4 to y;y reads b;");
        borders.due("known(1, 1)", half.known(1, 1), 500000);
        borders.due("all(3), 500000", half.all(3), 0);
        // Two who KNOW less than half each do not make one who KNOWS half.
        borders.due("all(3), twice 400000", TestHelp.with("chap a 1 1;who x 9 9 9 9 skips 6;who y 9 9 9 9 skips 6;",
            "x reads a;y reads a;").all(3), 1);
        borders.due("all(3), one of nine", TestHelp.with("chap a 1 1;" + TestHelp.lines("who", "r", 9, "1 1 1 1"),
            "ri reads a;").all(3), 0);
        borders.due("all(3), none of nine", TestHelp.withBook(TestHelp.lines("chap", "c", 16, "1 1")
            + TestHelp.lines("who", "r", 9, "1 1 1 1")).all(3), 65535);
        borders.due("all(3), no READERS", TestHelp.withBook(TestHelp.lines("chap", "c", 16, "1 1")).all(3), 65535);
        borders.due("all(3), no CHAPS", TestHelp.withBook("who x 1 1 1 1;").all(3), 0);
    }

    private void ask(String plan, int want, int asked, int... sets) {
        NineReaders x = TestHelp.with(TestHelp.lines("chap", "c", 10, "1 1") + "who x 9 9 9 99;", plan);
        int[] bytes = new int[2 * sets.length];
        for (int i = 0; i < sets.length; i++) {
            bytes[2 * i] = sets[i] >> 8;
            bytes[2 * i + 1] = sets[i] & 255;
        }
        TestHelp.put(x, bytes);
        String call = "ask() of " + sets.length + " behind " + plan;
        borders.due(call, x.ask(), want);
        borders.due(call + ", then asked()", x.asked(), asked);
        borders.due(call + ", then count(5)", x.count(5), 0);
    }

    private void asked() {
        borders.term("ASKED: of told questions (1 to 10, each a set of CHAPS) the fewest that have all LACKING ones;"
            + " of like ones the least set as bits.");
        ask("", -2, -1);
        ask("", 1, 1, 1023);
        ask("", -1, -1, 1022);
        ask("", -2, -1, 1024);
        ask("", -2, -1, 1023, 65535);
        ask("", 1, 512, 0, 0, 0, 0, 0, 0, 0, 0, 0, 1023);
        ask("", -2, -1, 0, 0, 0, 0, 0, 0, 0, 0, 0, 1023, 1023);
        ask("", 10, 1023, 1, 2, 4, 8, 16, 32, 64, 128, 256, 512);
        ask("x reads cc;", 9, 1019, 1, 2, 4, 8, 16, 32, 64, 128, 256, 512);
        String allButTwo = "x reads ca;x reads cb;x reads cc;x reads cd;x reads ce;x reads cf;x reads cg;x reads ch;";
        ask(allButTwo, 1, 4, 256, 512, 768, 1023);
        ask(allButTwo, 2, 3, 256, 512);
        ask(allButTwo, 2, 5, 256, 256, 512, 512);
        ask(allButTwo, -1, -1, 256, 256, 511);
        ask(allButTwo + "x reads ci;", 1, 1, 512, 512);
        ask(allButTwo + "x reads ci;x reads cj;", 0, 0, 0);
        ask(allButTwo + "x reads ci;x reads cj;", 0, 0, 1023, 1);
        // 16 CHAPS: no set is of others
        NineReaders x = TestHelp.withBook(TestHelp.lines("chap", "c", 16, "1 1"));
        TestHelp.put(x, 255, 255);
        borders.due("ask() of all 16", x.ask(), 1);
        TestHelp.put(x, 127, 255, 128, 0);
        borders.due("ask() of 15 and 1", x.ask(), 2);
        NineReaders none = new NineReaders();
        TestHelp.put(none, 0, 0);
        borders.due("ask() without CHAPS", none.ask(), 0);
        TestHelp.put(none, 0, 1);
        borders.due("ask() of a CHAP without CHAPS", none.ask(), -2);
    }

    private void seen(int skips, int x, int want) {
        borders.due("seen(0, " + x + ") with skips " + skips,
            TestHelp.withBook("who r 1 1 1 1 skips " + skips + ";").seen(0, x), want);
    }

    private void seen() {
        borders.term("SEEN: by how many questions (0 to 300) one who skips N tenths stays unseen with 10^15 by x PARTS at most"
            + " (1 to 10^6): 10^15 at first, for each question times (10 less N) by 10, cut.");
        for (int skips = 0; skips <= 10; skips++) {
            seen(skips, 1, 0);
            seen(skips, 0, -2);
            seen(skips, 1000001, -2);
        }
        seen(0, 2, -1);
        seen(0, 1000000, -1);
        seen(10, 2, 1);
        seen(10, 1000000, 1);
        // Half of it with each: 2 to the 10th, to the 19th and on
        seen(5, 2, 1);
        seen(5, 3, 2);
        seen(5, 4, 2);
        seen(5, 5, 3);
        seen(5, 1024, 10);
        seen(5, 1025, 11);
        seen(5, 524288, 19);
        seen(5, 524289, 20);
        seen(5, 1000000, 20);
        // A tenth with each
        seen(9, 10, 1);
        seen(9, 11, 2);
        seen(9, 100, 2);
        seen(9, 100000, 5);
        seen(9, 100001, 6);
        seen(9, 1000000, 6);
        // Nine tenths with each
        seen(1, 2, 7);
        seen(1, 1000000, 132);
        seen(8, 5, 1);
        seen(8, 6, 2);
    }

    private void seenSizes() {
        for (int x : new int[] {-1, Integer.MIN_VALUE, Integer.MAX_VALUE}) {
            seen(5, x, -2);
        }
        // Each skips N and each x near a power: by the words, with no bound of 64 bits in the way
        for (int skips = 1; skips <= 9; skips++) {
            for (int x = 1; x <= 1000000; x = x * 3 + 1) {
                java.math.BigInteger left = java.math.BigInteger.TEN.pow(15);
                java.math.BigInteger most = left.divide(java.math.BigInteger.valueOf(x));
                int questions = 0;
                while (left.compareTo(most) > 0) {
                    left = left.multiply(java.math.BigInteger.valueOf(10 - skips)).divide(java.math.BigInteger.TEN);
                    questions++;
                }
                seen(skips, x, questions);
            }
        }
    }

    // ---- ILL

    private void ill(String book, String plan, int r, int act, int sum, int dropped, int helper, int then) {
        NineReaders x = TestHelp.with(book, plan);
        int[] due = {sum, dropped, helper, then};
        for (int what = 0; what < 4; what++) {
            String call = "ill(" + r + ", " + act + ", " + what + ") of " + plan + " in " + book;
            borders.due(call, x.ill(r, act, what), due[what]);
        }
    }

    private void illActs() {
        borders.term("ILL: a READER falls ill ahead of an ACT: all later ACTS of that one are dropped,");
        // Ahead of all, behind the first, ahead of the last own one, behind it, behind all
        ill(THREE, SIX_ACTS, 0, 0, 60, 4, 1, 110);
        ill(THREE, SIX_ACTS, 0, 1, 70, 3, 1, 110);
        ill(THREE, SIX_ACTS, 0, 4, 100, 1, 1, 140);
        ill(THREE, SIX_ACTS, 0, 5, 140, 0, 1, 140);
        ill(THREE, SIX_ACTS, 0, 6, 140, 0, 1, 140);
        ill(THREE, SIX_ACTS, 0, 7, -1, -1, -1, -1);
        ill(THREE, SIX_ACTS, 0, -1, -1, -1, -1, -1);
        ill(THREE, SIX_ACTS, 2, 5, 100, 1, 1, 140);
        ill(THREE, SIX_ACTS, 2, 6, 140, 0, 0, 140);
        ill(THREE, SIX_ACTS, 3, 0, -1, -1, -1, -1);
        ill(THREE, "", 0, 0, 0, 0, 1, 0);
        ill(THREE, "", 0, 1, -1, -1, -1, -1);
    }

    private void illListeners() {
        borders.term("that one listens no more (a telling to nobody is dropped),");
        // z KNOWS a, y is ill: the telling to both is one to z, that to y alone is dropped.
        ill(THREE, "x reads a;x tells a 4 to y z;x tells a 4 to y;", 1, 1, 20, 1, 0, 20);
        ill(THREE, "x reads a;x tells a 4 to y z;x tells a 4 to y;", 1, 2, 30, 1, 0, 30);
        ill(THREE, "x reads a;x tells a 4 to y z;x tells a 4 to y;", 1, 3, 30, 0, 0, 30);
        // The telling that is dropped takes x no time: just enough for b is left.
        String short2 = "chap a 10 10;chap b 10 20;speed 10;who x 10 10 10 2;who y 10 10 10 9;";
        ill(short2, "x reads a;x tells a 4 to y;x reads b;", 1, 1, 30, 1, 0, 30);
        ill(short2, "x reads a;x tells a 4 to y;x reads b;", 1, 2, 20, 1, 0, 20);
        // What the ill one was told ahead of it stays.
        ill(THREE, "x reads a;x tells a 4 to y;y tells a 4 to z;", 1, 2, 20, 1, 0, 20);
    }

    private void illWrong() {
        borders.term("and so is every ACT that is WRONG then.");
        // x is ill: y was not told, so y's telling is WRONG; z READS yet.
        ill(THREE, "x reads a;x tells a 4 to y;y tells a 4 to z;z reads b;", 0, 1, 30, 2, 1, 30);
        ill(THREE, "x reads a;x tells a 4 to y;y tells a 4 to z;z reads b;", 0, 2, 48, 0, 1, 48);
        // WRONG for want of time, ahead of the illness and behind it: dropped, and what comes behind is done.
        String late = "chap a 10 10;chap b 90 20;chap c 10 40;who x 10 9 9 2;who y 10 9 9 9;";
        ill(late, "x reads b;x reads a;y reads b;y reads c;", 1, 2, 10, 3, 0, 10);
        ill(late, "x reads b;x reads a;y reads c;y reads b;", 1, 3, 50, 2, 0, 50);
        ill(late, "x reads b;x reads a;y reads c;", 1, 3, 50, 1, 0, 50);
        // The ill one had no time to listen; without it the telling is not WRONG.
        String deaf = "chap a 10 10;speed 10;who x 10 10 9 9;who y 10 9 9 0;who z 10 9 10 9;";
        ill(deaf, "x reads a;x tells a 4 to y z;", 1, 1, 20, 0, 0, 20);
        ill(deaf, "x reads a;x tells a 4 to y z;", 1, 2, 10, 1, 0, 10);
    }

    private void helped() {
        borders.term("HELPED by another READER: that one READS, at the end, in order, what the ill one would have READ"
            + " and the helper has not, as long as there is time (the first one for which there is none ends it):");
        // What the ill one READ ahead of it is not READ again; what the helper has READ neither.
        ill(THREE, "x reads a;x reads b;y reads b;", 0, 0, 20, 2, 2, 50);
        ill(THREE, "x reads a;x reads b;y reads b;", 0, 1, 30, 1, 2, 50);
        ill(THREE, "x reads a;x reads b;y reads b;", 0, 2, 50, 0, 1, 50);
        // What was told to the ill one is not READ.
        ill(THREE, "z reads c;z tells c 4 to x;x reads a;", 0, 0, 40, 2, 1, 50);
        // In order of the ACTS: b without a first, half of it KNOWN
        String leaning = "chap a 1 0;chap b 1 100 on a 10;who x 1 1 1 9;who y 1 1 1 9;";
        ill(leaning, "x reads b;x reads a;", 0, 0, 0, 2, 1, 50);
        ill(leaning, "x reads a;x reads b;", 0, 0, 0, 2, 1, 100);
        ill(leaning, "x reads b;x reads a;x reads b;", 0, 0, 0, 3, 1, 50);
        // At the end: y KNOWS a by an ACT behind those of the ill one.
        ill(leaning, "x reads b;y reads a;", 0, 0, 0, 1, 1, 100);
        // By telling, y KNOWS less than by reading.
        ill(THREE, "x reads a;x tells a 2 to y;x reads b;", 0, 2, 15, 1, 1, 35);
    }

    private void helpedInTime() {
        // The ill one would have READ a, b, c; they take 1, 5 and 1.
        String chaps = "chap a 10 10;chap b 50 20;chap c 10 40;who x 10 1 1 9;who y 10 1 1 ";
        String plan = "x reads a;x reads b;x reads c;";
        int[] due = {0, 10, 10, 10, 10, 10, 30, 70, 70};
        for (int time = 0; time < due.length; time++) {
            ill(chaps + time + ";", plan, 0, 0, 0, 3, 1, due[time]);
        }
        // b, that the helper has READ, ends nothing.
        ill(chaps + "7;", "y reads b;" + plan, 0, 0, 20, 3, 1, 70);
        ill(chaps + "6;", "y reads b;" + plan, 0, 0, 20, 3, 1, 30);
    }

    private void helpedOfLike() {
        borders.term("the one with the greatest SUM (of like ones the least).");
        String chap = "chap a 10 10;";
        ill(chap + "who x 10 1 1 9;who y 10 1 1 9;who z 10 1 1 9;", "x reads a;", 0, 0, 0, 1, 1, 10);
        ill(chap + "who x 10 1 1 9;who y 10 1 1 0;who z 10 1 1 9;", "x reads a;", 0, 0, 0, 1, 2, 10);
        ill(chap + "who x 10 1 1 9;who y 10 1 1 9 skips 1;who z 10 1 1 9;", "x reads a;", 0, 0, 0, 1, 2, 10);
        ill(chap + "who x 10 1 1 9;who y 10 1 1 0;who z 10 1 1 0;", "x reads a;", 0, 0, 0, 1, 1, 0);
        ill(chap + "who x 10 1 1 9;who y 10 1 1 9;who z 10 1 1 9;", "y reads a;", 1, 0, 0, 1, 0, 10);
        ill(chap + "who x 10 1 1 9;who y 10 1 1 9;who z 10 1 1 9;", "z reads a;", 2, 0, 0, 1, 0, 10);
        ill(chap + "who x 10 1 1 9;who y 10 1 1 9;", "x reads a;", 0, 0, 0, 1, 1, 10);
        // Nobody else is there.
        ill(chap + "who x 10 1 1 9;", "x reads a;", 0, 0, 0, 1, -1, -1);
        ill(chap + "who x 10 1 1 9;", "x reads a;", 0, 1, 10, 0, -1, -1);
        ill(chap, "", 0, 0, -1, -1, -1, -1);
        String nine = chap + TestHelp.lines("who", "r", 8, "1 1 1 9") + "who x 10 1 1 9;";
        ill(nine, "ra reads a;", 0, 0, 0, 1, 8, 10);
        ill(nine, "x reads a;", 8, 0, 0, 1, 0, 0);
    }

    // ---- a SENTENCE

    private static final String PAIR = "chap a 1 1;chap b 1 1;who x 1 1 1 9;who y 1 1 1 9;";

    private void sentence(String text, int ones) {
        NineReaders x = TestHelp.withBook(PAIR);
        borders.due("sentence() of " + text, TestHelp.sentence(x, text), ones);
        borders.due("sentence() of " + text + ", then fault()", x.fault(), 0);
        borders.due("sentence() of " + text + ", then count(5)", x.count(5), 0);
        borders.due("sentence() of " + text + ", then said() is not NONE", x.said() != -1, true);
    }

    /** The SENTENCE ahead of it, which x alone fulfils, stays. */
    private void noSentence(String ahead, String at, int fault) {
        NineReaders x = TestHelp.with(PAIR, "x reads b;");
        TestHelp.sentence(x, "read b");
        String call = "sentence() of " + ahead + at;
        borders.due(call, TestHelp.sentence(x, ahead + at), -1 - ahead.length());
        borders.due(call + ", then fault()", x.fault(), fault);
        borders.due(call + ", then count(5)", x.count(5), 0);
        borders.due(call + ", then said()", x.said(), 1);
    }

    /** Of whom it may be said, x having READ a alone and y b, and x told a to y. */
    private void said(String text, int who) {
        NineReaders x = TestHelp.with("chap a 1 7;chap b 1 9;who x 1 10 9 9;who y 1 10 5 9;",
            "x reads a;y reads b;x tells a 4 to y;");
        TestHelp.sentence(x, text);
        borders.due("said() of " + text, x.said(), who);
    }

    private void sentenceText() {
        borders.term("A SENTENCE is a text of at most 200 bytes: COND: ALL { 'or' ALL }. ALL: ONE { 'and' ONE }.");
        sentence("read a", 1);
        sentence(TestHelp.padded("read a", 200), 1);
        sentence(TestHelp.padded("read", 199) + "a", 1);
        noSentence(TestHelp.padded("read a", 200), " ", 1);
        noSentence(TestHelp.padded("read", 200), "a", 1);
        noSentence(TestHelp.padded("read a", 200), " ".repeat(800), 1);
        noSentence(TestHelp.padded("read ", 199), "ab", 3);
        sentence(TestHelp.padded("left< ", 197) + "999", 1);
        noSentence(TestHelp.padded("left< ", 199), "9999", 1);
        noSentence("", "", 1);
        noSentence("read a ", "read b", 1);
        noSentence("read a or", "", 1);
        noSentence("read a or ", "or read b", 1);
        noSentence("read a or ", "and read b", 1);
        noSentence("", "or read b", 1);
        noSentence("read a and", "", 1);
        sentence("read a or read b", 2);
        sentence("read a and read b or read a", 3);
        // 'and' joins ahead of 'or': x has READ a, y b and been told a
        said("read a or read b and told a", 3);
        said("read a and told a or read b", 2);
        said("read a or told a and read a", 1);
        said("read b and told a or read a and told a", 2);
        said("(read a or read b) and told a", 2);
        said("read a or read b", 3);
        said("read a and read b", 0);
        said("read b and told a", 2);
        said("read a and (told a)", 0);
        said("read a and (told a or read a)", 1);
        said("read a or (told a and read a)", 1);
        said("told b or (told a)", 2);
        said("not told b and (read b or (told b))", 2);
    }

    private void sentenceOnes() {
        borders.term("ONE: 'not' ONE | ( COND ) | 'read' CHAP | 'told' CHAP | 'knows' CHAP SIGN NUMBER (hundredths, cut)");
        said("read a", 1);
        said("read b", 2);
        said("told a", 2);
        said("told b", 0);
        said("not read a", 2);
        said("not not read a", 1);
        said("not (read a or read b)", 0);
        said("not read a or read a", 3);
        said("not read b and read a", 1);
        said("((read a))", 1);
        noSentence("not", "", 1);
        noSentence("not ", "and read a", 1);
        noSentence("(", ")", 1);
        noSentence("(read a", "", 1);
        noSentence("(read a ", "read b)", 1);
        noSentence("read a", ")", 1);
        noSentence("read", "", 1);
        noSentence("read ", "1", 1);
        noSentence("told ", "not a", 1);
        noSentence("knows ", "< 1", 1);
        noSentence("knows a", "", 1);
        noSentence("knows a ", "1", 1);
        noSentence("knows a <", "", 1);
        noSentence("knows a < ", "a", 1);
        noSentence("knows a < ", "> 1", 1);
        // y KNOWS 500000 of a
        said("knows a < 50", 0);
        said("knows a = 50", 2);
        said("knows a > 49", 3);
        said("knows a > 50", 1);
        said("knows a = 100", 1);
        said("knows a > 99", 1);
        said("knows a < 100", 2);
        said("knows b = 0", 1);
        said("knows b < 1", 1);
        said("knows b > 0", 2);
        // 499999 are 49 hundredths, 500000 are 50; 9999 none
        String close = "chap a 1 1;chap b 1 1 on a 2;who x 9 9 9 99;who y 9 9 10 99 skips 5;";
        String told = "x reads a;" + "x tells a 4 to y;".repeat(5);
        NineReaders below = TestHelp.with(close, told + "y reads b;");
        TestHelp.sentence(below, "knows b = 49");
        borders.due("said() of knows b = 49, with 499999", below.said(), 2);
        TestHelp.plan(below, told + "x tells a 4 to y;y reads b;");
        borders.due("said() of knows b = 49, with 500000", below.said(), 0);
        NineReaders few = TestHelp.with("chap a 1 1;who x 1 4 9 9;who y 1 1 1 9 skips 9;", "y reads a;y tells a 4 to x;");
        borders.due("known(0, 0)", few.known(0, 0), 9000);
        TestHelp.sentence(few, "knows a = 0");
        borders.due("said() of knows a = 0, with 9000", few.said(), 1);
    }

    private void sentenceSigns() {
        borders.term("| ( 'total' | 'left' | 'count' ) SIGN NUMBER (KNOWN in all; QUARTERS left; how many were READ). SIGN: < = >.");
        // x: 7 in all, 7 left, 1 READ; y: 3 and 9 in all, 7 left, 1 READ
        said("total = 7", 1);
        said("total = 12", 2);
        said("total < 12", 1);
        said("total < 13", 3);
        said("total < 7", 0);
        said("total < 8", 1);
        said("total > 6", 3);
        said("total > 7", 2);
        said("total > 12", 0);
        said("left = 7", 3);
        said("left < 7", 0);
        said("left > 6", 3);
        said("left > 7", 0);
        said("left < 8", 3);
        said("count = 1", 3);
        said("count < 1", 0);
        said("count > 0", 3);
        said("count > 1", 0);
        said("count < 2", 3);
        said("total < 999", 3);
        said("total > 999", 0);
        // TOLD does not count; READ twice counts once.
        NineReaders x = TestHelp.with("chap a 1 1;who x 9 9 9 9;who y 9 9 9 9;", "x reads a;x reads a;x tells a 4 to y;");
        TestHelp.sentence(x, "count = 1");
        borders.due("said() of count = 1, READ twice", x.said(), 1);
        TestHelp.sentence(x, "count = 0");
        borders.due("said() of count = 0, TOLD", x.said(), 2);
        for (String word : new String[] {"total", "left", "count"}) {
            sentence(word + "<0", 1);
            sentence(word + "=999", 1);
            noSentence(word + " < ", "1000", 1);
            noSentence(word, "", 1);
            noSentence(word + " ", "a < 1", 1);
            noSentence(word + " ", "1", 1);
            noSentence(word + " =", "", 1);
            noSentence(word + " =", "= 1", 1);
            noSentence(word + " <", "= 1", 1);
        }
    }

    private void sentenceMany() {
        borders.term("20 ONES, 8 within one another.");
        sentence("left<1 or ".repeat(18) + "left<1", 19);
        sentence("left<1 or ".repeat(19) + "left<1", 20);
        // A 'not' and a bracket are each a ONE: the 20th may be no more than the beginning of one.
        noSentence("left<1 or ".repeat(19) + "not ", "a", 1);
        sentence("read a or not ".repeat(9) + "(read a)", 20);
        // The last ones of 20 count as the others do.
        said("told b or ".repeat(19) + "read a", 1);
        said("told b or ".repeat(19) + "told b", 0);
        said("left<9 and ".repeat(17) + "read b", 2);
        said("left<9 and ".repeat(17) + "left<9", 3);
        said("not told b and ".repeat(9) + "not read a", 2);
        said("(told b)or ".repeat(9) + "(read b)", 2);
        noSentence("read a or not ".repeat(9) + "(not ", "read a)", 4);
        sentence("not ".repeat(7) + "read a", 8);
        noSentence("not ".repeat(8), "read a", 4);
        sentence("(".repeat(7) + "read a" + ")".repeat(7), 8);
        noSentence("(".repeat(8), "read a" + ")".repeat(8), 4);
        sentence("not(".repeat(3) + "not read a" + ")".repeat(3), 8);
        noSentence("not(".repeat(4), "read a" + ")".repeat(4), 4);
        noSentence("not(".repeat(3) + "not not ", "read a" + ")".repeat(3), 4);
        // Within one another again and again, and behind a deep one a flat one
        sentence("not ".repeat(7) + "read a or " + "not ".repeat(7) + "read a", 16);
        sentence("(".repeat(7) + "read a" + ")".repeat(7) + " or " + "not ".repeat(7) + "read a or read a", 17);
        noSentence("(".repeat(7) + "read a or (", "read a", 4);
        noSentence("(".repeat(7) + "read a or ", "", 1);
    }

    private void sentenceFaults() {
        borders.term("FAULTS: 1, 3 (no such CHAP), 4 a 21st ONE, a ninth within (at its first TOKEN).");
        noSentence("read a", ".", 1);
        noSentence("", "reads a", 1);
        noSentence("", "a", 1);
        noSentence("", "5", 1);
        noSentence("read ", "c", 3);
        noSentence("told ", "c", 3);
        noSentence("knows ", "c < 1", 3);
        noSentence("read ", "x", 3);
        noSentence("told ", "y", 3);
        noSentence("knows ", "x < 1", 3);
        String twenty = "not read a or ".repeat(10);
        noSentence(twenty, "read a", 4);
        noSentence(twenty, "read c", 4);
        noSentence(twenty, "not", 4);
        noSentence(twenty, "(", 4);
        noSentence(twenty, "left", 4);
        noSentence(twenty, "knows", 4);
        noSentence(twenty, "", 1);
        noSentence(twenty, "a", 1);
        noSentence("not ".repeat(8), "not", 4);
        noSentence("not ".repeat(8), "(", 4);
        noSentence("not ".repeat(8), "total", 4);
        noSentence("not ".repeat(8), "", 1);
        noSentence("not ".repeat(8), ")", 1);
        // A FAULT ahead of the 21st
        noSentence("not read a or ".repeat(9) + "not read ", "c or not read a", 3);
    }

    private void saidBehind() {
        borders.term("It is said of READERS behind a RUN.");
        NineReaders x = TestHelp.with("chap a 1 1;chap b 9 1;who x 1 1 1 1;who y 1 1 1 9;", "x reads a;x reads b;y reads b;");
        TestHelp.sentence(x, "read b");
        // x's second ACT is WRONG: y READS nothing.
        borders.due("said() of read b", x.said(), 0);
        TestHelp.plan(x, "y reads b;");
        borders.due("said() of read b, the PLAN being another", x.said(), 2);
        TestHelp.plan(x, "");
        borders.due("said() of read b, no ACTS", x.said(), 0);
        NineReaders nine = TestHelp.withBook("chap a 1 1;" + TestHelp.lines("who", "r", 9, "1 1 1 1"));
        TestHelp.sentence(nine, "left=1");
        borders.due("said() of left=1, nine READERS", nine.said(), 511);
        TestHelp.plan(nine, "ri reads a;");
        borders.due("said() of left=1, the ninth one READ", nine.said(), 255);
        NineReaders none = TestHelp.withBook("chap a 1 1;");
        TestHelp.sentence(none, "left<1");
        borders.due("said() without READERS", none.said(), 0);
    }

    private void newBook() {
        borders.term("A new BOOK has no PLAN (0 ACTS) and no SENTENCE.");
        NineReaders x = TestHelp.with(PAIR, "x reads a;");
        TestHelp.sentence(x, "read a");
        borders.due("book() with a FAULT", TestHelp.book(x, PAIR + "x"), -1 - PAIR.length());
        borders.due("count(2) behind it", x.count(2), 1);
        borders.due("said() behind it", x.said(), 1);
        borders.due("book(), the same one", TestHelp.book(x, PAIR), 4);
        borders.due("count(2) behind it", x.count(2), 0);
        borders.due("said() behind it", x.said(), -1);
        borders.due("known(0, 0) behind it", x.known(0, 0), 0);
        borders.due("run() behind it", x.run(), -1);
        borders.dueNone("act(0, 0) behind it", () -> x.act(0, 0));
        TestHelp.plan(x, "x reads a;");
        TestHelp.sentence(x, "read a");
        borders.due("book() of no bytes", x.book(), 0);
        borders.due("count(2) behind it", x.count(2), 0);
        borders.due("said() behind it", x.said(), -1);
    }

    private void throwing() {
        borders.term("A call that throws changes nothing.");
        NineReaders x = TestHelp.with(PAIR, "x reads a;x tells b 1 to y;");
        TestHelp.sentence(x, "read a");
        x.run();
        TestHelp.sentence(x, "read");
        x.feed(1, 2, 3, 4, 5);
        borders.dueNone("chap(2, 0)", () -> x.chap(2, 0));
        borders.dueNone("chap(0, 4)", () -> x.chap(0, 4));
        borders.dueNone("reader(2, 0)", () -> x.reader(2, 0));
        borders.dueNone("reader(0, 5)", () -> x.reader(0, 5));
        borders.dueNone("act(2, 0)", () -> x.act(2, 0));
        borders.dueNone("act(0, 4)", () -> x.act(0, 4));
        int[] counts = {2, 2, 2, 20, 8, 20};
        for (int what = 0; what < counts.length; what++) {
            borders.due("count(" + what + ") behind them", x.count(what), counts[what]);
        }
        borders.due("fault() behind them", x.fault(), 1);
        borders.due("why() behind them", x.why(), 2);
        borders.due("known(0, 0) behind them", x.known(0, 0), 1000000);
        borders.due("said() behind them", x.said(), 1);
        borders.due("run() behind them", x.run(), 1);
        borders.due("restore(0) behind them", x.restore(0), false);
    }
}

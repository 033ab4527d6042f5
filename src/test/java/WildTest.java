import java.util.NoSuchElementException;
import java.util.Random;

/** Calls by chance, with any arguments in any state: nothing is thrown but what the document says, and twice the same is answered. */
public final class WildTest {
    private static final TestHelp HELP = new TestHelp();
    private static final int RUNS = 1500;
    private static final int CALLS = 512;
    private static final int THREW = -77;
    private static final String[] PIECES = {"chap ", "who ", "speed ", "again ", "on ", "must", "skips ", "reads ", "tells ",
        "to ", "all", "or ", "and ", "not ", "read ", "told ", "knows ", "total", "left", "count", ";", "<", "=", ">", "(",
        ")", " ", "\n", "a ", "b ", "x ", "y ", "1 ", "4 ", "10 ", "240 ", "999 ", "0 ", "zzzzzzz", "q1", ".", "\u00ff"};
    private static final String[] TEXTS = {
        "chap a 5 9;chap b 9 100 on a 5;chap c 3 30 on a 2 on b 3 must;who x 3 9 8 30;who y 9 5 9 9 skips 3;who z 1 9 9 90;",
        "chap a 1 1;who x 1 1 1 1;", "who x 1 1 1 1;who y 1 1 1 1;", "chap a 1 1;chap b 1 1;",
        "x reads a;x tells a 4 to all;", "y reads b;y reads a;y tells b 2 to x;x reads c;z reads c;",
        "read a or told b and not knows c > 40", "not(left<9 or count=2 and total>30)"};

    public static void main(String[] args) {
        for (int seed = 0; seed < RUNS; seed++) {
            long first = play(seed);
            HELP.due("run " + seed + " again", play(seed), first);
        }
        HELP.finish();
    }

    private static long play(int seed) {
        Random chance = new Random(seed);
        NineReaders x = new NineReaders();
        long all = 0;
        for (int i = 0; i < CALLS; i++) {
            long answer = answer(x, chance);
            all = all * 31 + answer;
        }
        return all;
    }

    private static int number(Random chance) {
        switch (chance.nextInt(8)) {
            case 0:
                return chance.nextInt();
            case 1:
                return chance.nextBoolean() ? Integer.MIN_VALUE : Integer.MAX_VALUE;
            case 2:
                return chance.nextInt(1100) - 50;
            case 3:
                return chance.nextInt(40) - 10;
            default:
                return chance.nextInt(5);
        }
    }

    private static void text(NineReaders x, Random chance) {
        StringBuilder text = new StringBuilder();
        if (chance.nextInt(3) == 0) {
            int pieces = chance.nextInt(chance.nextInt(20) == 0 ? 300 : 12);
            for (int i = 0; i < pieces && text.length() < 1030; i++) {
                text.append(PIECES[chance.nextInt(PIECES.length)]);
            }
        } else {
            text.append(TEXTS[chance.nextInt(TEXTS.length)]);
        }
        TestHelp.put(x, text.toString());
    }

    private static void bytes(NineReaders x, Random chance) {
        int[] row = new int[chance.nextInt(12)];
        for (int i = 0; i < row.length; i++) {
            row[i] = chance.nextInt(10) == 0 ? chance.nextInt(256) : chance.nextInt(4);
        }
        TestHelp.put(x, row);
    }

    private static long answer(NineReaders x, Random chance) {
        int a = number(chance);
        int b = number(chance);
        int c = number(chance);
        int which = chance.nextInt(40);
        if (which < 20) {
            return firstHalf(x, chance, which, a, b, c);
        }
        return secondHalf(x, chance, which, a, b, c);
    }

    private static long firstHalf(NineReaders x, Random chance, int which, int a, int b, int c) {
        switch (which) {
            case 0: return x.feed(a, b, c, a, b);
            case 1: return x.end(a) ? 1 : 0;
            case 2: case 3: text(x, chance); return x.book();
            case 4: return x.fault();
            case 5: return thrown(() -> x.chap(a, b));
            case 6: return x.leans(a, b);
            case 7: return thrown(() -> x.reader(a, b));
            case 8: case 9: text(x, chance); return x.plan();
            case 10: case 11: return x.make(a, b);
            case 12: return x.drawn(a, b);
            case 13: return thrown(() -> x.act(a, b));
            case 14: return x.run();
            case 15: return x.why();
            case 16: return x.known(a, b);
            case 17: return x.after(a, b);
            case 18: return x.all(a);
            default: return x.best(a, b);
        }
    }

    private static long secondHalf(NineReaders x, Random chance, int which, int a, int b, int c) {
        switch (which) {
            case 20: return x.bestOf(a);
            case 21: return x.cut(a, b);
            case 22: return x.cutAt(a);
            case 23: bytes(x, chance); return x.net(a);
            case 24: return x.netSide();
            case 25: bytes(x, chance); return x.chain();
            case 26: return x.chainAt(a);
            case 27: return x.alone(a, b);
            case 28: return x.leave(a);
            case 29: return x.extra(a);
            case 30: bytes(x, chance); return x.ask();
            case 31: return x.asked();
            case 32: return x.seen(a, b);
            case 33: return x.ill(a, b, c);
            case 34: case 35: text(x, chance); return x.sentence();
            case 36: return x.said();
            case 37: return x.image(a) ? 1 : 0;
            case 38: return x.restore(a) ? 1 : 0;
            default: return x.count(a);
        }
    }

    /** Only where the document names it. */
    private static long thrown(TestHelp.Call made) {
        try {
            return made.answer();
        } catch (NoSuchElementException e) {
            return THREW;
        }
    }
}

import java.util.ArrayList;
import java.util.Arrays;
import java.util.List;
import java.util.Random;

/**
 * Long runs of calls on one object: behind each call it answers as a new object does that was told the BOOK, the PLAN
 * and the SENTENCE of now alone, but for what the document says that the latest calls tell.
 */
public final class StateTest {
    private static final TestHelp HELP = new TestHelp();
    private static final int RUNS = 1500;
    /** Of some 75 calls each at most, so that an object is called fewer than 512 times. */
    private static final int ROUNDS = 6;
    private static final String[] BOOKS = {"",
        "chap a 5 9;chap b 9 100 on a 5;chap c 3 30 on a 2 on b 3 must;who x 3 9 8 30;who y 9 5 9 9 skips 3;who z 1 9 9 90;",
        "chap b 30 7;chap a 12 400 on b 9;who y 5 9 9 20 skips 1;who x 4 8 9 20;speed 5;again 3;",
        "chap a 1 1 must;who x 1 10 10 9;", "who x 9 9 9 9 skips 10;who y 1 1 1 1 skips 2;speed 3;", "chap a 9 9;chap b 1 2 on a 1;again 0;"};
    private static final String[] PLANS = {"", "x reads a;", "x reads a;x tells a 4 to all;", "y reads b;y tells b 2 to x;x reads a;",
        "y tells a 1 to all;x reads b;", "x reads a;x reads a;x reads a;x reads a;x reads a;x reads a;x reads a;x reads a;x reads a;"};
    private static final String[] SENTENCES = {"read a", "not told b", "total > 5 and knows a > 50", "left < 9 or count = 1"};
    private static final String[] WRONG = {"chap", "x reads q;", ";", "speed 0;", "read q", "?"};

    /** What an object was told that still counts: a text, or a call that makes a PLAN. */
    private record Told(String book, String plan, int[] made, String sentence) {
        NineReaders anew() {
            NineReaders x = TestHelp.withBook(book);
            if (made.length == 3) {
                make(x, made);
            } else {
                TestHelp.plan(x, plan);
            }
            if (sentence != null) {
                TestHelp.sentence(x, sentence);
            }
            return x;
        }
    }

    private static final int[] NOT_MADE = {};
    private static final Told NOTHING = new Told("", "", NOT_MADE, null);

    private final Random chance;
    private final NineReaders x = new NineReaders();
    private final Told[] kept = new Told[2];
    private final List<String> log = new ArrayList<>();
    private Told now = NOTHING;
    private int fault;
    private int why;
    private int[] best = {};
    private int[] ends = {};
    private int[] row = {};
    private int side = -1;
    private int questions = -1;

    private StateTest(int seed) {
        chance = new Random(seed);
    }

    public static void main(String[] args) {
        for (int seed = 0; seed < RUNS; seed++) {
            StateTest one = new StateTest(seed);
            for (int i = 0; i < ROUNDS; i++) {
                one.change();
                one.search();
                one.compare();
            }
        }
        HELP.finish();
    }

    private static int make(NineReaders x, int[] made) {
        return made[0] < 0 ? x.drawn(made[1], made[2]) : x.make(made[0], made[1]);
    }

    private static String oneOf(Random chance, String[] some) {
        return some[chance.nextInt(some.length)];
    }

    private static int oneOf(Random chance, int one, int other) {
        return chance.nextBoolean() ? one : other;
    }

    private void due(String call, long got, long want) {
        log.add(call);
        HELP.due(log.toString(), got, want);
    }

    // ---- one change of what is told

    private void change() {
        switch (chance.nextInt(11)) {
            case 0:
            case 1:
                takeBook(oneOf(chance, chance.nextInt(5) == 0 ? WRONG : BOOKS));
                break;
            case 2:
            case 3:
                takePlan(oneOf(chance, chance.nextInt(5) == 0 ? WRONG : PLANS));
                break;
            case 4:
                takeMade();
                break;
            case 5:
                takeSentence(oneOf(chance, chance.nextInt(5) == 0 ? WRONG : SENTENCES));
                break;
            case 6:
            case 7:
                keep(chance.nextInt(10) == 0 ? oneOf(chance, -1, 2) : chance.nextInt(2));
                break;
            case 8:
            case 9:
                takeKept(chance.nextInt(10) == 0 ? oneOf(chance, -1, 2) : chance.nextInt(2));
                break;
            default:
                NineReaders fresh = now.anew();
                due("run()", x.run(), fresh.run());
                why = fresh.why();
                break;
        }
    }

    private void takeBook(String text) {
        NineReaders fresh = new NineReaders();
        due("book() of " + text, TestHelp.book(x, text), TestHelp.book(fresh, text));
        fault = fresh.fault();
        now = fault == 0 ? new Told(text, "", NOT_MADE, null) : now;
    }

    private void takePlan(String text) {
        NineReaders fresh = TestHelp.withBook(now.book);
        due("plan() of " + text, TestHelp.plan(x, text), TestHelp.plan(fresh, text));
        fault = fresh.fault();
        now = fault == 0 ? new Told(now.book, text, NOT_MADE, now.sentence) : now;
    }

    private void takeMade() {
        int[] made = {chance.nextInt(7) - 1, chance.nextInt(6), chance.nextInt()};
        int want = make(TestHelp.withBook(now.book), made);
        due("made by " + Arrays.toString(made), make(x, made), want);
        now = want >= 0 ? new Told(now.book, "", made, now.sentence) : now;
    }

    private void takeSentence(String text) {
        NineReaders fresh = TestHelp.withBook(now.book);
        due("sentence() of " + text, TestHelp.sentence(x, text), TestHelp.sentence(fresh, text));
        fault = fresh.fault();
        now = fault == 0 ? new Told(now.book, now.plan, now.made, text) : now;
    }

    private void keep(int k) {
        boolean can = k == 0 || k == 1;
        due("image(" + k + ")", x.image(k) ? 1 : 0, can ? 1 : 0);
        if (can) {
            kept[k] = now;
        }
    }

    /** The tape stays. */
    private void takeKept(int k) {
        TestHelp.put(x, 9, 8, 7);
        boolean can = (k == 0 || k == 1) && kept[k] != null;
        due("restore(" + k + ")", x.restore(k) ? 1 : 0, can ? 1 : 0);
        due("count(5)", x.count(5), 3);
        x.end(0);
        now = can ? kept[k] : now;
        dueFacts(now.anew());
    }

    private void dueFacts(NineReaders fresh) {
        for (int i = 0; i < fresh.count(0); i++) {
            for (int what = 0; what < 4; what++) {
                HELP.due(log + ", then chap(" + i + ", " + what + ")", x.chap(i, what), fresh.chap(i, what));
            }
        }
        for (int i = 0; i < fresh.count(1); i++) {
            for (int what = 0; what < 5; what++) {
                HELP.due(log + ", then reader(" + i + ", " + what + ")", x.reader(i, what), fresh.reader(i, what));
            }
        }
    }

    // ---- one search, whose finding stays till the next that finds

    private void search() {
        NineReaders fresh = now.anew();
        switch (chance.nextInt(5)) {
            case 0:
                int m = chance.nextInt(4);
                int w = 1 + chance.nextInt(3);
                int found = fresh.best(m, w);
                due("best(" + m + ", " + w + ")", x.best(m, w), found);
                best = found == -1 ? best : first(m, fresh::bestOf);
                break;
            case 1:
                int k = chance.nextInt(4);
                int pages = 5 + chance.nextInt(40);
                int least = fresh.cut(k, pages);
                due("cut(" + k + ", " + pages + ")", x.cut(k, pages), least);
                ends = least < 0 ? ends : first(k, fresh::cutAt);
                break;
            default:
                searchByTape(fresh);
                break;
        }
    }

    private void searchByTape(NineReaders fresh) {
        int[] bytes = {0, 1, 2, 3};
        bytes = Arrays.copyOf(bytes, 1 + chance.nextInt(4));
        if (chance.nextInt(3) == 0) {
            bytes[0] = chance.nextInt(4);
        }
        TestHelp.put(x, bytes);
        TestHelp.put(fresh, bytes);
        String told = " of " + Arrays.toString(bytes);
        switch (chance.nextInt(3)) {
            case 0:
                int least = fresh.net(30);
                due("net(30)" + told, x.net(30), least);
                side = least < 0 ? side : fresh.netSide();
                break;
            case 1:
                int sum = fresh.chain();
                due("chain()" + told, x.chain(), sum);
                row = sum == -1 ? row : first(bytes.length, fresh::chainAt);
                break;
            default:
                int fewest = fresh.ask();
                due("ask()" + told, x.ask(), fewest);
                questions = fewest < 0 ? questions : fresh.asked();
                break;
        }
        HELP.due(log + ", count(5)", x.count(5), 0);
    }

    private interface At {
        int of(int i);
    }

    private static int[] first(int many, At at) {
        int[] all = new int[many];
        for (int i = 0; i < many; i++) {
            all[i] = at.of(i);
        }
        return all;
    }

    // ---- what is answered now

    private void compare() {
        String call = log + ", then ";
        HELP.due(call + "fault()", x.fault(), fault);
        HELP.due(call + "why()", x.why(), why);
        HELP.due(call + "netSide()", x.netSide(), side);
        HELP.due(call + "asked()", x.asked(), questions);
        for (int i = 0; i < 4; i++) {
            HELP.due(call + "bestOf(" + i + ")", x.bestOf(i), i < best.length ? best[i] : -1);
            HELP.due(call + "cutAt(" + i + ")", x.cutAt(i), i < ends.length ? ends[i] : -1);
            HELP.due(call + "chainAt(" + i + ")", x.chainAt(i), i < row.length ? row[i] : -1);
        }
        NineReaders fresh = now.anew();
        for (int what = -1; what < 7; what++) {
            HELP.due(call + "count(" + what + ")", x.count(what), fresh.count(what));
        }
        HELP.due(call + "said()", x.said(), fresh.said());
        int i = chance.nextInt(4);
        int what = chance.nextInt(5);
        HELP.due(call + "all(" + what + ")", x.all(what), fresh.all(what));
        HELP.due(call + "after(" + i + ", " + what + ")", x.after(i, what), fresh.after(i, what));
        HELP.due(call + "known(" + i + ", " + what + ")", x.known(i, what), fresh.known(i, what));
        HELP.due(call + "leans(" + i + ", " + what + ")", x.leans(i, what), fresh.leans(i, what));
        HELP.due(call + "extra(" + what + ")", x.extra(what), fresh.extra(what));
        HELP.due(call + "ill(" + i + ", 1, " + what + ")", x.ill(i, 1, what), fresh.ill(i, 1, what));
        HELP.due(call + "alone(" + i + ", 1)", x.alone(i, 1), fresh.alone(i, 1));
        HELP.due(call + "leave(1)", x.leave(1), fresh.leave(1));
        if (i < fresh.count(2) && what < 4) {
            HELP.due(call + "act(" + i + ", " + what + ")", x.act(i, what), fresh.act(i, what));
        }
    }
}

import java.util.ArrayList;
import java.util.Collections;
import java.util.List;
import java.util.Random;

/** Books and plans by chance: every answer about them is compared with the plain rules. */
public final class ReferenceTest {
    private static final TestHelp HELP = new TestHelp();
    private static final int BOOKS = 400;

    private final Random chance;
    private final ReferenceHelp ref;
    private final NineReaders x = new NineReaders();
    private int askedLatest;
    private int sideLatest;

    private ReferenceTest(int seed) {
        chance = new Random(seed);
        fillRows();
        ref = new ReferenceHelp(chance, seed % 50 == 7 ? ReferenceHelp.FULL : seed % 2);
        HELP.due("book " + ref.text(), TestHelp.book(x, ref.text()), ref.chaps + ref.readers + 2);
    }

    /** So that what a larger BOOK left in the rows could be seen. */
    private void fillRows() {
        ReferenceHelp large = new ReferenceHelp(chance, ReferenceHelp.FULL);
        HELP.due("book " + large.text(), TestHelp.book(x, large.text()), 27);
        x.make(3, 1);
        x.run();
        x.best(6, 4);
        x.cut(9, 999);
        x.alone(8, 0);
        x.leave(0);
        x.ill(8, 0, 0);
        TestHelp.put(x, 255, 255, 255, 255, 255, 255, 255, 255, 255, 255, 255, 255, 255, 255, 255, 255, 255, 255, 255, 255);
        askedLatest = x.ask() < 0 ? -1 : x.asked();
        TestHelp.put(x, 15, 14, 13, 12, 11, 10, 9, 8, 7, 6);
        HELP.due("net", x.net(9999) >= 0, true);
        sideLatest = x.netSide();
    }

    public static void main(String[] args) {
        for (int seed = 0; seed < BOOKS; seed++) {
            ReferenceTest one = new ReferenceTest(seed);
            one.facts();
            one.plans();
            one.searches();
        }
        HELP.finish();
    }

    private void facts() {
        for (int c = 0; c < ref.chaps; c++) {
            int leansOn = 0;
            for (int d = 0; d < ref.chaps; d++) {
                HELP.due("leans", x.leans(c, d), ref.lean[c][d]);
                leansOn += ref.lean[c][d] > 0 ? 1 : 0;
            }
            HELP.due("chap 0", x.chap(c, 0), ref.pages[c]);
            HELP.due("chap 1", x.chap(c, 1), ref.worth[c]);
            HELP.due("chap 2", x.chap(c, 2), ref.must[c] ? 1 : 0);
            HELP.due("chap 3", x.chap(c, 3), leansOn);
        }
        for (int r = 0; r < ref.readers; r++) {
            HELP.due("reader 0", x.reader(r, 0), ref.pace[r]);
            HELP.due("reader 1", x.reader(r, 1), ref.tell[r]);
            HELP.due("reader 2", x.reader(r, 2), ref.keep[r]);
            HELP.due("reader 3", x.reader(r, 3), ref.time[r]);
            HELP.due("reader 4", x.reader(r, 4), ref.skips[r]);
        }
        HELP.due("count 3", x.count(3), ref.speed);
        HELP.due("count 4", x.count(4), ref.again);
    }

    private void plans() {
        compare("ROWS", x.make(0, 77), ref.make(0, 0));
        int k = 1 + chance.nextInt(10);
        compare("LEAN " + k, x.make(1, k), ref.make(1, k));
        k = 1 + chance.nextInt(16);
        compare("TWICE " + k, x.make(2, k), ref.make(2, k));
        k = 1 + chance.nextInt(4);
        compare("CHAIN " + k, x.make(3, k), ref.make(3, k));
        k = 1 + chance.nextInt(4);
        compare("ROUND " + k, x.make(4, k), ref.make(4, k));
        if (ref.readers >= 2 && ref.chaps >= 1) {
            int n = 1 + chance.nextInt(60);
            int seed = chance.nextInt();
            compare("DRAWN " + n + " " + seed, x.drawn(n, seed), ref.drawn(n, seed));
        }
        List<ReferenceHelp.Act> told = byChance();
        compare("told", TestHelp.plan(x, ReferenceHelp.text(told, ref.readers)), told);
    }

    /** Mostly ACTS that are not WRONG, at most as many as a text holds. */
    private List<ReferenceHelp.Act> byChance() {
        List<ReferenceHelp.Act> plan = new ArrayList<>();
        for (int i = 0; i < 60 && ref.readers > 0 && ref.chaps > 0; i++) {
            int r = chance.nextInt(ref.readers);
            int c = chance.nextInt(ref.chaps);
            List<Integer> to = ref.others(r);
            Collections.shuffle(to, chance);
            to = to.subList(0, to.isEmpty() ? 0 : chance.nextInt(to.size() + 1));
            int f = to.isEmpty() ? 0 : 1 + chance.nextInt(4);
            plan.add(new ReferenceHelp.Act(r, c, f, to));
            ref.run(plan);
            boolean keep = ref.wrongAt < 0 || chance.nextInt(40) == 0;
            if (!keep || ReferenceHelp.text(plan, ref.readers).length() > 700) {
                plan.remove(plan.size() - 1);
            }
        }
        return plan;
    }

    private void compare(String kind, int answered, List<ReferenceHelp.Act> plan) {
        String name = ref.text() + " " + kind + " ";
        HELP.due(name + "acts", answered, plan.size());
        HELP.due(name + "count 2", x.count(2), plan.size());
        for (int i = 0; i < plan.size() && i < answered; i++) {
            HELP.due(name + "act who", x.act(i, 0), plan.get(i).who());
            HELP.due(name + "act chap", x.act(i, 1), plan.get(i).chap());
            HELP.due(name + "act F", x.act(i, 2), plan.get(i).f());
            HELP.due(name + "act to", x.act(i, 3), plan.get(i).bits());
        }
        ref.run(plan);
        behind(name, plan);
        long[] extra = ref.extra(plan);
        for (int what = 0; what < 3; what++) {
            HELP.due(name + "extra " + what, x.extra(what), extra[what]);
        }
        ref.run(plan);
        askOf(name);
        for (int times = 0; times < 4 && ref.readers > 0; times++) {
            int sick = chance.nextInt(ref.readers);
            int ahead = chance.nextInt(plan.size() + 1);
            long[] ill = ref.ill(plan, sick, ahead);
            for (int what = 0; what < 4; what++) {
                HELP.due(name + "ill " + sick + " " + ahead + " " + what, x.ill(sick, ahead, what), ill[what]);
            }
        }
    }

    private void behind(String name, List<ReferenceHelp.Act> plan) {
        if (chance.nextBoolean()) {
            HELP.due(name + "run", x.run(), ref.wrongAt);
            HELP.due(name + "why", x.why(), ref.why);
        }
        long sent = -1;
        int unread = 0;
        for (int r = 0; r < ref.readers; r++) {
            int read = 0;
            int told = 0;
            for (int c = 0; c < ref.chaps; c++) {
                HELP.due(name + "known", x.known(r, c), ref.state.known[r][c]);
                read |= ref.state.read[r][c] ? 1 << c : 0;
                told |= ref.state.told[r][c] ? 1 << c : 0;
                unread += ref.must[c] && !ref.state.read[r][c] ? 1 : 0;
            }
            HELP.due(name + "after 0", x.after(r, 0), ref.state.left[r]);
            HELP.due(name + "after 1", x.after(r, 1), ref.state.inAll(r));
            HELP.due(name + "after 2", x.after(r, 2), read);
            HELP.due(name + "after 3", x.after(r, 3), told);
            if (sent < 0 || ref.state.inAll(r) > ref.state.inAll((int) sent)) {
                sent = r;
            }
        }
        HELP.due(name + "all 0", x.all(0), ref.state.sum());
        HELP.due(name + "all 1", x.all(1), sent);
        HELP.due(name + "all 2", x.all(2), unread);
        HELP.due(name + "all 3", x.all(3), ref.state.lacking());
    }

    private void askOf(String name) {
        int[] questions = new int[1 + chance.nextInt(10)];
        int[] bytes = new int[2 * questions.length];
        for (int i = 0; i < questions.length; i++) {
            questions[i] = chance.nextInt(1 << ref.chaps) | chance.nextInt(1 << ref.chaps);
            bytes[2 * i] = questions[i] >> 8;
            bytes[2 * i + 1] = questions[i] & 255;
        }
        int want = ref.ask(questions, ref.state.lacking());
        TestHelp.put(x, bytes);
        HELP.due(name + "ask", x.ask(), want);
        HELP.due(name + "asked", x.asked(), want < 0 ? askedLatest : ref.set);
        askedLatest = want < 0 ? askedLatest : ref.set;
    }

    private void searches() {
        String name = ref.text() + " ";
        for (int m = 1; m <= 6; m++) {
            int w = 1 + chance.nextInt(4);
            if (m > ref.chaps || w > ref.readers) {
                HELP.due(name + "best of too many", x.best(m, w), -1);
            } else {
                HELP.due(name + "best " + m + " " + w, x.best(m, w), ref.best(m, w));
                for (int c = 0; c < m; c++) {
                    HELP.due(name + "bestOf " + m + " " + w, x.bestOf(c), ref.bestOf[c]);
                }
                HELP.due(name + "bestOf behind", x.bestOf(m), -1);
            }
        }
        int all = 1;
        for (int c = 0; c < ref.chaps; c++) {
            all += ref.pages[c];
        }
        for (int k = 1; k <= 9; k++) {
            int pages = Math.min(999, 1 + chance.nextInt(all));
            int want = ref.cut(k, pages);
            HELP.due(name + "cut " + k + " " + pages, x.cut(k, pages), want);
            for (int i = 0; i < k && want >= 0; i++) {
                HELP.due(name + "cutAt " + i, x.cutAt(i), ref.ends[i]);
            }
            if (want >= 0) {
                HELP.due(name + "cutAt behind", x.cutAt(k), -1);
            }
        }
        sides(name, all);
        sets(name);
    }

    private int[] someOf(int all, int most) {
        List<Integer> places = new ArrayList<>();
        for (int i = 0; i < all; i++) {
            places.add(i);
        }
        Collections.shuffle(places, chance);
        int many = Math.min(Math.min(all, most), 2 + chance.nextInt(most));
        return places.subList(0, many).stream().mapToInt(i -> i).toArray();
    }

    private void sides(String name, int all) {
        for (int times = 0; times < 3 && ref.chaps >= 2; times++) {
            int[] told = someOf(ref.chaps, 10);
            int pages = 1 + chance.nextInt(all);
            TestHelp.put(x, told);
            int want = ref.net(told, pages);
            HELP.due(name + "net", x.net(pages), want);
            sideLatest = want < 0 ? sideLatest : ref.side;
            HELP.due(name + "netSide", x.netSide(), sideLatest);
        }
        for (int times = 0; times < 2 && ref.readers >= 2; times++) {
            int[] told = someOf(ref.readers, 7);
            TestHelp.put(x, told);
            HELP.due(name + "chain", x.chain(), ref.chain(told));
            for (int i = 0; i < told.length; i++) {
                HELP.due(name + "chainAt", x.chainAt(i), ref.row[i]);
            }
            HELP.due(name + "chainAt behind", x.chainAt(told.length), -1);
        }
    }

    private void sets(String name) {
        for (int r = 0; r < ref.readers; r++) {
            HELP.due(name + "alone 0", x.alone(r, 0), ref.alone(r));
            HELP.due(name + "alone 1", x.alone(r, 1), ref.set);
        }
        if (ref.readers > 0) {
            HELP.due(name + "leave 0", x.leave(0), ref.leave());
            HELP.due(name + "leave 1", x.leave(1), ref.set);
        }
    }
}

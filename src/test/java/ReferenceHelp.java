import java.util.ArrayList;
import java.util.Arrays;
import java.util.List;
import java.util.Random;

/** The document's rules once more, in the plainest and slowest form, to compare the class with. */
final class ReferenceHelp {
    static final long MILLION = 1_000_000;

    /** Of an ACT: who, the CHAP, F (0: READS), who listens. */
    record Act(int who, int chap, int f, List<Integer> to) {
        int bits() {
            return to.stream().mapToInt(r -> 1 << r).sum();
        }
    }

    /** What stands behind some ACTS. */
    final class State {
        final long[][] known = new long[readers][chaps];
        final boolean[][] read = new boolean[readers][chaps];
        final boolean[][] told = new boolean[readers][chaps];
        final int[] left = time.clone();

        long lack(int r, int c) {
            long sum = 0;
            for (int d = 0; d < chaps; d++) {
                sum += lean[c][d] * (MILLION - known[r][d]);
            }
            return sum / 10;
        }

        int why(Act a) {
            int takes = takes(a);
            boolean late = left[a.who] < takes;
            for (int r : a.to) {
                late |= left[r] < takes;
            }
            return late ? 1 : a.f > 0 && known[a.who][a.chap] == 0 ? 2 : 0;
        }

        void act(Act a) {
            left[a.who] -= takes(a);
            if (a.f == 0) {
                read(a.who, a.chap);
            }
            for (int r : a.to) {
                left[r] -= takes(a);
                tell(a.who, r, a.chap, a.f, read[a.who][a.chap], true);
            }
        }

        void read(int r, int c) {
            long k = (MILLION - lack(r, c) / 2) * (10 - skips[r]) / 10;
            known[r][c] = Math.max(k, known[r][c]);
            read[r][c] = true;
        }

        void tell(int from, int r, int c, int f, boolean first, boolean withLack) {
            long g = known[from][c];
            g = g * tell[from] / 10;
            g = g * f / 4;
            g = g * keep[r] / 10;
            if (!first) {
                g = g * again / 10;
            }
            if (withLack) {
                g = g * (MILLION - lack(r, c)) / MILLION;
            }
            long h = known[r][c];
            known[r][c] = h + (MILLION - h) * g / MILLION;
            told[r][c] = true;
        }

        long inAll(int r) {
            long sum = 0;
            for (int c = 0; c < chaps; c++) {
                sum += worth[c] * known[r][c] / MILLION;
            }
            return sum;
        }

        long sum() {
            long sum = 0;
            for (int r = 0; r < readers; r++) {
                sum += inAll(r);
            }
            return sum;
        }

        int lacking() {
            int set = 0;
            for (int c = 0; c < chaps; c++) {
                long most = 0;
                for (int r = 0; r < readers; r++) {
                    most = Math.max(most, known[r][c]);
                }
                if (most < MILLION / 2) {
                    set |= 1 << c;
                }
            }
            return set;
        }
    }

    int chaps;
    int readers;
    int[] pages;
    int[] worth;
    boolean[] must;
    int[][] lean;
    int[] pace;
    int[] tell;
    int[] keep;
    int[] time;
    int[] skips;
    int speed = 20;
    int again = 8;

    static final int SMALL = 0;
    static final int LARGE = 1;
    static final int FULL = 2;

    /** A BOOK by chance: SMALL has few PAGES and WORTHS, so many like ones; FULL all CHAPS and READERS. */
    ReferenceHelp(Random chance, int size) {
        chaps = size == FULL ? 16 : chance.nextInt(size == SMALL ? 9 : 13);
        readers = size == FULL ? 9 : chance.nextInt(6);
        pages = new int[chaps];
        worth = new int[chaps];
        must = new boolean[chaps];
        lean = new int[chaps][chaps];
        for (int c = 0; c < chaps; c++) {
            pages[c] = 1 + chance.nextInt(size == SMALL ? 12 : 120);
            worth[c] = chance.nextInt(size == SMALL ? 4 : 1000);
            must[c] = chance.nextInt(3) == 0;
            int rest = 10;
            for (int d = 0; d < c; d++) {
                if (rest > 0 && chance.nextInt(size == FULL ? 9 : 3) == 0) {
                    int most = chance.nextInt(3) == 0 ? 5 : chance.nextBoolean() ? 10 : 3;
                    lean[c][d] = most == 5 && rest >= 5 ? 5 : 1 + chance.nextInt(Math.min(most, rest));
                    rest -= lean[c][d];
                }
            }
        }
        pace = chances(chance, 1, size == SMALL ? 4 : 30);
        tell = chances(chance, 0, 10);
        keep = chances(chance, 2, 10);
        time = chances(chance, 0, chance.nextBoolean() ? 40 : 10);
        if (size == FULL) {
            time[chance.nextInt(readers)] = 240;
        }
        skips = chances(chance, 0, 10);
        for (int r = 0; r < readers; r++) {
            skips[r] = skips[r] > 3 ? 0 : skips[r] == 3 ? chance.nextInt(11) : skips[r];
        }
        if (chance.nextBoolean()) {
            speed = 1 + chance.nextInt(99);
        }
        if (chance.nextBoolean()) {
            again = chance.nextInt(11);
        }
    }

    private int[] chances(Random chance, int least, int most) {
        int[] row = new int[readers];
        for (int i = 0; i < readers; i++) {
            row[i] = least + chance.nextInt(most - least + 1);
        }
        return row;
    }

    static String chapName(int c) {
        return "c" + (char) ('a' + c);
    }

    static String readerName(int r) {
        return "r" + (char) ('a' + r);
    }

    String text() {
        StringBuilder text = new StringBuilder();
        for (int c = 0; c < chaps; c++) {
            text.append("chap ").append(chapName(c)).append(' ').append(pages[c]).append(' ').append(worth[c]);
            for (int d = 0; d < c; d++) {
                if (lean[c][d] > 0) {
                    text.append(" on ").append(chapName(d)).append(' ').append(lean[c][d]);
                }
            }
            text.append(must[c] ? " must;" : ";");
        }
        for (int r = 0; r < readers; r++) {
            text.append("who ").append(readerName(r)).append(' ').append(pace[r]).append(' ').append(tell[r]);
            text.append(' ').append(keep[r]).append(' ').append(time[r]);
            text.append(skips[r] > 0 ? " skips " + skips[r] + ";" : ";");
        }
        text.append("speed ").append(speed).append(";again ").append(again).append(';');
        return text.toString();
    }

    static String text(List<Act> plan, int readers) {
        StringBuilder text = new StringBuilder();
        for (Act a : plan) {
            text.append(readerName(a.who)).append(a.f == 0 ? " reads " : " tells ").append(chapName(a.chap));
            if (a.f > 0) {
                text.append(' ').append(a.f).append(" to");
                if (a.to.size() == readers - 1) {
                    text.append(" all");
                } else {
                    for (int r : a.to) {
                        text.append(' ').append(readerName(r));
                    }
                }
            }
            text.append(';');
        }
        return text.toString();
    }

    static int up(int a, int b) {
        return a / b + (a % b == 0 ? 0 : 1);
    }

    int takes(Act a) {
        return a.f == 0 ? up(pages[a.chap], pace[a.who]) : up(pages[a.chap] * a.f, 4 * speed);
    }

    List<Integer> others(int r) {
        List<Integer> all = new ArrayList<>();
        for (int i = 0; i < readers; i++) {
            if (i != r) {
                all.add(i);
            }
        }
        return all;
    }

    static Act reads(int r, int c) {
        return new Act(r, c, 0, List.of());
    }

    /** The first WRONG ACT and why, and the state behind the RUN. */
    State state;
    int wrongAt;
    int why;

    void run(List<Act> plan) {
        state = new State();
        wrongAt = -1;
        why = 0;
        for (int i = 0; i < plan.size(); i++) {
            why = state.why(plan.get(i));
            if (why != 0) {
                wrongAt = i;
                return;
            }
            state.act(plan.get(i));
        }
    }

    // ---- KINDS

    private List<Act> made;

    private boolean add(Act a) {
        if (made.size() >= 100 || state.why(a) != 0) {
            return false;
        }
        state.act(a);
        made.add(a);
        return true;
    }

    List<Act> make(int kind, int k) {
        made = new ArrayList<>();
        state = new State();
        if (kind == 1) {
            makeLean(k);
            return made;
        }
        int r = 0;
        for (int c = 0; c < chaps; c++) {
            while (r < readers && !add(reads(r, c))) {
                r++;
            }
            if (r == readers) {
                break;
            }
        }
        if (kind == 2) {
            makeTwice(k);
        } else if (kind == 3) {
            makeChain(k);
        } else if (kind == 4) {
            makeRound(k);
        }
        return made;
    }

    private void makeLean(int k) {
        boolean[][] near = new boolean[chaps][chaps];
        for (int c = 0; c < chaps; c++) {
            for (int d = 0; d < chaps; d++) {
                near[c][d] = c == d || lean[c][d] >= k || lean[d][c] >= k;
            }
        }
        for (int m = 0; m < chaps; m++) {
            for (int c = 0; c < chaps; c++) {
                for (int d = 0; d < chaps; d++) {
                    near[c][d] |= near[c][m] && near[m][d];
                }
            }
        }
        boolean[] gone = new boolean[chaps];
        for (int c = 0; c < chaps && readers > 0; c++) {
            if (gone[c]) {
                continue;
            }
            int who = 0;
            for (int r = 0; r < readers; r++) {
                if (state.left[r] > state.left[who]) {
                    who = r;
                }
            }
            boolean open = true;
            for (int d = c; d < chaps; d++) {
                if (near[c][d]) {
                    gone[d] = true;
                    open = open && add(reads(who, d));
                }
            }
        }
    }

    private void makeTwice(int k) {
        List<Integer> order = new ArrayList<>();
        for (int c = 0; c < chaps; c++) {
            order.add(c);
        }
        order.sort((c, d) -> worth[d] - worth[c]);
        for (int c : order.subList(0, Math.min(k, chaps))) {
            int who = -1;
            for (int r = readers - 1; r >= 0; r--) {
                if (!state.read[r][c] && (who < 0 || state.left[r] >= state.left[who])) {
                    who = r;
                }
            }
            if (who >= 0) {
                add(reads(who, c));
            }
        }
    }

    private void makeChain(int k) {
        for (int c = 0; c < chaps; c++) {
            for (int r = 0; r < readers; r++) {
                if (state.read[r][c]) {
                    int from = r;
                    int to = (r + 1) % readers;
                    while (!state.read[to][c] && add(new Act(from, c, k, List.of(to)))) {
                        from = to;
                        to = (to + 1) % readers;
                    }
                }
            }
        }
    }

    private void makeRound(int k) {
        for (int r = 0; r < readers; r++) {
            for (int c = 0; c < chaps; c++) {
                if (state.read[r][c]) {
                    List<Integer> to = new ArrayList<>();
                    for (int other : others(r)) {
                        if (state.left[other] >= up(pages[c] * k, 4 * speed)) {
                            to.add(other);
                        }
                    }
                    if (!to.isEmpty()) {
                        add(new Act(r, c, k, to));
                    }
                }
            }
        }
    }

    List<Act> drawn(int n, int seed) {
        List<Act> plan = new ArrayList<>();
        int x = seed;
        for (int i = 0; i < n; i++) {
            x = x * 1103515245 + 12345;
            int r = (x >>> 8) % readers;
            x = x * 1103515245 + 12345;
            int c = (x >>> 8) % chaps;
            x = x * 1103515245 + 12345;
            if ((x >>> 8) % 4 == 0) {
                x = x * 1103515245 + 12345;
                plan.add(new Act(r, c, 1 + (x >>> 8) % 4, others(r)));
            } else {
                plan.add(reads(r, c));
            }
        }
        return plan;
    }

    // ---- what is searched for: every one is tried

    int[] bestOf;

    long best(int m, int w) {
        long most = -1;
        int all = (int) Math.round(Math.pow(w + 1, m));
        for (int code = 0; code < all; code++) {
            int[] who = new int[m];
            int rest = code;
            for (int c = m - 1; c >= 0; c--) {
                who[c] = rest % (w + 1);
                rest /= w + 1;
            }
            State s = new State();
            boolean timely = true;
            for (int c = 0; c < m; c++) {
                if (who[c] < w) {
                    s.left[who[c]] -= takes(reads(who[c], c));
                    timely &= s.left[who[c]] >= 0;
                    s.read(who[c], c);
                }
            }
            for (int c = 0; c < m && timely; c++) {
                for (int r = 0; r < w && who[c] < w; r++) {
                    if (r != who[c]) {
                        s.tell(who[c], r, c, 4, true, true);
                    }
                }
            }
            if (timely && s.sum() > most) {
                most = s.sum();
                bestOf = who;
            }
        }
        for (int c = 0; c < m; c++) {
            bestOf[c] = bestOf[c] == w ? -1 : bestOf[c];
        }
        return most;
    }

    int[] ends;

    int cut(int k, int most) {
        int least = Integer.MAX_VALUE;
        int[] first = null;
        for (int set = 0; set < 1 << chaps; set++) {
            // A bit of the set is a last CHAP.
            if (Integer.bitCount(set) != k || chaps == 0 || (set >> (chaps - 1) & 1) == 0) {
                continue;
            }
            int[] stretch = new int[chaps];
            int[] sizes = new int[k];
            int[] now = new int[k];
            int s = 0;
            for (int c = 0; c < chaps; c++) {
                stretch[c] = s;
                sizes[s] += pages[c];
                if ((set >> c & 1) != 0) {
                    now[s++] = c;
                }
            }
            int over = 0;
            for (int c = 0; c < chaps; c++) {
                for (int d = 0; d < c; d++) {
                    over += stretch[c] != stretch[d] ? lean[c][d] : 0;
                }
            }
            boolean fits = Arrays.stream(sizes).allMatch(p -> p <= most);
            if (fits && (over < least || over == least && Arrays.compare(now, first) < 0)) {
                least = over;
                first = now;
            }
        }
        if (first == null) {
            return -1;
        }
        ends = first;
        return least;
    }

    int side = -1;

    int net(int[] told, int most) {
        int least = -1;
        int n = told.length;
        for (int set = 0; set < 1 << n; set++) {
            if (set == 0 || set == (1 << n) - 1 || (set >> (n - 1) & 1) != 0) {
                continue;
            }
            int[] sizes = new int[2];
            int over = 0;
            for (int i = 0; i < n; i++) {
                sizes[set >> i & 1] += pages[told[i]];
                for (int j = 0; j < n; j++) {
                    over += (set >> i & 1) != (set >> j & 1) ? lean[told[i]][told[j]] : 0;
                }
            }
            if (sizes[0] <= most && sizes[1] <= most && (least < 0 || over < least)) {
                least = over;
                side = set;
            }
        }
        return least;
    }

    int[] row;

    long chain(int[] told) {
        row = null;
        return chain(told, new int[] {0}, -1);
    }

    private long chain(int[] told, int[] places, long most) {
        if (places.length == told.length) {
            long sum = MILLION;
            long k = MILLION;
            for (int i = 1; i < places.length; i++) {
                k = k * tell[told[places[i - 1]]] / 10 * keep[told[places[i]]] / 10;
                k = i > 1 ? k * again / 10 : k;
                sum += k;
            }
            if (sum > most) {
                row = Arrays.stream(places).map(p -> told[p]).toArray();
                return sum;
            }
            return most;
        }
        for (int p = 1; p < told.length; p++) {
            int next = p;
            if (Arrays.stream(places).noneMatch(q -> q == next)) {
                int[] more = Arrays.copyOf(places, places.length + 1);
                more[places.length] = p;
                most = chain(told, more, most);
            }
        }
        return most;
    }

    int set;

    private int worthOf(int bits) {
        int sum = 0;
        for (int c = 0; c < chaps; c++) {
            sum += (bits >> c & 1) * worth[c];
        }
        return sum;
    }

    int alone(int r) {
        int most = -1;
        for (int bits = 0; bits < 1 << chaps; bits++) {
            int needs = 0;
            for (int c = 0; c < chaps; c++) {
                needs += (bits >> c & 1) * up(pages[c], pace[r]);
            }
            if (needs <= time[r] && worthOf(bits) > most) {
                most = worthOf(bits);
                set = bits;
            }
        }
        return most;
    }

    int leave() {
        int all = Arrays.stream(time).sum();
        int quick = Arrays.stream(pace).max().getAsInt();
        int least = Integer.MAX_VALUE;
        for (int bits = 0; bits < 1 << chaps; bits++) {
            int needs = 0;
            boolean closed = true;
            for (int c = 0; c < chaps; c++) {
                needs += (bits >> c & 1) != 0 ? 0 : up(pages[c], quick);
                for (int d = 0; d < chaps; d++) {
                    closed &= lean[c][d] < 5 || (bits >> d & 1) == 0 || (bits >> c & 1) != 0;
                }
            }
            if (closed && needs <= all && worthOf(bits) < least) {
                least = worthOf(bits);
                set = bits;
            }
        }
        return least;
    }

    /** By how much, the READER, the CHAP; run() has been called. */
    long[] extra(List<Act> plan) {
        long[] most = {-1, -1, -1};
        run(plan);
        long before = state.sum();
        List<Act> done = plan.subList(0, wrongAt < 0 ? plan.size() : wrongAt);
        for (int r = 0; r < readers; r++) {
            for (int c = 0; c < chaps; c++) {
                run(done);
                if (!state.read[r][c] && state.why(reads(r, c)) == 0) {
                    state.act(reads(r, c));
                    if (state.sum() - before > most[0]) {
                        most = new long[] {state.sum() - before, r, c};
                    }
                }
            }
        }
        return most;
    }

    int ask(int[] questions, int lacking) {
        int fewest = -1;
        for (int bits = 0; bits < 1 << questions.length; bits++) {
            int has = 0;
            for (int i = 0; i < questions.length; i++) {
                has |= (bits >> i & 1) != 0 ? questions[i] : 0;
            }
            if ((lacking & has) == lacking && (fewest < 0 || Integer.bitCount(bits) < fewest)) {
                fewest = Integer.bitCount(bits);
                set = bits;
            }
        }
        return fewest;
    }

    /** SUM, how many are dropped, who HELPS, the SUM then. */
    long[] ill(List<Act> plan, int sick, int ahead) {
        long[] found = {0, 0, -1, -1};
        for (int h = -1; h < readers; h++) {
            if (h == sick) {
                continue;
            }
            State s = new State();
            int dropped = 0;
            List<Integer> missed = new ArrayList<>();
            for (int i = 0; i < plan.size(); i++) {
                Act a = plan.get(i);
                if (i >= ahead) {
                    List<Integer> to = new ArrayList<>(a.to);
                    to.remove((Integer) sick);
                    if (a.who == sick && a.f == 0) {
                        missed.add(a.chap);
                    }
                    if (a.who == sick || a.f > 0 && to.isEmpty()) {
                        dropped++;
                        continue;
                    }
                    a = new Act(a.who, a.chap, a.f, to);
                }
                if (s.why(a) != 0) {
                    dropped++;
                } else {
                    s.act(a);
                }
            }
            if (h < 0) {
                found[0] = s.sum();
                found[1] = dropped;
                continue;
            }
            for (int c : missed) {
                if (s.read[h][c]) {
                    continue;
                }
                if (s.why(reads(h, c)) != 0) {
                    break;
                }
                s.act(reads(h, c));
            }
            if (s.sum() > found[3]) {
                found[2] = h;
                found[3] = s.sum();
            }
        }
        return found;
    }
}

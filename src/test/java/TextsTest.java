import java.util.ArrayList;
import java.util.List;
import java.util.Random;

/** Texts by chance, most of them nearly right: what is answered, the FAULT, and what the text says, against the grammar. */
public final class TextsTest {
    private static final TestHelp HELP = new TestHelp();
    private static final int RUNS = 4000;
    private static final int TAPE = 1040;
    private static final String GOOD_BOOK = "chap a 5 9;chap b 9 100 on a 5;chap c 3 30 on a 2 on b 3 must;"
        + "who x 3 9 8 30;who y 9 5 9 9 skips 3;who z 1 9 9 90;";
    private static final String ONE_READER = "chap a 5 9;who x 3 9 8 30;";
    private static final String[] BOOK_WORDS = {"chap", "on", "must", "who", "skips", "speed", "again"};
    private static final String[] PLAN_WORDS = {"reads", "tells", "to", "all"};
    private static final String[] SENTENCE_WORDS = {"or", "and", "not", "read", "told", "knows", "total", "left", "count"};
    private static final String[] OTHERS = {";", "<", "=", ">", "(", ")", "0", "1", "5", "10", "11", "240", "999", "1000",
        "007", "a", "b", "x", "y", "abcdef", "abcdefg", "a1", "1a", ".", "-", "A", "\t", "\r", "\u0000", "\u00e9"};

    /** How many texts of each sort (BOOK, PLAN, SENTENCE) had each FAULT, 0 for none. */
    private static final int[][] MET = new int[3][5];

    private final Random chance;
    /** How rarely a piece is wrong, and whether there are few blanks: a long text would seldom come to its end. */
    private int rarely;
    private boolean tight;
    private NineReaders x = new NineReaders();
    private TextReference.Book book;

    private TextsTest(int seed) {
        chance = new Random(seed);
        book = TextReference.book("");
    }

    public static void main(String[] args) {
        for (int seed = 0; seed < RUNS; seed++) {
            TextsTest one = new TextsTest(seed);
            one.takeBooks();
            one.takePlans();
            one.takeSentences();
        }
        for (int sort = 0; sort < 3; sort++) {
            for (int kind = 0; kind < 5; kind++) {
                boolean possible = sort < 2 || kind != 2;
                HELP.due("texts of sort " + sort + " with FAULT " + kind + " came", MET[sort][kind] > 20, possible);
            }
        }
        HELP.finish();
    }

    // ---- what is compared

    private interface Reading {
        int answer();
    }

    /** Whether the text has no FAULT. */
    private boolean take(int sort, String text, int answered, Reading wanted) {
        int due;
        int kind = 0;
        try {
            due = wanted.answer();
        } catch (TextReference.Fault fault) {
            due = -1 - fault.place;
            kind = fault.kind;
        }
        MET[sort][kind]++;
        String call = "text " + sort + " [" + text + "]";
        HELP.due(call, answered, due);
        HELP.due(call + ", then fault()", x.fault(), kind);
        HELP.due(call + ", then count(5)", x.count(5), 0);
        return kind == 0;
    }

    /** One BOOK behind another: one with a FAULT leaves the one ahead. */
    private void takeBooks() {
        for (int times = 0; times < 2; times++) {
            String text = bookText();
            take(0, text, TestHelp.book(x, text), () -> {
                book = TextReference.book(text);
                return book.lines;
            });
            dueFacts("[" + text + "]");
        }
    }

    private void dueFacts(String call) {
        HELP.due(call + " CHAPS", x.count(0), book.chaps.size());
        HELP.due(call + " READERS", x.count(1), book.readers.size());
        HELP.due(call + " speed", x.count(3), book.speed);
        HELP.due(call + " again", x.count(4), book.again);
        for (int c = 0; c < book.chaps.size(); c++) {
            String name = book.chaps.get(c);
            int what = chance.nextInt(4);
            HELP.due(call + " chap " + c + " " + what, x.chap(c, what), book.facts.get(name)[what]);
            int d = chance.nextInt(book.chaps.size());
            int leans = book.leans.get(name).getOrDefault(book.chaps.get(d), 0);
            HELP.due(call + " leans " + c + " " + d, x.leans(c, d), leans);
        }
        for (int r = 0; r < book.readers.size(); r++) {
            for (int what = 0; what < 5; what++) {
                int due = book.facts.get(book.readers.get(r))[what];
                HELP.due(call + " reader " + r + " " + what, x.reader(r, what), due);
            }
        }
    }

    /** Most of the PLANS and SENTENCES are of a BOOK that has what they name. */
    private void takeGoodBook() {
        if (chance.nextInt(10) > 0) {
            String good = chance.nextInt(10) > 0 ? GOOD_BOOK : ONE_READER;
            x = TestHelp.withBook(good);
            book = TextReference.book(good);
        }
    }

    private List<int[]> acts;

    private void takePlans() {
        takeGoodBook();
        acts = new ArrayList<>();
        for (int times = 0; times < 2; times++) {
            String text = planText();
            take(1, text, TestHelp.plan(x, text), () -> {
                acts = TextReference.plan(text, book);
                return acts.size();
            });
            HELP.due("[" + text + "] ACTS", x.count(2), acts.size());
            for (int i = 0; i < acts.size() && i < x.count(2); i++) {
                int what = chance.nextInt(4);
                HELP.due("[" + text + "] act " + i + " " + what, x.act(i, what), acts.get(i)[what]);
            }
        }
    }

    private TextReference sentence;

    private void takeSentences() {
        takeGoodBook();
        if (!book.readers.isEmpty() && chance.nextInt(5) > 0) {
            x.make(chance.nextInt(5), 1 + chance.nextInt(4));
        }
        sentence = null;
        for (int times = 0; times < 3; times++) {
            String text = sentenceText();
            take(2, text, TestHelp.sentence(x, text), () -> {
                sentence = TextReference.sentence(text, book);
                return sentence.ones;
            });
            HELP.due("[" + text + "] said", x.said(), sentence == null ? -1 : sentence.saidOf(x));
        }
    }

    // ---- texts by chance

    private String oneOf(String... some) {
        return some[chance.nextInt(some.length)];
    }

    private String number(int least, int most) {
        switch (chance.nextInt(rarely)) {
            case 0:
                return String.valueOf(most + 1);
            case 1:
                return String.valueOf(Math.max(0, least - 1));
            case 2:
            case 3:
                return String.valueOf(least);
            case 4:
            case 5:
                return String.valueOf(most);
            default:
                return String.valueOf(least + chance.nextInt(most - least + 1));
        }
    }

    /** A NAME of the first so many; rarely any WORD. */
    private String name(char first, int many) {
        if (many < 1 || chance.nextInt(rarely) == 0) {
            return oneOf(oneOf(BOOK_WORDS), oneOf(PLAN_WORDS), oneOf(SENTENCE_WORDS), "a", "x", "q", "abcdef", "abcdefg");
        }
        return String.valueOf((char) (first + chance.nextInt(many)));
    }

    private void add(List<String> text, String... more) {
        text.addAll(List.of(more));
    }

    private void choose(boolean large) {
        rarely = large ? 2000 : 60;
        tight = large;
    }

    private String bookText() {
        List<List<String>> lines = new ArrayList<>();
        boolean large = chance.nextInt(12) == 0;
        choose(large);
        int chaps = large ? 14 + chance.nextInt(4) : chance.nextInt(5);
        int readers = large ? 8 + chance.nextInt(3) : chance.nextInt(4);
        for (int c = 0; c < chaps; c++) {
            lines.add(chapLine(c, large));
        }
        for (int r = 0; r < readers; r++) {
            lines.add(whoLine(r));
        }
        for (int times = chance.nextInt(4); times > 0; times--) {
            String word = oneOf("speed", "again");
            List<String> line = List.of(word, word.equals("speed") ? number(1, 99) : number(0, 10), ";");
            lines.add(chance.nextInt(lines.size() + 1), line);
        }
        for (int times = chance.nextInt(3); times > 0 && !lines.isEmpty(); times--) {
            List<String> moved = lines.remove(chance.nextInt(lines.size()));
            lines.add(chance.nextInt(lines.size() + 1), moved);
        }
        List<String> text = new ArrayList<>();
        lines.forEach(text::addAll);
        return joined(text, TextReference.BOOK_BYTES, BOOK_WORDS);
    }

    private List<String> chapLine(int c, boolean large) {
        List<String> line = new ArrayList<>();
        String name = chance.nextInt(40) == 0 ? name('a', c) : String.valueOf((char) ('a' + c));
        add(line, "chap", name, number(1, 999), number(0, 999));
        int most = chance.nextInt(3) == 0 ? 5 : 3;
        for (int d = 0; d < c && d < 4; d++) {
            if (chance.nextInt(large ? 9 : 2) == 0) {
                String other = chance.nextInt(20) == 0 ? name('a', c + 1) : String.valueOf((char) ('a' + d));
                add(line, "on", other, number(1, most));
            }
        }
        if (chance.nextInt(3) == 0) {
            add(line, "must");
        }
        add(line, ";");
        return line;
    }

    private List<String> whoLine(int r) {
        List<String> line = new ArrayList<>();
        String name = chance.nextInt(40) == 0 ? name('a', 20) : "r" + (char) ('a' + r);
        add(line, "who", name, number(1, 99), number(0, 10), number(0, 10), number(0, 240));
        if (chance.nextInt(3) == 0) {
            add(line, "skips", number(0, 10));
        }
        add(line, ";");
        return line;
    }

    private String planText() {
        List<String> text = new ArrayList<>();
        boolean large = chance.nextInt(8) == 0;
        choose(large);
        for (int times = large ? 56 + chance.nextInt(8) : chance.nextInt(9); times > 0; times--) {
            String who = name('x', 3);
            if (large && chance.nextInt(60) > 0 || chance.nextBoolean()) {
                add(text, who, "reads", name('a', 3), ";");
            } else {
                add(text, who, "tells", name('a', 3), number(1, 4), "to");
                addListeners(text, who);
                add(text, ";");
            }
        }
        return joined(text, TextReference.PLAN_BYTES, PLAN_WORDS);
    }

    private void addListeners(List<String> text, String who) {
        if (chance.nextInt(3) == 0) {
            add(text, "all");
            return;
        }
        for (String one : List.of("z", "x", "y")) {
            if (!one.equals(who) && chance.nextBoolean() || chance.nextInt(30) == 0) {
                add(text, one);
            }
        }
        if (text.get(text.size() - 1).equals("to")) {
            add(text, who.equals("y") ? "x" : "y");
        }
    }

    private int budget;

    private String sentenceText() {
        List<String> text = new ArrayList<>();
        choose(false);
        budget = chance.nextInt(4) == 0 ? 17 + chance.nextInt(8) : 1 + chance.nextInt(9);
        addCond(text, 1);
        return joined(text, TextReference.SENTENCE_BYTES, SENTENCE_WORDS);
    }

    private void addCond(List<String> text, int within) {
        addOne(text, within);
        while (budget > 0 && chance.nextInt(5) > 0) {
            add(text, oneOf("or", "and"));
            addOne(text, within);
        }
    }

    private void addOne(List<String> text, int within) {
        budget--;
        int which = chance.nextInt(8);
        if (within < 11 && budget > 0 && chance.nextInt(4) == 0) {
            which = chance.nextInt(2);
        }
        if (which == 0 && within < 11) {
            add(text, "not");
            addOne(text, within + 1);
        } else if (which == 1 && within < 11) {
            add(text, "(");
            addCond(text, within + 1);
            add(text, ")");
        } else if (which < 4) {
            add(text, oneOf("read", "told"), name('a', 3));
        } else if (which == 4) {
            add(text, "knows", name('a', 3), oneOf("<", "=", ">"), number(0, 100));
        } else {
            add(text, oneOf("total", "left", "count"), oneOf("<", "=", ">"), number(0, chance.nextBoolean() ? 3 : 100));
        }
    }

    // ---- wrong pieces, blanks, lengths

    private String joined(List<String> text, int limit, String[] words) {
        if (chance.nextInt(5) < 2) {
            for (int times = 1 + chance.nextInt(2); times > 0; times--) {
                spoil(text, words);
            }
        }
        StringBuilder all = new StringBuilder();
        // One gap that brings the end, or a TOKEN ahead of it, near the most bytes.
        int gap = chance.nextInt(12) == 0 ? chance.nextInt(text.size() + 1) : -1;
        int upTo = gap + chance.nextInt(Math.max(1, text.size() - gap + 1));
        for (int i = 0; i <= text.size(); i++) {
            if (i == gap) {
                int ahead = all.length() + String.join(" ", text.subList(i, upTo)).length();
                all.append("\n".repeat(Math.max(0, limit - 4 + chance.nextInt(9) - ahead)));
            }
            if (i < text.size()) {
                all.append(text.get(i)).append(blanks(text, i));
            }
        }
        if (chance.nextInt(40) == 0 && all.length() > 0) {
            all.setCharAt(chance.nextInt(all.length()), (char) chance.nextInt(256));
        }
        return all.substring(0, Math.min(all.length(), TAPE));
    }

    private void spoil(List<String> text, String[] words) {
        int i = chance.nextInt(text.size() + 1);
        String piece = chance.nextBoolean() ? oneOf(words) : oneOf(oneOf(OTHERS), oneOf(OTHERS), oneOf(PLAN_WORDS), oneOf(SENTENCE_WORDS));
        if (i == text.size() || chance.nextInt(4) == 0) {
            text.add(i, piece);
        } else if (chance.nextInt(3) == 0) {
            text.remove(i);
        } else if (chance.nextBoolean()) {
            text.set(i, piece);
        } else {
            text.add(chance.nextInt(text.size()), text.get(i));
        }
    }

    /** Behind a piece: nothing where the next one is told apart without, but rarely. */
    private String blanks(List<String> text, int i) {
        boolean sign = !Character.isLetterOrDigit(text.get(i).charAt(0))
            || i + 1 < text.size() && !Character.isLetterOrDigit(text.get(i + 1).charAt(0));
        if (sign && (tight || chance.nextBoolean()) || chance.nextInt(400) == 0) {
            return "";
        }
        switch (tight ? 2 : chance.nextInt(12)) {
            case 0:
                return "\n";
            case 1:
                return " \n ";
            default:
                return " ";
        }
    }
}

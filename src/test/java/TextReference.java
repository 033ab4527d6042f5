import java.util.ArrayList;
import java.util.Arrays;
import java.util.HashMap;
import java.util.List;
import java.util.Map;
import java.util.Set;
import java.util.regex.Matcher;
import java.util.regex.Pattern;

/** The grammar and the FAULTS of the three texts once more, in the plainest form, to compare the class with. */
final class TextReference {
    static final int BOOK_BYTES = 1000;
    static final int PLAN_BYTES = 700;
    static final int SENTENCE_BYTES = 200;
    private static final Set<String> NO_NAMES = Set.of(("chap on must who skips speed again reads tells to all or and not"
        + " read told knows total left count").split(" "));

    /** The first FAULT of a text. */
    static final class Fault extends RuntimeException {
        final int place;
        final int kind;

        Fault(int place, int kind) {
            this.place = place;
            this.kind = kind;
        }
    }

    record Token(int place, String text) {
    }

    /** What a BOOK's text says; a LINE's numbers by its NAME. */
    static final class Book {
        final List<String> chaps = new ArrayList<>();
        final List<String> readers = new ArrayList<>();
        final Map<String, int[]> facts = new HashMap<>();
        final Map<String, Map<String, Integer>> leans = new HashMap<>();
        int lines;
        int speed = 20;
        int again = 8;
    }

    /** Whether a ONE or more of them joined hold of a READER. */
    interface Cond {
        boolean of(NineReaders x, int r);
    }

    /** END and a TOKEN that is none have texts that no TOKEN has. */
    private static final String END = "";
    private static final String NO_TOKEN = "?";

    private final List<Token> tokens = new ArrayList<>();
    private int at;
    private Book book;
    int ones;

    private TextReference(String text, int limit) {
        Matcher piece = Pattern.compile("[a-z0-9]+|[^ \n]").matcher(text);
        while (piece.find()) {
            boolean known = piece.group().matches("[a-z]{1,6}|[0-9]{1,3}|[;<=>()]");
            tokens.add(new Token(piece.start(), known ? piece.group() : NO_TOKEN));
        }
        if (text.length() > limit) {
            tokens.removeIf(token -> token.place >= limit);
            tokens.add(new Token(limit, NO_TOKEN));
        }
        tokens.add(new Token(text.length(), END));
    }

    // ---- TOKENS

    private String now() {
        return tokens.get(at).text;
    }

    private boolean isNow(String word) {
        return now().equals(word);
    }

    private Fault fault(int kind) {
        return new Fault(tokens.get(at).place, kind);
    }

    private void must(boolean so, int kind) {
        if (!so) {
            throw fault(kind);
        }
    }

    private void pass(String word) {
        must(isNow(word), 1);
        at++;
    }

    private boolean passes(String word) {
        boolean found = isNow(word);
        at += found ? 1 : 0;
        return found;
    }

    private int number(int least, int most) {
        must(now().matches("[0-9]+"), 1);
        int number = Integer.parseInt(now());
        must(number >= least && number <= most, 2);
        at++;
        return number;
    }

    private String name() {
        must(now().matches("[a-z]+") && !NO_NAMES.contains(now()), 1);
        return now();
    }

    private String nameOf(List<String> sort) {
        must(sort.contains(name()), 3);
        return tokens.get(at++).text;
    }

    private String newName() {
        must(!book.facts.containsKey(name()), 3);
        return tokens.get(at++).text;
    }

    // ---- a BOOK

    static Book book(String text) {
        TextReference reading = new TextReference(text, BOOK_BYTES);
        reading.book = new Book();
        reading.lines();
        return reading.book;
    }

    private void lines() {
        boolean speed = false;
        boolean again = false;
        while (!isNow(END)) {
            switch (now()) {
                case "chap" -> chapLine();
                case "who" -> whoLine();
                case "speed" -> {
                    must(!speed, 3);
                    at++;
                    book.speed = number(1, 99);
                    speed = true;
                }
                case "again" -> {
                    must(!again, 3);
                    at++;
                    book.again = number(0, 10);
                    again = true;
                }
                default -> throw fault(1);
            }
            pass(";");
            book.lines++;
        }
    }

    private void chapLine() {
        must(book.chaps.size() < 16, 4);
        at++;
        String name = newName();
        int[] facts = {number(1, 999), number(0, 999), 0, 0};
        Map<String, Integer> leans = new HashMap<>();
        while (passes("on")) {
            must(!leans.containsKey(name()), 3);
            String other = nameOf(book.chaps);
            int together = leans.values().stream().mapToInt(n -> n).sum();
            leans.put(other, number(1, 10 - together));
        }
        facts[2] = passes("must") ? 1 : 0;
        facts[3] = leans.size();
        book.chaps.add(name);
        book.facts.put(name, facts);
        book.leans.put(name, leans);
    }

    private void whoLine() {
        must(book.readers.size() < 9, 4);
        at++;
        String name = newName();
        int[] facts = {number(1, 99), number(0, 10), number(0, 10), number(0, 240), 0};
        if (passes("skips")) {
            facts[4] = number(0, 10);
        }
        book.readers.add(name);
        book.facts.put(name, facts);
    }

    // ---- a PLAN: its ACTS as act() tells them

    static List<int[]> plan(String text, Book book) {
        TextReference reading = new TextReference(text, PLAN_BYTES);
        reading.book = book;
        List<int[]> acts = new ArrayList<>();
        while (!reading.isNow(END)) {
            reading.act(acts);
            reading.pass(";");
        }
        return acts;
    }

    private void act(List<int[]> acts) {
        must(book.readers.contains(name()), 3);
        must(acts.size() < 60, 4);
        int who = book.readers.indexOf(nameOf(book.readers));
        if (passes("reads")) {
            acts.add(new int[] {who, book.chaps.indexOf(nameOf(book.chaps)), 0, 0});
            return;
        }
        pass("tells");
        int chap = book.chaps.indexOf(nameOf(book.chaps));
        int f = number(1, 4);
        pass("to");
        acts.add(new int[] {who, chap, f, listeners(who)});
    }

    private int listeners(int who) {
        int all = (1 << book.readers.size()) - 1 - (1 << who);
        if (all != 0 && passes("all")) {
            return all;
        }
        int bits = 0;
        do {
            int one = book.readers.indexOf(name());
            must(one >= 0 && one != who && (bits >> one & 1) == 0, 3);
            bits |= 1 << one;
            at++;
        } while (!isNow(";"));
        return bits;
    }

    // ---- a SENTENCE

    private Cond said;

    static TextReference sentence(String text, Book book) {
        TextReference reading = new TextReference(text, SENTENCE_BYTES);
        reading.book = book;
        reading.said = reading.cond(1);
        reading.must(reading.isNow(END), 1);
        return reading;
    }

    int saidOf(NineReaders x) {
        int bits = 0;
        for (int r = 0; r < book.readers.size(); r++) {
            bits |= said.of(x, r) ? 1 << r : 0;
        }
        return bits;
    }

    private Cond cond(int within) {
        Cond first = all(within);
        while (passes("or")) {
            Cond one = first;
            Cond other = all(within);
            first = (x, r) -> one.of(x, r) || other.of(x, r);
        }
        return first;
    }

    private Cond all(int within) {
        Cond first = one(within);
        while (passes("and")) {
            Cond one = first;
            Cond other = one(within);
            first = (x, r) -> one.of(x, r) && other.of(x, r);
        }
        return first;
    }

    private Cond one(int within) {
        String word = now();
        must(Arrays.asList("not", "(", "read", "told", "knows", "total", "left", "count").contains(word), 1);
        must(ones < 20 && within <= 8, 4);
        ones++;
        at++;
        switch (word) {
            case "not":
                Cond other = one(within + 1);
                return (x, r) -> !other.of(x, r);
            case "(":
                Cond inside = cond(within + 1);
                pass(")");
                return inside;
            case "read":
            case "told":
                int chap = book.chaps.indexOf(nameOf(book.chaps));
                int what = word.equals("read") ? 2 : 3;
                return (x, r) -> (x.after(r, what) >> chap & 1) == 1;
            case "knows":
                int known = book.chaps.indexOf(nameOf(book.chaps));
                return compared((x, r) -> x.known(r, known) / 10000);
            case "total":
                return compared((x, r) -> x.after(r, 1));
            case "left":
                return compared((x, r) -> x.after(r, 0));
            default:
                return compared((x, r) -> Integer.bitCount(x.after(r, 2)));
        }
    }

    private interface Found {
        int of(NineReaders x, int r);
    }

    private Cond compared(Found found) {
        String sign = now();
        must(sign.matches("[<=>]"), 1);
        at++;
        int number = number(0, 999);
        switch (sign) {
            case "<":
                return (x, r) -> found.of(x, r) < number;
            case "=":
                return (x, r) -> found.of(x, r) == number;
            default:
                return (x, r) -> found.of(x, r) > number;
        }
    }
}

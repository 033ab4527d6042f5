import java.nio.charset.StandardCharsets;
import java.util.NoSuchElementException;

/** What the tests share: putting texts on the tape, and counting answers that are not as due. */
final class TestHelp {
    interface Call {
        long answer();
    }

    private int wrong;
    private int checks;

    static void put(NineReaders x, byte[] bytes) {
        x.end(0);
        for (int i = 0; i < bytes.length; i += 20) {
            x.feed(word(bytes, i), word(bytes, i + 4), word(bytes, i + 8), word(bytes, i + 12), word(bytes, i + 16));
        }
        if (!x.end(bytes.length)) {
            throw new IllegalStateException("the tape did not take " + bytes.length + " bytes");
        }
    }

    static int word(byte[] bytes, int at) {
        int word = 0;
        for (int i = at; i < at + 4; i++) {
            word = word << 8 | (i < bytes.length ? bytes[i] & 255 : 0);
        }
        return word;
    }

    static void put(NineReaders x, String text) {
        put(x, text.getBytes(StandardCharsets.ISO_8859_1));
    }

    static void put(NineReaders x, int... bytes) {
        byte[] row = new byte[bytes.length];
        for (int i = 0; i < row.length; i++) {
            row[i] = (byte) bytes[i];
        }
        put(x, row);
    }

    static int book(NineReaders x, String text) {
        put(x, text);
        return x.book();
    }

    static int plan(NineReaders x, String text) {
        put(x, text);
        return x.plan();
    }

    static int sentence(NineReaders x, String text) {
        put(x, text);
        return x.sentence();
    }

    static NineReaders withBook(String text) {
        NineReaders x = new NineReaders();
        if (book(x, text) < 0) {
            throw new IllegalStateException("a wrong book in a test: " + text);
        }
        return x;
    }

    static NineReaders with(String book, String plan) {
        NineReaders x = withBook(book);
        if (plan(x, plan) < 0) {
            throw new IllegalStateException("a wrong plan in a test: " + plan);
        }
        return x;
    }

    /** The LINES of the first so many of 26 CHAPS or READERS, each NAME a sort's letter and one more. */
    static String lines(String word, String sort, int many, String facts) {
        StringBuilder text = new StringBuilder();
        for (int i = 0; i < many; i++) {
            text.append(word).append(' ').append(sort).append((char) ('a' + i)).append(' ').append(facts).append(';');
        }
        return text.toString();
    }

    static String padded(String text, int length) {
        return text + " ".repeat(length - text.length());
    }

    void due(String call, long got, long want) {
        checks++;
        if (got != want) {
            wrong++;
            if (wrong <= 40) {
                System.out.println(call + " answered " + got + ", due is " + want);
            }
        }
    }

    void due(String call, boolean got, boolean want) {
        due(call, got ? 1 : 0, want ? 1 : 0);
    }

    void dueNone(String call, Call made) {
        boolean threw = false;
        try {
            made.answer();
        } catch (NoSuchElementException e) {
            threw = true;
        }
        due(call + " throws NoSuchElementException", threw, true);
    }

    void finish() {
        System.out.println(checks + " answers, " + wrong + " not as due");
        if (wrong != 0 || checks == 0) {
            System.exit(1);
        }
    }
}

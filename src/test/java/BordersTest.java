import java.io.IOException;

/** At each border that the document names: the last case within, the first that is not, and what a refused call leaves. */
public final class BordersTest {
    public static void main(String[] args) throws IOException {
        Borders borders = new Borders();
        new TextBorders(borders).all();
        new RunBorders(borders).all();
        new KindBorders(borders).all();
        new SearchBorders(borders).all();
        new BehindBorders(borders).all();
        new PromiseBorders(borders).all();
        borders.finish();
    }
}

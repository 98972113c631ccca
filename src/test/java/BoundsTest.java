import java.io.IOException;

/** Each sentence of the document: at its bounds, one below, one above, and that what is refused changes nothing. */
public final class BoundsTest {
    private BoundsTest() {
    }

    public static void main(String[] args) throws IOException {
        Book book = new Book();
        new NetBounds(book).run();
        new PlanBounds(book).run();
        new DoneBounds(book).run();
        new TextBounds(book).run();
        new SheetBounds(book).run();
        book.end();
    }
}

/** Promises 34 and 35: the image, and all as it was. */
public final class ImageTest {
    private static final Due DUE = new Due("ImageTest");

    public static void main(String[] args) {
        MinorTables x = Due.table(2, 1, 2, 3, 7);
        DUE.is("35 none", x.undo(), -3);
        fill(x);
        DUE.is("34 image", x.image(), 2);
        change(x);
        DUE.is("35 undo", x.undo(), 2);
        looksFilled(x);
        DUE.is("35 leaves the text", x.count(3), 5);
        DUE.is("35 leaves the tapes", x.peek(0, 0), 9);
        x.set(0, 40);
        x.chip(0, 0, 1);
        x.minor(1, 1);
        x.event(0, 0);
        DUE.is("35 again", x.undo(), 2);
        looksFilled(x);
        x.clear();
        DUE.is("34 another image", x.image(), 0);
        x.chip(0, 0, 1);
        DUE.is("35 as the other one", x.undo(), 0);
        DUE.is("35 as the other one", x.told(1), 0);
        DUE.is("35 noted still", x.told(5), 2);
        DUE.end();
    }

    private static void fill(MinorTables x) {
        x.chip(0, 0, 5);
        x.chip(2, 1, 6);
        x.vector(0, -2);
        x.vector(1, -4);
        x.minor(3, 3);
        x.minor(1, 2);
        x.see(3, 3, 8);
        x.event(2, 0);
        x.book(1, 2);
        x.feed('z');
        x.tape(0, 3, 1);
    }

    private static void change(MinorTables x) {
        x.size(4);
        x.set(33, 9);
        x.chip(1, 2, 2);
        x.vector(0, 1);
        x.vector(3, 9);
        x.minor(15, 15);
        x.see(-1, 0, 0);
        x.event(0, 33);
        x.event(0, 33);
        x.book(-1, 0);
        x.item(0, 0, 9);
        for (int k = 0; k < 4; k++) {
            x.feed('z');
        }
    }

    private static void looksFilled(MinorTables x) {
        DUE.is("35 n", x.told(0), 2);
        int[] numbers = {1, 2, 3, 7};
        for (int p = 0; p < 4; p++) {
            DUE.is("35 number", x.of(0, 10 * (p / 2) + p % 2), 100 + numbers[p]);
        }
        DUE.is("35 no more spots", x.of(0, 33), -1);
        DUE.is("35 chips", x.told(1), 2);
        DUE.is("35 a chip's kind", x.chipOf(1, 0), 2);
        DUE.is("35 a chip's i", x.chipOf(1, 1), 1);
        DUE.is("35 a chip's v", x.chipOf(1, 2), 6);
        DUE.is("35 vector", x.of(1, 0), 98);
        DUE.is("35 vector", x.of(1, 1), 96);
        DUE.is("35 vector", x.told(6), 0);
        DUE.is("35 how many noted", x.told(5), 2);
        DUE.is("35 noted", x.noted(0), 303);
        DUE.is("35 noted", x.noted(1), 102);
        DUE.is("35 seen", x.count(0), 1);
        DUE.is("35 seen", x.fits(1, 0), 0);
        DUE.is("35 seen", x.fits(11, 0), 1);
        DUE.is("35 events", x.count(1), 1);
        DUE.is("35 events", x.after(2), -1);
        DUE.is("35 book", x.count(2), 1);
        DUE.is("35 book", x.looked(), -5);
    }
}

/** Promises 27 to 32: metres of the book, what there is, and the hash of it all. */
public final class BookTest {

    public static void main(String[] args) {
        distance();
        nearest();
        metre();
        count();
        meanWidth();
        digestOfNothing();
        digestOfAPage();
        Check.end("BookTest");
    }

    private static void distance() {
        HymnPage page = Check.withPhrases(3, 2, 3);
        page.mark(1, false, true);
        page.repeat(0, 1, 1);
        // Sung are the phrases 0, 1, 0 and 2, with 2, 2, 2 and 3 syllables.
        Check.addMetre(page, "2.2.2.3");
        Check.addMetre(page, "1.4.2.20");
        Check.addMetre(page, "2.2.2");
        Check.addMetre(page, "2.2.D");
        Check.addMetre(page, "2.2.2.3.1");
        Check.row("distance", new long[] {0, 20, -1, 1, -1}, page::distance);
        page.clearRepeats();
        Check.row("distance", new long[] {-1, -1, 1, -1, -1}, page::distance);
        Check.fails("metre -1", page, Check.INDEX, () -> page.distance(-1));
        Check.fails("metre 5", page, Check.INDEX, () -> page.distance(5));
    }

    private static void nearest() {
        HymnPage page = Check.withPhrases(4, 3);
        Check.same("an empty book", -1, page.nearest());
        Check.addMetre(page, "4");
        Check.same("none has a distance", -1, page.nearest());
        Check.addMetre(page, "8.8");
        Check.same("the only one", 1, page.nearest());
        Check.addMetre(page, "5.3");
        Check.addMetre(page, "4.4");
        Check.same("of two the first", 2, page.nearest());
        Check.addMetre(page, "4.3");
        Check.same("the same one", 4, page.nearest());
        page.dropMetre(0);
        Check.same("its number then", 3, page.nearest());
    }

    private static void metre() {
        HymnPage page = new HymnPage();
        Check.fails("no metres", page, Check.INDEX, () -> page.metre(0, 0));
        Check.addMetre(page, "8.6");
        Check.row("numbers", new long[] {8, 6, -1}, i -> page.metre(0, i));
        Check.same("index -1", -1, page.metre(0, -1));
        Check.same("far index", -1, page.metre(0, Integer.MAX_VALUE));
        Check.same("far index", -1, page.metre(0, Integer.MIN_VALUE));
        Check.fails("metre -1", page, Check.INDEX, () -> page.metre(-1, 0));
        Check.fails("metre 1", page, Check.INDEX, () -> page.metre(1, -1));
    }

    private static void count() {
        HymnPage page = new HymnPage();
        page.begin(5);
        page.addNote(3, 72, 60, 53, 41);
        page.addNote(4, 74, 62, 55, 43);
        page.addNote(2, 74, 62, 55, 43);
        page.mark(0, true, true);
        page.repeat(0, 0, 0);
        page.setBars(3, 2);
        page.setWidth(100);
        Check.addMetre(page, "1.1.2");
        for (int verse = 1; verse < 4; verse += 2) {
            Check.setLine(page, verse, 0, "one");
            Check.setLine(page, verse, 1, "two");
            Check.setLine(page, verse, 2, "three four");
        }
        Check.row("count", new long[] {3, 5, 2, 3, 1, 3, 2, 9, 1, 100, 1, 1, 10, 1}, page::count);
        page.setBars(4, 1);
        Check.same("not divisible", 0, page.count(8));
        Check.fails("what -1", page, Check.ARGUMENT, () -> page.count(-1));
        Check.fails("what 14", page, Check.ARGUMENT, () -> page.count(14));
    }

    private static void meanWidth() {
        HymnPage page = new HymnPage();
        Check.same("no systems", 0.0, page.meanWidth());
        HymnPage three = Check.withPhrases(6, 5, 1, 5);
        three.setWidth(20);
        Check.same("three systems", 51.0 / 3.0, three.meanWidth());
        Check.setLine(three, 0, 0, "three");
        Check.same("three systems", 54.0 / 3.0, three.meanWidth());
        Check.setLine(three, 0, 0, "graces");
        Check.same("three systems", 55.0 / 3.0, three.meanWidth());
    }

    private static long hashOf(long start, long... values) {
        long hash = start;
        for (long value : values) {
            hash = 31 * hash + value;
        }
        return hash;
    }

    private static void digestOfNothing() {
        long due = hashOf(2063, 0, 0, 0, 0, 0, 4, 0, 0, 1, 80, 0, 0, 15, 0);
        for (int verse = 0; verse < 4; verse++) {
            due = hashOf(hashOf(due, -1), new long[72]);
        }
        due = hashOf(due, -1, Double.doubleToLongBits(0.0), 0);
        Check.same("digest of nothing", due, new HymnPage().digest());
    }

    private static void digestOfAPage() {
        HymnPage page = new HymnPage();
        page.addNote(2, 60, 60, 57, 36);
        Check.setLine(page, 1, 0, "a-men");
        Check.addMetre(page, "3");
        Check.type(page, "xy");
        long due = hashOf(2063, 1, 0, 1, 1, 0, 4, 0, 2, 0, 80, 1, 1, 0, 0);
        due = hashOf(due, 2, 0, 0, 0, 1, 0, 0, 3, 0);
        due = hashOf(due, 60, 0, 35, 0, 0, 1, 60, 0, 35, 0, 0, 1);
        due = hashOf(due, 57, 5, 33, 0, 2, 0, 36, 0, 21, 0, 0, 2);
        due = hashOf(due, 1, 0);
        due = hashOf(due, 0, 0, 1, 3, 0, 1);
        due = hashOf(due, 0);
        due = hashOf(hashOf(due, 0), new long[72]);
        due = hashOf(hashOf(due, 0, 2, 1, 3), new long[69]);
        due = hashOf(hashOf(due, 0), new long[72]);
        due = hashOf(hashOf(due, 0), new long[72]);
        due = hashOf(due, -1, -1, -1, -1, 0, 1, 'a', 1, -1, -1, -1, -1, -1, -1, -1, -1);
        due = hashOf(due, 2, 3);
        due = hashOf(due, 0, Double.doubleToLongBits(3.0), 2, 'x', 'y');
        Check.same("digest of a page", due, page.digest());
    }
}

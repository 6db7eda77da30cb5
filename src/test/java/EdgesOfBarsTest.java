/**
 * The edges that the document's sentences about bars name, a test for each: the terms, and
 * promises 7, 19 (what 4 to 6) and 30 (what 5 to 8). Above each test stands its sentence.
 */
public final class EdgesOfBarsTest {

    public static void main(String[] args) {
        barsAtFirst();
        lengthOfBarsIs2To24();
        upbeatIsLessThanTheLength();
        setBarsTellsThePreviousLength();
        upbeatIsBar0();
        withoutUpbeatTheFirstBarIs1();
        nextBarIs1();
        lastUnitOfABar();
        endsBehindTheEndOfItsBar();
        endsBehindTheEndOfTheUpbeat();
        noteLongerThanSeveralBars();
        shortestBarsOfTheLongestTune();
        longestBarsOfTheLongestTune();
        sumDivisibleByTheLength();
        barsMayBeSetWithoutNotes();
        Check.end("EdgesOfBarsTest");
    }

    private static void bars(HymnPage page, int what, long... due) {
        Check.row("what " + what + " of note", due, note -> page.note(note, what));
    }

    /** "a length of bars (2 to 24 units, at first 4) and an upbeat (...; at first 0)". */
    private static void barsAtFirst() {
        HymnPage page = Pages.lengths(3, 1, 1);
        Check.same("length", 4, page.count(5));
        Check.same("upbeat", 0, page.count(6));
        bars(page, 4, 1, 1, 2);
        bars(page, 5, 0, 3, 0);
    }

    /** "length: 2 to 24". */
    private static void lengthOfBarsIs2To24() {
        HymnPage page = new HymnPage();
        for (int length = 2; length <= 24; length++) {
            page.setBars(length, 0);
            Check.same("length", length, page.count(5));
        }
        Check.refused("length 1", Check.ARGUMENT, Pages::ordinary, p -> p.setBars(1, 0));
        Check.refused("length 25", Check.ARGUMENT, Pages::ordinary, p -> p.setBars(25, 0));
    }

    /** "upbeat: 0 to length - 1": for each length. */
    private static void upbeatIsLessThanTheLength() {
        HymnPage page = new HymnPage();
        for (int length = 2; length <= 24; length++) {
            int size = length;
            page.setBars(size, size - 1);
            Check.same("upbeat", size - 1, page.count(6));
            page.setBars(size, 0);
            Check.same("upbeat", 0, page.count(6));
            Check.refused("upbeat " + size, Check.ARGUMENT, HymnPage::new, p -> p.setBars(size, size));
            Check.refused("upbeat -1", Check.ARGUMENT, HymnPage::new, p -> p.setBars(size, -1));
        }
    }

    /** "Returns the previous length." */
    private static void setBarsTellsThePreviousLength() {
        HymnPage page = new HymnPage();
        Check.same("at first", 4, page.setBars(24, 23));
        Check.same("then", 24, page.setBars(2, 1));
        Check.same("then", 2, page.setBars(2, 0));
        Check.same("the same", 2, page.setBars(3, 2));
    }

    /** "The upbeat, if there is one, is bar 0": its first unit and its last one, and no more. */
    private static void upbeatIsBar0() {
        HymnPage page = Pages.lengths(1, 1, 1, 1);
        page.setBars(4, 3);
        bars(page, 4, 0, 0, 0, 1);
        bars(page, 5, 0, 1, 2, 0);
        page.setBars(4, 1);
        bars(page, 4, 0, 1, 1, 1);
        bars(page, 5, 0, 0, 1, 2);
    }

    /** "without an upbeat the first bar has the number 1". */
    private static void withoutUpbeatTheFirstBarIs1() {
        HymnPage page = Pages.lengths(1, 1, 1);
        page.setBars(2, 0);
        bars(page, 4, 1, 1, 2);
        bars(page, 5, 0, 1, 0);
    }

    /** "the next bar has the number 1, and so on": behind an upbeat. */
    private static void nextBarIs1() {
        HymnPage page = Pages.lengths(1, 2, 2, 2, 1);
        page.setBars(2, 1);
        bars(page, 4, 0, 1, 2, 3, 4);
        bars(page, 5, 0, 0, 0, 0, 0);
        bars(page, 6, 0, 0, 0, 0, 0);
    }

    /** "4 for the number of the bar in which it begins, 5 for how many units of that bar are before it". */
    private static void lastUnitOfABar() {
        HymnPage page = Pages.lengths(3, 1, 3, 2, 1);
        bars(page, 4, 1, 1, 2, 2, 3);
        bars(page, 5, 0, 3, 0, 3, 1);
    }

    /** "6 for 1 if it ends behind the end of that bar, else 0": ending with the bar is not behind it. */
    private static void endsBehindTheEndOfItsBar() {
        HymnPage page = Pages.lengths(4, 5, 3, 3, 2, 8);
        bars(page, 6, 0, 1, 0, 0, 1, 1);
        bars(page, 5, 0, 0, 1, 0, 3, 1);
        bars(page, 4, 1, 2, 3, 4, 4, 5);
    }

    /** The same sentence, of bar 0, which ends with the upbeat. */
    private static void endsBehindTheEndOfTheUpbeat() {
        HymnPage within = Pages.lengths(3);
        within.setBars(4, 3);
        bars(within, 6, 0);
        HymnPage beyond = Pages.lengths(4);
        beyond.setBars(4, 3);
        bars(beyond, 6, 1);
        HymnPage second = Pages.lengths(2, 1, 4);
        second.setBars(8, 3);
        bars(second, 6, 0, 0, 0);
        HymnPage secondBeyond = Pages.lengths(2, 2, 7);
        secondBeyond.setBars(8, 3);
        bars(secondBeyond, 6, 0, 1, 0);
        bars(secondBeyond, 4, 0, 0, 1);
        bars(secondBeyond, 5, 0, 2, 1);
    }

    /** The number of the bar counts all bars, also those in which no note begins. */
    private static void noteLongerThanSeveralBars() {
        HymnPage page = Pages.lengths(8, 8, 7, 1);
        page.setBars(2, 1);
        bars(page, 4, 0, 4, 8, 12);
        bars(page, 5, 0, 1, 1, 0);
        bars(page, 6, 1, 1, 1, 0);
    }

    /** The greatest number of a bar: 40 notes of 8 units in bars of 2. */
    private static void shortestBarsOfTheLongestTune() {
        HymnPage page = Pages.lengths(Pages.eights());
        page.setBars(2, 0);
        Check.same("bar", 157, page.note(39, 4));
        Check.same("before", 0, page.note(39, 5));
        Check.same("behind", 1, page.note(39, 6));
        page.setBars(2, 1);
        Check.same("bar", 156, page.note(39, 4));
        Check.same("before", 1, page.note(39, 5));
    }

    /** The same tune in bars of 24, with the longest upbeat. */
    private static void longestBarsOfTheLongestTune() {
        HymnPage page = Pages.lengths(Pages.eights());
        page.setBars(24, 0);
        Check.row("bar", new long[] {1, 1, 1, 2}, note -> page.note(note, 4));
        Check.row("before", new long[] {0, 8, 16, 0}, note -> page.note(note, 5));
        Check.row("behind", new long[] {0, 0, 0, 0}, note -> page.note(note, 6));
        Check.same("bar", 14, page.note(39, 4));
        page.setBars(24, 23);
        Check.row("bar", new long[] {0, 0, 0, 1}, note -> page.note(note, 4));
        Check.row("before", new long[] {0, 8, 16, 1}, note -> page.note(note, 5));
        Check.row("behind", new long[] {0, 0, 1, 0}, note -> page.note(note, 6));
        Check.same("bar", 13, page.note(39, 4));
    }

    /** Promise 30: "8 for 1 if that is divisible by the length of bars (as 0 is), else 0". */
    private static void sumDivisibleByTheLength() {
        HymnPage page = new HymnPage();
        Check.same("sum of none", 0, page.count(7));
        Check.same("none", 1, page.count(8));
        page.setBars(24, 23);
        Check.same("none, with an upbeat", 1, page.count(8));
        HymnPage some = Pages.lengths(8, 4);
        Check.same("sum", 12, some.count(7));
        for (int length = 2; length <= 24; length++) {
            // The upbeat does not matter.
            some.setBars(length, length - 1);
            Check.same("12 by " + length, 12 % length == 0 ? 1 : 0, some.count(8));
        }
    }

    /** Bars belong to the page, not to a note: they are there before the first one. */
    private static void barsMayBeSetWithoutNotes() {
        HymnPage page = new HymnPage();
        page.setBars(3, 2);
        page.addNote(3, 60, 60, 60, 60);
        bars(page, 4, 0);
        bars(page, 6, 1);
        page.dropNote();
        Check.same("length", 3, page.count(5));
        Check.same("upbeat", 2, page.count(6));
    }
}

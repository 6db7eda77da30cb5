import java.util.ArrayList;
import java.util.List;

/**
 * All that a page tells, also of what its digest leaves out: the syllables below all sung phrases,
 * the slur marks of first notes, the end mark of the last one. The page is changed by it.
 */
final class Whole {

    /** So that the calls on one page stay under the document's 512. */
    private static final int MOST_BELOW = 240;

    private final HymnPage page;
    private final List<Long> told = new ArrayList<>();

    private Whole(HymnPage page) {
        this.page = page;
    }

    static List<Long> of(HymnPage page) {
        Whole whole = new Whole(page);
        whole.tell(page.digest());
        whole.tell(page.firstError(false));
        whole.tell(page.firstError(true));
        whole.tellBelow();
        whole.tellMarks();
        return whole.told;
    }

    private void tell(long answer) {
        told.add(answer);
    }

    private void tellBelow() {
        int asked = 0;
        int sung = page.count(3);
        for (int number = 0; number < sung && asked < MOST_BELOW; number++) {
            int phrase = page.sung(number);
            int places = page.phrase(phrase, 1) - page.phrase(phrase, 0) + 1;
            for (int i = 0; i < 16 * places && asked < MOST_BELOW; i++, asked++) {
                tell(page.below(i / 4 % 4, number, i / 16, i % 4));
            }
        }
    }

    /** A note more shows the end mark of the last one; without end marks all slur marks count. */
    private void tellMarks() {
        int notes = page.count(0);
        if (notes < 40) {
            tell(page.addNote(1, 60, 60, 60, 60));
            tell(page.count(2));
        }
        for (int note = 0; note < notes; note++) {
            tell(page.mark(note, true, false));
        }
        tell(page.digest());
    }
}

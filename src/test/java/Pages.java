import java.util.Arrays;

/** Pages that more than one test begins with. */
final class Pages {

    /** 47 characters and a last one to come: 24 numbers. */
    static final String TWENTY_THREE_ONES = "1.1.1.1.1.1.1.1.1.1.1.1.1.1.1.1.1.1.1.1.1.1.1.";

    private Pages() {
    }

    /** Something of everything: three phrases, a repeat, lines, metres, and a buffer. */
    static HymnPage ordinary() {
        HymnPage page = new HymnPage();
        page.begin(7);
        page.addNote(2, 67, 62, 59, 43);
        page.addNote(1, 69, 66, 57, 50);
        page.addNote(3, 71, 67, 62, 55);
        page.addNote(4, 72, 68, 64, 48);
        page.addNote(1, 74, 69, 66, 50);
        page.addNote(2, 66, 66, 57, 59);
        page.mark(1, true, true);
        page.mark(3, true, true);
        page.mark(2, false, true);
        page.mark(5, false, true);
        page.repeat(0, 1, 1);
        page.setBars(6, 2);
        page.setWidth(20);
        Check.setLine(page, 0, 0, "a-men");
        Check.setLine(page, 0, 1, "thy love");
        Check.setLine(page, 1, 2, "so");
        Check.setLine(page, 2, 23, "last");
        Check.addMetre(page, "2.2.2.1");
        Check.addMetre(page, "8.6.D");
        Check.type(page, "ab");
        return page;
    }

    static HymnPage begun(int tonic) {
        HymnPage page = new HymnPage();
        page.begin(tonic);
        return page;
    }

    static HymnPage chord(int tonic, int soprano, int alto, int tenor, int bass) {
        HymnPage page = begun(tonic);
        page.addNote(1, soprano, alto, tenor, bass);
        return page;
    }

    /** Notes of one unit in one phrase. */
    static HymnPage notes(int size) {
        HymnPage page = new HymnPage();
        for (int note = 0; note < size; note++) {
            page.addNote(1, 72, 67, 60, 48);
        }
        return page;
    }

    /** The lengths of the longest tune. */
    static int[] eights() {
        int[] lengths = new int[40];
        Arrays.fill(lengths, 8);
        return lengths;
    }

    static HymnPage lengths(int... lengths) {
        HymnPage page = new HymnPage();
        for (int length : lengths) {
            page.addNote(length, 60, 60, 60, 60);
        }
        return page;
    }

    /** Each phrase has one note; the last note has no end mark. */
    static HymnPage phrases(int size) {
        HymnPage page = notes(size);
        for (int note = 0; note < size - 1; note++) {
            page.mark(note, true, true);
        }
        return page;
    }

    /** Eight phrases, of which 1, 3 to 4 and 6 are repeated. */
    static HymnPage threeRepeats() {
        HymnPage page = phrases(8);
        page.repeat(3, 4, 1);
        page.repeat(1, 1, 0);
        page.repeat(6, 6, 0);
        return page;
    }

    /** 40 phrases of a note, all of them sung twice. */
    static HymnPage eightySung() {
        HymnPage page = phrases(40);
        page.repeat(0, 39, 0);
        return page;
    }

    static HymnPage typed(String text) {
        HymnPage page = new HymnPage();
        Check.type(page, text);
        return page;
    }

    /** 60 characters: a line that is not complete. */
    static HymnPage fullBuffer() {
        return typed("a-".repeat(30));
    }

    /** Eight metres; metre k has the one number k + 1. */
    static HymnPage fullBook() {
        HymnPage page = new HymnPage();
        for (int metre = 0; metre < 8; metre++) {
            page.append('1' + metre);
            page.addMetre();
        }
        return page;
    }

    /** All that there is room for: 40 phrases sung twice, 24 lines a verse, the book, the buffer. */
    static HymnPage full() {
        HymnPage page = fullBook();
        for (int note = 0; note < 40; note++) {
            page.addNote(8, 84 - note, 84 - note, 36 + note, 36 + note / 2);
            page.mark(note, true, true);
        }
        page.repeat(0, 39, 0);
        for (int i = 0; i < 96; i++) {
            page.append('A' + i % 26);
            page.setLine(i / 24, i % 24);
        }
        Check.type(page, "a-".repeat(30));
        return page;
    }
}

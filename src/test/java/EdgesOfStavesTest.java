/**
 * The edges that the document's sentences about staves, heads and parallels name, a test for each:
 * the terms, and promises 19 (what 8), 20 (what 5), 21 and 30 (what 13). Above each test stands its
 * sentence.
 */
public final class EdgesOfStavesTest {

    /** The pitches of C major from the step 21 on. */
    private static final int[] WHITE = {
        36, 38, 40, 41, 43, 45, 47, 48, 50, 52, 53, 55, 57, 59, 60, 62, 64, 65, 67, 69, 71,
        72, 74, 76, 77, 79, 81, 83, 84};

    public static void main(String[] args) {
        ledgerLinesOfStaff0();
        ledgerLinesOfStaff1();
        ledgerLinesOfRaisedPitches();
        partsOfTheStaves();
        sharedIfEqual();
        movedIfStepsDifferByAtMost1();
        movedAcrossTheOctave();
        crossedIfTheLowerIsGreater();
        headsAtBothEndsOfThePitches();
        otherStaffDoesNotMatter();
        firstNoteHasNoParallels();
        bothHaveOtherPitches();
        bothGoUpOrBothDown();
        differencesModulo12();
        differencesThatAreNegative();
        sameAsBefore();
        bitsOfThePairs();
        everyNextNote();
        notesWithParallels();
        Check.end("EdgesOfStavesTest");
    }

    private static long ledgers(int tonic, int pitch, int part) {
        return Pages.chord(tonic, pitch, pitch, pitch, pitch).part(0, part, 5);
    }

    private static void ledgersFrom21(int part, String due) {
        for (int i = 0; i < WHITE.length; i++) {
            Check.same("ledger lines of step " + (21 + i) + ", part " + part, due.charAt(i) - '0',
                    ledgers(0, WHITE[i], part));
        }
    }

    /**
     * "The five lines of staff 0 are at the steps 37, 39, 41, 43 and 45"; "for each second step from
     * the next line beyond the staff on".
     */
    private static void ledgerLinesOfStaff0() {
        // 21 to 36, the staff, 46 to 49
        String due = "8776655443322110" + "000000000" + "0112";
        ledgersFrom21(0, due);
        ledgersFrom21(1, due);
    }

    /** "those of staff 1 at 25, 27, 29, 31 and 33". */
    private static void ledgerLinesOfStaff1() {
        // 21 to 24, the staff, 34 to 49
        String due = "2110" + "000000000" + "0112233445566778";
        ledgersFrom21(2, due);
        ledgersFrom21(3, due);
    }

    /** "has the degree and the step of the pitch that is 1 lower": so its head stands there. */
    private static void ledgerLinesOfRaisedPitches() {
        Check.same("the raised step 20", 2, ledgers(11, 36, 3));
        Check.same("the raised step 35", 1, ledgers(0, 61, 0));
        Check.same("the raised step 36", 0, ledgers(0, 63, 0));
        Check.same("the raised step 46", 0, ledgers(0, 80, 0));
        Check.same("the raised step 47", 1, ledgers(0, 82, 0));
        Check.same("the raised step 24", 0, ledgers(0, 42, 3));
        Check.same("the raised step 35 of staff 1", 1, ledgers(0, 61, 2));
        // The c flat of G flat stands higher than the b of C.
        Check.same("a b", 1, ledgers(0, 59, 0));
        Check.same("a c flat", 1, ledgers(6, 59, 0));
        Check.same("a b in staff 1", 0, ledgers(0, 59, 2));
        Check.same("a c flat in staff 1", 1, ledgers(6, 59, 2));
    }

    /** "The parts 0 and 1 stand on staff 0, the parts 2 and 3 on staff 1". */
    private static void partsOfTheStaves() {
        HymnPage page = Pages.chord(0, 60, 60, 60, 60);
        Check.row("ledger lines", new long[] {1, 1, 1, 1}, part -> page.part(0, part, 5));
        HymnPage low = Pages.chord(0, 57, 57, 57, 57);
        Check.row("ledger lines", new long[] {2, 2, 0, 0}, part -> low.part(0, part, 5));
        HymnPage pairs = Pages.chord(0, 60, 60, 72, 60);
        Check.row("heads", new long[] {1, 0}, staff -> pairs.heads(0, staff));
    }

    private static void heads(int tonic, int upper, int lower, int due) {
        String call = "heads of " + upper + " and " + lower + " in " + tonic + " on staff ";
        HymnPage page = Pages.chord(tonic, upper, lower, upper, lower);
        Check.row(call, new long[] {due, due}, staff -> page.heads(0, staff));
    }

    /** "Both parts of a staff share a head if their pitches are equal." */
    private static void sharedIfEqual() {
        for (int pitch = 36; pitch <= 84; pitch++) {
            heads(0, pitch, pitch, 1);
        }
        heads(0, 61, 60, 2);
        heads(0, 60, 61, 6);
    }

    /** "The heads are moved beside each other if they are not shared, and their steps differ by at most 1." */
    private static void movedIfStepsDifferByAtMost1() {
        // The steps differ by 0.
        heads(0, 66, 65, 2);
        heads(0, 65, 66, 6);
        // They differ by 1, with one, two or three half tones between them.
        heads(0, 65, 64, 2);
        heads(0, 62, 60, 2);
        heads(0, 63, 60, 2);
        heads(0, 60, 63, 6);
        // They differ by 2, with three or four half tones between them.
        heads(0, 65, 62, 0);
        heads(0, 62, 65, 4);
        heads(0, 64, 60, 0);
        heads(0, 60, 64, 4);
        heads(0, 64, 61, 0);
        heads(0, 61, 64, 4);
    }

    /** The same sentence, where the letters begin anew. */
    private static void movedAcrossTheOctave() {
        heads(0, 60, 59, 2);
        heads(0, 59, 60, 6);
        heads(6, 60, 59, 2);
        heads(6, 59, 58, 2);
        heads(6, 58, 59, 6);
        heads(6, 59, 56, 0);
        heads(11, 61, 59, 2);
        heads(11, 60, 59, 2);
        heads(11, 61, 60, 2);
        heads(11, 63, 59, 0);
        heads(0, 72, 60, 0);
        heads(0, 60, 72, 4);
    }

    /** "The parts are crossed if the pitch of the lower one is the greater one": not if both are equal. */
    private static void crossedIfTheLowerIsGreater() {
        heads(0, 67, 67, 1);
        heads(0, 67, 72, 4);
        heads(0, 72, 67, 0);
        heads(0, 67, 69, 6);
        heads(0, 69, 67, 2);
        HymnPage page = Pages.chord(0, 67, 72, 60, 48);
        Check.row("heads", new long[] {4, 0}, staff -> page.heads(0, staff));
        HymnPage men = Pages.chord(0, 72, 67, 48, 60);
        Check.row("heads", new long[] {0, 4}, staff -> men.heads(0, staff));
    }

    /** The same sentences, at the lowest and the highest pitch. */
    private static void headsAtBothEndsOfThePitches() {
        heads(0, 84, 36, 0);
        heads(0, 36, 84, 4);
        heads(11, 37, 36, 2);
        heads(11, 36, 37, 6);
        heads(0, 84, 83, 2);
        heads(0, 83, 84, 6);
    }

    /** "Both parts of a staff": an alto and a tenor have no head in common. */
    private static void otherStaffDoesNotMatter() {
        HymnPage page = Pages.chord(0, 72, 60, 60, 48);
        Check.row("heads", new long[] {0, 0}, staff -> page.heads(0, staff));
        HymnPage crossed = Pages.chord(0, 72, 55, 60, 48);
        Check.row("heads", new long[] {0, 0}, staff -> crossed.heads(0, staff));
    }

    private static long parallel(int upperBefore, int lowerBefore, int upper, int lower) {
        HymnPage page = new HymnPage();
        page.addNote(1, upperBefore, lowerBefore, 60, 60);
        page.addNote(1, upper, lower, 60, 60);
        return page.note(1, 8) & 1;
    }

    private static void parallels(long due, int upperBefore, int lowerBefore, int upper, int lower) {
        Check.same("from " + upperBefore + " and " + lowerBefore + " to " + upper + " and " + lower, due,
                parallel(upperBefore, lowerBefore, upper, lower));
    }

    /** "Two parts go in parallel to a note (not the first one)". */
    private static void firstNoteHasNoParallels() {
        HymnPage page = Pages.chord(0, 72, 60, 48, 36);
        Check.same("the only note", 0, page.note(0, 8));
        page.addNote(1, 74, 62, 50, 38);
        Check.row("both", new long[] {0, 63}, note -> page.note(note, 8));
        page.dropNote();
        page.dropNote();
        page.addNote(1, 74, 62, 50, 38);
        Check.same("the first one behind a dropped one", 0, page.note(0, 8));
        page.begin(0);
        page.addNote(1, 76, 64, 52, 40);
        Check.same("the first one behind begin", 0, page.note(0, 8));
    }

    /** "if both have other pitches than at the note before". */
    private static void bothHaveOtherPitches() {
        parallels(0, 72, 60, 72, 60);
        parallels(0, 72, 60, 84, 60);
        parallels(0, 72, 60, 60, 60);
        parallels(0, 72, 60, 72, 72);
        parallels(0, 72, 60, 72, 48);
        parallels(1, 72, 60, 73, 61);
        parallels(1, 72, 60, 71, 59);
    }

    /** "and both go up, or both go down". */
    private static void bothGoUpOrBothDown() {
        parallels(1, 67, 60, 84, 77);
        parallels(1, 67, 60, 43, 36);
        parallels(0, 67, 60, 73, 54);
        parallels(0, 72, 60, 66, 66);
        parallels(0, 60, 60, 66, 54);
        parallels(0, 60, 60, 54, 66);
        parallels(1, 60, 60, 84, 84);
        parallels(1, 60, 60, 36, 36);
    }

    /** "the difference of their pitches modulo 12 ... is the same as before, 0 or 7". */
    private static void differencesModulo12() {
        for (int apart = 0; apart <= 24; apart++) {
            long due = apart % 12 == 0 || apart % 12 == 7 ? 1 : 0;
            parallels(due, 50 + apart, 50, 52 + apart, 52);
            parallels(due, 50 + apart, 50, 49 + apart, 49);
        }
        parallels(1, 83, 47, 84, 48);
        parallels(1, 84, 48, 83, 47);
    }

    /** "modulo 12 (0 to 11, also if it is negative)": a fourth below is a 7, a fifth below is a 5. */
    private static void differencesThatAreNegative() {
        for (int apart = 0; apart <= 24; apart++) {
            long due = apart % 12 == 0 || apart % 12 == 5 ? 1 : 0;
            parallels(due, 50, 50 + apart, 52, 52 + apart);
            parallels(due, 50, 50 + apart, 49, 49 + apart);
        }
        parallels(1, 67, 60, 69, 74);
        parallels(1, 55, 60, 69, 62);
    }

    /** "is the same as before, 0 or 7": from the one to the other there are none. */
    private static void sameAsBefore() {
        parallels(0, 60, 60, 69, 62);
        parallels(0, 67, 60, 69, 69);
        parallels(0, 67, 60, 74, 62);
        parallels(0, 72, 60, 74, 67);
        parallels(0, 66, 60, 69, 62);
        parallels(0, 68, 60, 69, 62);
        parallels(1, 67, 60, 81, 62);
        parallels(1, 79, 60, 81, 74);
        parallels(1, 60, 60, 74, 62);
        parallels(1, 72, 60, 74, 74);
    }

    /**
     * "a bit mask with the bits 0 to 5 for the pairs of parts 0 and 1, 0 and 2, 0 and 3, 1 and 2, 1
     * and 3, 2 and 3".
     */
    private static void bitsOfThePairs() {
        int[][] pairs = {{0, 1}, {0, 2}, {0, 3}, {1, 2}, {1, 3}, {2, 3}};
        int[] still = {71, 64, 58, 45};
        for (int bit = 0; bit < 6; bit++) {
            int[] before = still.clone();
            int upper = pairs[bit][0];
            int lower = pairs[bit][1];
            before[lower] = before[upper] - 12;
            int[] now = before.clone();
            now[upper]++;
            now[lower]++;
            HymnPage page = new HymnPage();
            page.addNote(1, before[0], before[1], before[2], before[3]);
            page.addNote(1, now[0], now[1], now[2], now[3]);
            Check.same("bit " + bit, 1 << bit, page.note(1, 8));
        }
    }

    /** "to a note (not the first one)": to each other one, up to the last of 40, over ends of phrases too. */
    private static void everyNextNote() {
        HymnPage page = new HymnPage();
        for (int note = 0; note < 40; note++) {
            page.addNote(1, 84 - note, 77 - note, 60, 60);
            page.mark(note, note % 3 == 0, true);
        }
        for (int note = 0; note < 40; note++) {
            Check.same("note " + note, note == 0 ? 0 : 1, page.note(note, 8));
        }
        page.setPitch(20, 1, 60);
        Check.row("about note 20", new long[] {1, 0, 0, 1}, i -> page.note(19 + i, 8));
    }

    /** Promise 30: "13 for the number of notes to which some parts go in parallel". */
    private static void notesWithParallels() {
        HymnPage page = new HymnPage();
        Check.same("no notes", 0, page.count(13));
        for (int note = 0; note < 40; note++) {
            page.addNote(1, 83 - note % 2, 71 - note % 2, 59 - note % 2, 47 - note % 2);
            Check.same("notes", note, page.count(13));
        }
        page.setPitch(39, 0, 60);
        Check.same("some parts still go", 39, page.count(13));
        page.setPitch(39, 1, 61);
        page.setPitch(39, 2, 62);
        Check.same("two parts would be needed", 38, page.count(13));
    }
}

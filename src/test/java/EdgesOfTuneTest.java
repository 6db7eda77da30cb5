/**
 * The edges that the document's sentences about the tune name, a test for each: the terms, and
 * promises 1 to 5. Above each test stands its sentence. What is refused: RefusalsTest.
 */
public final class EdgesOfTuneTest {

    public static void main(String[] args) {
        newTuneIsEmpty();
        newTuneHasTonic0();
        newPageHasNoVersesAndMetres();
        newBufferIsEmpty();
        newPageIsItsOwn();
        beginTakes0To11();
        beginTellsHowManyNotesThereWere();
        beginLeavesNoNotes();
        beginLeavesNoMarks();
        beginLeavesNoRepeats();
        beginLeavesNoVerses();
        beginSetsBarsAndWidthAsAtFirst();
        beginLeavesBookAndBuffer();
        tuneHasAtMost40Notes();
        lengthIs1To8();
        pitchesAre36To84();
        addedNoteHasNoMarks();
        dropNoteOfAFullTune();
        dropNoteToTheEmptyTune();
        droppedMarksDoNotComeBack();
        setPitchTakes36To84();
        setPitchReachesAllNotesAndParts();
        Check.end("EdgesOfTuneTest");
    }

    /** "Creates an empty tune". */
    private static void newTuneIsEmpty() {
        HymnPage page = new HymnPage();
        Check.row("new count", new long[] {0, 0, 0, 0, 0, 4, 0, 0, 1, 80, 0, 0, 15, 0}, page::count);
        Check.refused("note of a new page", Check.INDEX, HymnPage::new, p -> p.note(0, 0));
        Check.refused("phrase of a new page", Check.INDEX, HymnPage::new, p -> p.phrase(0, 0));
        Check.refused("sung of a new page", Check.INDEX, HymnPage::new, p -> p.sung(0));
        Check.same("first note of a new page", 0, page.addNote(1, 60, 60, 60, 60));
    }

    /** "with the tonic 0". */
    private static void newTuneHasTonic0() {
        HymnPage page = new HymnPage();
        Check.same("tonic", 0, page.count(1));
        page.addNote(1, 60, 60, 60, 60);
        Check.same("degree of c", 0, page.part(0, 0, 1));
        Check.same("tonic 1 higher", 1, page.transpose(1));
    }

    /** "without verses and metres". */
    private static void newPageHasNoVersesAndMetres() {
        HymnPage page = new HymnPage();
        for (int verse = 0; verse < 4; verse++) {
            Check.same("lines of a new verse", 0, page.clearVerse(verse));
            for (int i = 0; i < 72; i++) {
                Check.same("new line", 0, page.line(verse, i / 3, i % 3));
            }
        }
        Check.same("metres", 0, page.count(11));
        Check.same("nearest", HymnPage.NONE, page.nearest());
        Check.refused("metre of a new page", Check.INDEX, HymnPage::new, p -> p.metre(0, 0));
    }

    /** "the buffer is empty". */
    private static void newBufferIsEmpty() {
        HymnPage page = new HymnPage();
        Check.same("first error of a line", 0, page.firstError(false));
        Check.same("first error of a metre", 0, page.firstError(true));
        Check.same("new buffer", 0, page.clearInput());
        Check.same("first character", 1, page.append('a'));
    }

    /** A new page, as the document has it, knows nothing of another one. */
    private static void newPageIsItsOwn() {
        HymnPage before = new HymnPage();
        long empty = before.digest();
        Pages.ordinary();
        Check.same("a page made before another", empty, before.digest());
        Check.same("a page made behind another", empty, new HymnPage().digest());
    }

    /** "tonic: 0 to 11". */
    private static void beginTakes0To11() {
        HymnPage page = new HymnPage();
        for (int tonic = 0; tonic < 12; tonic++) {
            Check.same("begin", 0, page.begin(tonic));
            Check.same("tonic", tonic, page.count(1));
        }
    }

    /** "Returns how many notes there were": none, one, all. */
    private static void beginTellsHowManyNotesThereWere() {
        Check.same("begin behind none", 0, new HymnPage().begin(0));
        Check.same("begin behind one", 1, Pages.notes(1).begin(0));
        Check.same("begin behind 40", 40, Pages.notes(40).begin(0));
        HymnPage page = Pages.notes(40);
        page.begin(3);
        Check.same("begin again", 0, page.begin(3));
    }

    /** "there are no notes". */
    private static void beginLeavesNoNotes() {
        Check.Recipe begun = () -> {
            HymnPage page = Pages.notes(40);
            page.begin(2);
            return page;
        };
        Check.refused("dropNote behind begin", Check.STATE, begun, HymnPage::dropNote);
        Check.refused("note behind begin", Check.INDEX, begun, p -> p.note(0, 0));
        HymnPage page = begun.page();
        Check.same("sum of lengths", 0, page.count(7));
        Check.same("systems", 0, page.count(10));
        for (int note = 0; note < 40; note++) {
            Check.same("addNote behind begin", note, page.addNote(1, 60, 60, 60, 60));
        }
    }

    /** "there are no notes": so neither are their marks. */
    private static void beginLeavesNoMarks() {
        HymnPage page = Pages.phrases(40);
        for (int note = 0; note < 40; note++) {
            page.mark(note, false, true);
        }
        page.begin(0);
        for (int note = 0; note < 40; note++) {
            page.addNote(1, 60, 60, 60, 60);
            Check.same("slurred", 0, page.note(note, 1));
        }
        Check.same("phrases", 1, page.count(2));
    }

    /** "no repeats". */
    private static void beginLeavesNoRepeats() {
        HymnPage page = Pages.threeRepeats();
        page.begin(0);
        Check.same("repeats", 0, page.count(4));
        for (int note = 0; note < 8; note++) {
            page.addNote(1, 60, 60, 60, 60);
            page.mark(note, true, true);
        }
        Check.same("sung phrases", 8, page.count(3));
        for (int repeat = 0; repeat < 3; repeat++) {
            Check.same("repeat", 9 + repeat, page.repeat(repeat, repeat, 0));
        }
        Check.same("clearRepeats", 3, page.clearRepeats());
    }

    /** "no verses": from the first line of the first verse to the last one of the last. */
    private static void beginLeavesNoVerses() {
        HymnPage page = new HymnPage();
        for (int i = 0; i < 96; i++) {
            Check.setLine(page, i / 24, i % 24, "la");
        }
        page.begin(0);
        for (int verse = 0; verse < 4; verse++) {
            for (int line = 0; line < 24; line++) {
                Check.same("line", 0, page.line(verse, line, 0));
            }
            Check.same("lines", 0, page.clearVerse(verse));
        }
        page.addNote(1, 60, 60, 60, 60);
        Check.same("below", HymnPage.NONE, page.below(0, 0, 0, 2));
    }

    /** "the length of bars, the upbeat and the width of the page are as at first". */
    private static void beginSetsBarsAndWidthAsAtFirst() {
        HymnPage page = new HymnPage();
        page.setBars(24, 23);
        page.setWidth(200);
        page.begin(0);
        Check.same("length of bars", 4, page.count(5));
        Check.same("upbeat", 0, page.count(6));
        Check.same("width", 80, page.count(9));
        Check.same("previous length", 4, page.setBars(2, 1));
    }

    /** "The book and the buffer stay": when both are full as well. */
    private static void beginLeavesBookAndBuffer() {
        HymnPage page = Pages.fullBook();
        Check.type(page, "b-".repeat(30));
        page.begin(11);
        Check.same("metres", 8, page.count(11));
        Check.row("metre", new long[] {1, 2, 3, 4, 5, 6, 7, 8}, metre -> page.metre(metre, 0));
        Check.same("first error", 60, page.firstError(false));
        Check.same("length of the buffer", 60, page.clearInput());
    }

    /** "The tune has at most 40 notes, numbered from 0": the 40th is taken, the 41st is not. */
    private static void tuneHasAtMost40Notes() {
        HymnPage page = new HymnPage();
        for (int note = 0; note < 40; note++) {
            Check.same("addNote", note, page.addNote(1, 60, 60, 60, 60));
            Check.same("notes", note + 1, page.count(0));
        }
        Check.same("last place", 39, page.note(39, 3));
        Check.refused("41st note", Check.STATE, () -> Pages.notes(40), p -> p.addNote(1, 60, 60, 60, 60));
    }

    /** "A note has a length (1 to 8 units)". */
    private static void lengthIs1To8() {
        HymnPage page = new HymnPage();
        for (int length = 1; length <= 8; length++) {
            Check.same("addNote", length - 1, page.addNote(length, 60, 60, 60, 60));
            Check.same("length", length, page.note(length - 1, 0));
        }
        Check.same("sum of lengths", 36, page.count(7));
        Check.same("the greatest sum of lengths", 320, Pages.lengths(Pages.eights()).count(7));
    }

    /** "four pitches (36 to 84), those of the parts 0 (soprano), 1 (alto), 2 (tenor) and 3 (bass)". */
    private static void pitchesAre36To84() {
        HymnPage page = new HymnPage();
        for (int note = 0; note < 16; note++) {
            page.addNote(1, pitch(note, 0), pitch(note, 1), pitch(note, 2), pitch(note, 3));
            for (int part = 0; part < 4; part++) {
                Check.same("pitch", pitch(note, part), page.part(note, part, 0));
            }
        }
    }

    private static int pitch(int bits, int part) {
        return (bits >> part & 1) == 0 ? 36 : 84;
    }

    /** "Adds a note behind the last one, without marks." */
    private static void addedNoteHasNoMarks() {
        HymnPage page = new HymnPage();
        for (int note = 0; note < 40; note++) {
            Check.same("number", note, page.addNote(1, 60, 60, 60, 60));
            Check.same("slurred", 0, page.note(note, 1));
            Check.same("phrases", 1, page.count(2));
        }
        // It does not matter what marks the note before it has.
        HymnPage marked = Pages.notes(2);
        marked.mark(1, false, true);
        marked.addNote(1, 60, 60, 60, 60);
        Check.row("slurred", new long[] {0, 1, 0}, note -> marked.note(note, 1));
    }

    /** "Removes the last note. Returns how many notes are left": of 40, so that there is room again. */
    private static void dropNoteOfAFullTune() {
        HymnPage page = Pages.lengths(Pages.eights());
        Check.same("dropNote", 39, page.dropNote());
        Check.same("sum of lengths", 312, page.count(7));
        Check.same("addNote", 39, page.addNote(1, 84, 36, 84, 36));
        Check.row("pitch", new long[] {84, 36, 84, 36}, part -> page.part(39, part, 0));
        Check.same("length", 1, page.note(39, 0));
        Check.same("length before it", 8, page.note(38, 0));
    }

    /** "Returns how many notes are left": down to none, then it is refused. */
    private static void dropNoteToTheEmptyTune() {
        HymnPage page = Pages.ordinary();
        for (int left = 5; left >= 0; left--) {
            Check.same("dropNote", left, page.dropNote());
            Check.same("notes", left, page.count(0));
        }
        Check.row("count", new long[] {0, 7, 0, 0, 0, 6, 2, 0, 1, 20, 0, 2, 8, 0}, page::count);
        Check.same("the lines stay", 2, page.clearVerse(0));
        Check.refused("dropNote of none", Check.STATE, HymnPage::new, HymnPage::dropNote);
    }

    /** "Removes the last note": with both its marks. */
    private static void droppedMarksDoNotComeBack() {
        HymnPage page = Pages.notes(40);
        page.mark(39, true, true);
        page.mark(39, false, true);
        Check.same("slurred", 1, page.note(39, 1));
        page.dropNote();
        page.addNote(1, 60, 60, 60, 60);
        Check.same("slurred", 0, page.note(39, 1));
        HymnPage ended = Pages.notes(2);
        ended.mark(1, true, true);
        ended.dropNote();
        ended.addNote(1, 60, 60, 60, 60);
        ended.addNote(1, 60, 60, 60, 60);
        Check.same("phrases", 1, ended.count(2));
    }

    /** "pitch: 36 to 84", and "Returns the previous pitch". */
    private static void setPitchTakes36To84() {
        HymnPage page = Pages.chord(0, 60, 60, 60, 60);
        int before = 60;
        for (int pitch = 36; pitch <= 84; pitch++) {
            Check.same("setPitch", before, page.setPitch(0, 2, pitch));
            Check.same("pitch", pitch, page.part(0, 2, 0));
            before = pitch;
        }
        Check.same("the same pitch", 84, page.setPitch(0, 2, 84));
    }

    /** "note: the note", "part: 0 to 3": the first and the last ones, and no others with them. */
    private static void setPitchReachesAllNotesAndParts() {
        HymnPage page = Pages.notes(40);
        Check.same("setPitch", 72, page.setPitch(0, 0, 36));
        Check.same("setPitch", 48, page.setPitch(39, 3, 84));
        Check.same("setPitch", 67, page.setPitch(39, 1, 37));
        Check.row("first", new long[] {36, 67, 60, 48}, part -> page.part(0, part, 0));
        Check.row("second", new long[] {72, 67, 60, 48}, part -> page.part(1, part, 0));
        Check.row("before the last", new long[] {72, 67, 60, 48}, part -> page.part(38, part, 0));
        Check.row("last", new long[] {72, 37, 60, 84}, part -> page.part(39, part, 0));
    }
}

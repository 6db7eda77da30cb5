/**
 * Each throws clause of the document has a test here: the first values that are refused on each
 * side and far ones, on an empty, an ordinary and a full page; the exception is just the due one,
 * the one that is named first is thrown, and nothing has changed behind it (Check.refused).
 */
public final class RefusalsTest {

    private static final int LEAST = Integer.MIN_VALUE;
    private static final int MOST = Integer.MAX_VALUE;
    private static final Class<IndexOutOfBoundsException> INDEX = Check.INDEX;
    private static final Class<IllegalArgumentException> ARGUMENT = Check.ARGUMENT;
    private static final Class<IllegalStateException> STATE = Check.STATE;

    public static void main(String[] args) {
        beginArgument();
        addNoteArgument();
        addNoteState();
        addNoteArgumentFirst();
        dropNoteState();
        setPitchIndex();
        setPitchArgument();
        setPitchIndexFirst();
        markIndex();
        setBarsArgument();
        repeatIndex();
        repeatArgument();
        repeatStateOfThree();
        repeatStateOfCommonPhrases();
        repeatIndexFirst();
        repeatArgumentBeforeState();
        transposeArgument();
        transposeState();
        transposeArgumentFirst();
        setWidthArgument();
        appendArgument();
        appendState();
        appendArgumentFirst();
        setLineIndex();
        setLineArgument();
        setLineIndexFirst();
        clearVerseIndex();
        addMetreArgument();
        addMetreState();
        addMetreArgumentFirst();
        dropMetreIndex();
        noteIndex();
        noteArgument();
        noteIndexFirst();
        partIndex();
        partArgument();
        partIndexFirst();
        headsIndex();
        phraseIndex();
        phraseArgument();
        phraseIndexFirst();
        sungIndex();
        fitIndex();
        lineIndex();
        lineArgument();
        lineIndexFirst();
        belowIndex();
        belowArgument();
        belowIndexFirst();
        distanceIndex();
        metreIndex();
        countArgument();
        refusedCallsOneAfterAnother();
        Check.end("RefusalsTest");
    }

    /** The values next to a range on both sides, and the farthest ones. */
    private static int[] beside(int least, int most) {
        return new int[] {least - 1, most + 1, least - 2, most + 2, LEAST, MOST, LEAST + 1, MOST - 1};
    }

    private interface Ask {
        long of(HymnPage page, int value);
    }

    private static void all(String what, Class<? extends RuntimeException> due, Check.Recipe recipe, int[] values,
            Ask ask) {
        for (int value : values) {
            Check.refused(what + " " + value, due, recipe, p -> ask.of(p, value));
        }
    }

    private static HymnPage fullTune() {
        return Pages.notes(40);
    }

    private static HymnPage fullBookAnd(String text) {
        HymnPage page = Pages.fullBook();
        Check.type(page, text);
        return page;
    }

    // ---- the tune

    /** begin: "IllegalArgumentException if tonic is out of range". */
    private static void beginArgument() {
        all("begin", ARGUMENT, HymnPage::new, beside(0, 11), HymnPage::begin);
        all("begin", ARGUMENT, Pages::ordinary, beside(0, 11), HymnPage::begin);
        all("begin", ARGUMENT, RefusalsTest::fullTune, beside(0, 11), HymnPage::begin);
    }

    private static long addNote(HymnPage page, int argument, int value) {
        int[] all = {1, 60, 60, 60, 60};
        all[argument] = value;
        return page.addNote(all[0], all[1], all[2], all[3], all[4]);
    }

    /** addNote: "IllegalArgumentException if an argument is out of range": each of five. */
    private static void addNoteArgument() {
        Check.Recipe[] recipes = {HymnPage::new, Pages::ordinary, () -> Pages.notes(39)};
        for (Check.Recipe recipe : recipes) {
            all("length", ARGUMENT, recipe, beside(1, 8), (p, value) -> addNote(p, 0, value));
            for (int part = 0; part < 4; part++) {
                int argument = part + 1;
                all("pitch of part " + part, ARGUMENT, recipe, beside(36, 84), (p, value) -> addNote(p, argument, value));
            }
        }
    }

    /** "IllegalStateException if there are 40 notes". */
    private static void addNoteState() {
        Check.refused("41st", STATE, RefusalsTest::fullTune, p -> p.addNote(1, 36, 36, 36, 36));
        Check.refused("41st", STATE, RefusalsTest::fullTune, p -> p.addNote(8, 84, 84, 84, 84));
        Check.refused("41st of 40 phrases", STATE, () -> Pages.phrases(40), p -> p.addNote(1, 60, 60, 60, 60));
    }

    /** "If several exceptions apply, the one that is named first in the throws clause is thrown." */
    private static void addNoteArgumentFirst() {
        for (int i = 0; i < 5; i++) {
            int argument = i;
            int[] values = argument == 0 ? beside(1, 8) : beside(36, 84);
            all("41st", ARGUMENT, RefusalsTest::fullTune, values, (p, value) -> addNote(p, argument, value));
        }
    }

    /** dropNote: "IllegalStateException if there are no notes". */
    private static void dropNoteState() {
        Check.refused("new page", STATE, HymnPage::new, HymnPage::dropNote);
        Check.refused("begun", STATE, () -> {
            HymnPage page = Pages.ordinary();
            page.begin(3);
            return page;
        }, HymnPage::dropNote);
        Check.refused("dropped", STATE, () -> {
            HymnPage page = Pages.ordinary();
            for (int note = 0; note < 6; note++) {
                page.dropNote();
            }
            return page;
        }, HymnPage::dropNote);
    }

    /** setPitch: "IndexOutOfBoundsException if the note or the part does not exist". */
    private static void setPitchIndex() {
        Check.refused("no note", INDEX, HymnPage::new, p -> p.setPitch(0, 0, 60));
        all("note", INDEX, Pages::ordinary, beside(0, 5), (p, note) -> p.setPitch(note, 0, 60));
        all("note", INDEX, RefusalsTest::fullTune, beside(0, 39), (p, note) -> p.setPitch(note, 3, 60));
        all("part", INDEX, Pages::ordinary, beside(0, 3), (p, part) -> p.setPitch(0, part, 60));
        all("part", INDEX, Pages::ordinary, beside(0, 3), (p, part) -> p.setPitch(5, part, 60));
    }

    /** "IllegalArgumentException if pitch is out of range". */
    private static void setPitchArgument() {
        for (int i = 0; i < 4; i++) {
            int part = i;
            all("pitch", ARGUMENT, Pages::ordinary, beside(36, 84), (p, pitch) -> p.setPitch(5, part, pitch));
        }
    }

    /** The order of both. */
    private static void setPitchIndexFirst() {
        all("note", INDEX, Pages::ordinary, beside(0, 5), (p, note) -> p.setPitch(note, 0, 35));
        all("part", INDEX, Pages::ordinary, beside(0, 3), (p, part) -> p.setPitch(0, part, 85));
        Check.refused("no note", INDEX, HymnPage::new, p -> p.setPitch(0, 4, 85));
    }

    /** mark: "IndexOutOfBoundsException if the note does not exist": for both marks, on and off. */
    private static void markIndex() {
        for (int bits = 0; bits < 4; bits++) {
            boolean end = bits % 2 == 1;
            boolean on = bits / 2 == 1;
            all("mark", INDEX, HymnPage::new, new int[] {0, 1, -1, 39, 40, 64, -64, LEAST, MOST},
                    (p, note) -> p.mark(note, end, on));
            // A shift by 64 would reach note 0.
            all("mark", INDEX, Pages::ordinary, new int[] {6, 7, -1, 39, 40, 64, 65, -64, -63, LEAST, MOST},
                    (p, note) -> p.mark(note, end, on));
            all("mark", INDEX, RefusalsTest::fullTune, new int[] {40, 41, -1, 64, 103, -25, LEAST, MOST},
                    (p, note) -> p.mark(note, end, on));
        }
    }

    /** setBars: "IllegalArgumentException if an argument is out of range". */
    private static void setBarsArgument() {
        Check.Recipe[] recipes = {HymnPage::new, Pages::ordinary};
        for (Check.Recipe recipe : recipes) {
            all("length", ARGUMENT, recipe, beside(2, 24), (p, length) -> p.setBars(length, 0));
            all("length with an upbeat", ARGUMENT, recipe, beside(2, 24), (p, length) -> p.setBars(length, 1));
            all("upbeat of 2", ARGUMENT, recipe, beside(0, 1), (p, upbeat) -> p.setBars(2, upbeat));
            all("upbeat of 6", ARGUMENT, recipe, beside(0, 5), (p, upbeat) -> p.setBars(6, upbeat));
            all("upbeat of 24", ARGUMENT, recipe, beside(0, 23), (p, upbeat) -> p.setBars(24, upbeat));
            Check.refused("both", ARGUMENT, recipe, p -> p.setBars(0, 0));
            Check.refused("both", ARGUMENT, recipe, p -> p.setBars(25, 24));
            Check.refused("both", ARGUMENT, recipe, p -> p.setBars(LEAST, MOST));
        }
    }

    /** repeat: "IndexOutOfBoundsException if one of the phrases does not exist". */
    private static void repeatIndex() {
        Check.refused("no phrase", INDEX, HymnPage::new, p -> p.repeat(0, 0, 0));
        Check.Recipe eight = () -> Pages.phrases(8);
        all("first", INDEX, eight, beside(0, 7), (p, first) -> p.repeat(first, 7, 0));
        all("last", INDEX, eight, beside(0, 7), (p, last) -> p.repeat(0, last, 0));
        all("both", INDEX, eight, beside(0, 7), (p, both) -> p.repeat(both, both, 0));
        Check.Recipe forty = () -> Pages.phrases(40);
        all("first", INDEX, forty, beside(0, 39), (p, first) -> p.repeat(first, 39, 0));
        all("last", INDEX, forty, beside(0, 39), (p, last) -> p.repeat(39, last, 0));
        // There are 40 notes, but one phrase.
        Check.refused("a note is no phrase", INDEX, RefusalsTest::fullTune, p -> p.repeat(0, 1, 0));
    }

    /** "IllegalArgumentException if last is less than first, or skipped is out of range". */
    private static void repeatArgument() {
        Check.Recipe eight = () -> Pages.phrases(8);
        for (int skipped = -8; skipped <= 8; skipped++) {
            int its = skipped;
            Check.refused("2 to 1, " + skipped, ARGUMENT, eight, p -> p.repeat(2, 1, its));
            Check.refused("7 to 0, " + skipped, ARGUMENT, eight, p -> p.repeat(7, 0, its));
        }
        all("skipped of 1", ARGUMENT, eight, beside(0, 0), (p, skipped) -> p.repeat(7, 7, skipped));
        all("skipped of 3", ARGUMENT, eight, beside(0, 2), (p, skipped) -> p.repeat(1, 3, skipped));
        all("skipped of 8", ARGUMENT, eight, beside(0, 7), (p, skipped) -> p.repeat(0, 7, skipped));
    }

    /** "IllegalStateException if there are 3 repeats". */
    private static void repeatStateOfThree() {
        for (int phrase : new int[] {0, 2, 5, 7}) {
            Check.refused("a fourth", STATE, Pages::threeRepeats, p -> p.repeat(phrase, phrase, 0));
        }
        Check.refused("a fourth with phrases in common", STATE, Pages::threeRepeats, p -> p.repeat(0, 7, 0));
    }

    /** "or it has phrases in common with one of them": with the first, the second, or both. */
    private static void repeatStateOfCommonPhrases() {
        Check.Recipe two = () -> {
            HymnPage page = Pages.phrases(8);
            page.repeat(5, 6, 1);
            page.repeat(1, 2, 0);
            return page;
        };
        int[][] common = {{0, 1}, {1, 1}, {2, 2}, {2, 3}, {4, 5}, {5, 5}, {6, 6}, {6, 7}, {2, 5}, {0, 7}, {1, 2}};
        for (int[] range : common) {
            for (int skipped = 0; skipped <= range[1] - range[0]; skipped++) {
                int its = skipped;
                Check.refused("repeat " + range[0] + " " + range[1] + " " + skipped, STATE, two,
                        p -> p.repeat(range[0], range[1], its));
            }
        }
    }

    /** The order: a phrase that does not exist ahead of wrong arguments, and of both states. */
    private static void repeatIndexFirst() {
        Check.Recipe eight = () -> Pages.phrases(8);
        Check.refused("8 to 7", INDEX, eight, p -> p.repeat(8, 7, 0));
        Check.refused("0 to -1", INDEX, eight, p -> p.repeat(0, -1, 0));
        Check.refused("0 to 8, -1", INDEX, eight, p -> p.repeat(0, 8, -1));
        Check.refused("-1 to 0, 2", INDEX, eight, p -> p.repeat(-1, 0, 2));
        Check.refused("far", INDEX, eight, p -> p.repeat(MOST, LEAST, LEAST));
        Check.refused("far", INDEX, eight, p -> p.repeat(LEAST, MOST, MOST));
        Check.refused("fourth, 0 to 8", INDEX, Pages::threeRepeats, p -> p.repeat(0, 8, 0));
        Check.refused("fourth, -1 to 1", INDEX, Pages::threeRepeats, p -> p.repeat(-1, 1, 0));
        Check.refused("fourth, 8 to 1, -1", INDEX, Pages::threeRepeats, p -> p.repeat(8, 1, -1));
    }

    /** The order: wrong arguments ahead of both states. */
    private static void repeatArgumentBeforeState() {
        Check.refused("fourth, 2 to 0", ARGUMENT, Pages::threeRepeats, p -> p.repeat(2, 0, 0));
        Check.refused("fourth, skipped -1", ARGUMENT, Pages::threeRepeats, p -> p.repeat(0, 0, -1));
        Check.refused("fourth, skipped 1", ARGUMENT, Pages::threeRepeats, p -> p.repeat(0, 0, 1));
        Check.Recipe one = () -> {
            HymnPage page = Pages.phrases(8);
            page.repeat(2, 4, 0);
            return page;
        };
        Check.refused("common, 4 to 2", ARGUMENT, one, p -> p.repeat(4, 2, 0));
        Check.refused("common, skipped -1", ARGUMENT, one, p -> p.repeat(2, 4, -1));
        Check.refused("common, skipped 3", ARGUMENT, one, p -> p.repeat(2, 4, 3));
    }

    /** transpose: "IllegalArgumentException if by is out of range". */
    private static void transposeArgument() {
        all("empty tune", ARGUMENT, HymnPage::new, beside(-24, 24), HymnPage::transpose);
        all("ordinary page", ARGUMENT, Pages::ordinary, beside(-24, 24), HymnPage::transpose);
        all("all at 60", ARGUMENT, () -> Pages.chord(11, 60, 60, 60, 60), beside(-24, 24), HymnPage::transpose);
    }

    /** "IllegalStateException if a pitch would not be 36 to 84": the ordinary page reaches from 43 to 74. */
    private static void transposeState() {
        all("ordinary page", STATE, Pages::ordinary, new int[] {-8, -9, -24, 11, 12, 24}, HymnPage::transpose);
        Check.same("down to 36", 0, Pages.ordinary().transpose(-7));
        Check.same("up to 84", 5, Pages.ordinary().transpose(10));
        all("from 36 to 84", STATE, () -> Pages.chord(0, 84, 60, 60, 36), new int[] {-24, -1, 1, 24},
                HymnPage::transpose);
    }

    /** The order of both. */
    private static void transposeArgumentFirst() {
        all("ordinary page", ARGUMENT, Pages::ordinary, new int[] {-25, 25, LEAST, MOST}, HymnPage::transpose);
        all("from 36 to 84", ARGUMENT, () -> Pages.chord(0, 84, 60, 60, 36), new int[] {-25, 25, LEAST, MOST},
                HymnPage::transpose);
    }

    /** setWidth: "IllegalArgumentException if width is out of range". */
    private static void setWidthArgument() {
        all("empty tune", ARGUMENT, HymnPage::new, beside(20, 200), HymnPage::setWidth);
        all("ordinary page", ARGUMENT, Pages::ordinary, beside(20, 200), HymnPage::setWidth);
        all("40 phrases", ARGUMENT, () -> Pages.phrases(40), new int[] {19, 201, 0, -1}, HymnPage::setWidth);
    }

    // ---- input

    /** append: "IllegalArgumentException if code is not 32 to 126". */
    private static void appendArgument() {
        int[] codes = {31, 127, 128, 0, -1, 10, 255, 256 + 'a', 65536 + 'a', -65536 + 'a', LEAST, MOST};
        all("empty", ARGUMENT, HymnPage::new, codes, HymnPage::append);
        all("ordinary", ARGUMENT, Pages::ordinary, codes, HymnPage::append);
        all("one place left", ARGUMENT, () -> Pages.typed("a".repeat(59)), codes, HymnPage::append);
    }

    /** "IllegalStateException if the buffer has 60 characters". */
    private static void appendState() {
        all("full", STATE, Pages::fullBuffer, new int[] {32, 'a', '.', '1', 126}, HymnPage::append);
        all("full metre", STATE, () -> Pages.typed("10.".repeat(20)), new int[] {32, 'D', '1', 126}, HymnPage::append);
    }

    /** The order of both. */
    private static void appendArgumentFirst() {
        all("full", ARGUMENT, Pages::fullBuffer, new int[] {31, 127, -1, 0, LEAST, MOST}, HymnPage::append);
    }

    /** setLine: "IndexOutOfBoundsException if verse or line is out of range". */
    private static void setLineIndex() {
        all("verse", INDEX, Pages::ordinary, beside(0, 3), (p, verse) -> p.setLine(verse, 0));
        all("verse", INDEX, Pages::ordinary, beside(0, 3), (p, verse) -> p.setLine(verse, 23));
        all("line", INDEX, Pages::ordinary, beside(0, 23), (p, line) -> p.setLine(0, line));
        all("line", INDEX, Pages::ordinary, beside(0, 23), (p, line) -> p.setLine(3, line));
        // 24 lines a verse: line 24 of verse 0 is not line 0 of verse 1.
        Check.refused("line -1 of verse 1", INDEX, Pages::ordinary, p -> p.setLine(1, -1));
        Check.refused("both", INDEX, Pages::ordinary, p -> p.setLine(4, 24));
    }

    /** "IllegalArgumentException if the buffer is not a complete line". */
    private static void setLineArgument() {
        String[] not = {"", "a-", "a ", "-a", " a", "a--b", "a  b", "a- b", "8.6", "a.", "abcdefghijklm",
            "a-".repeat(30), "a".repeat(60)};
        for (String text : not) {
            Check.refused("\"" + text + "\"", ARGUMENT, () -> Pages.typed(text), p -> p.setLine(0, 0));
            Check.refused("\"" + text + "\"", ARGUMENT, () -> Pages.typed(text), p -> p.setLine(3, 23));
            Check.refused("\"" + text + "\" over another line", ARGUMENT, () -> lineAnd(text), p -> p.setLine(0, 0));
        }
    }

    private static HymnPage lineAnd(String text) {
        HymnPage page = Pages.notes(3);
        Check.setLine(page, 0, 0, "Zi-on's song");
        Check.type(page, text);
        return page;
    }

    /** The order of both. */
    private static void setLineIndexFirst() {
        for (String text : new String[] {"", "a-", "8.6", "a-".repeat(30)}) {
            Check.Recipe recipe = () -> lineAnd(text);
            all("verse", INDEX, recipe, beside(0, 3), (p, verse) -> p.setLine(verse, 0));
            all("line", INDEX, recipe, beside(0, 23), (p, line) -> p.setLine(0, line));
        }
    }

    /** clearVerse: "IndexOutOfBoundsException if verse is out of range". */
    private static void clearVerseIndex() {
        all("empty", INDEX, HymnPage::new, beside(0, 3), HymnPage::clearVerse);
        all("ordinary", INDEX, Pages::ordinary, beside(0, 3), HymnPage::clearVerse);
    }

    /** addMetre: "IllegalArgumentException if the buffer is not a complete metre". */
    private static void addMetreArgument() {
        String[] not = {"", ".", "D", "8.", "8.6.", ".8", "8..6", "8D", "8.D.", "8.DD", "0", "8.0", "21", "la",
            "10.".repeat(20), Pages.TWENTY_THREE_ONES, Pages.TWENTY_THREE_ONES + "1.1", "1.".repeat(13) + "D"};
        for (String text : not) {
            Check.refused("\"" + text + "\"", ARGUMENT, () -> Pages.typed(text), HymnPage::addMetre);
            Check.refused("\"" + text + "\" behind another", ARGUMENT, () -> {
                HymnPage page = Pages.notes(1);
                Check.addMetre(page, "3.D");
                Check.type(page, text);
                return page;
            }, HymnPage::addMetre);
        }
    }

    /** "IllegalStateException if there are 8 metres". */
    private static void addMetreState() {
        for (String text : new String[] {"1", "8.6.D", Pages.TWENTY_THREE_ONES + "20"}) {
            Check.refused("a ninth, " + text, STATE, () -> fullBookAnd(text), HymnPage::addMetre);
        }
    }

    /** The order of both. */
    private static void addMetreArgumentFirst() {
        for (String text : new String[] {"", "8.", "D", "0", "la", "10.".repeat(20)}) {
            Check.refused("a ninth, " + text, ARGUMENT, () -> fullBookAnd(text), HymnPage::addMetre);
        }
    }

    /** dropMetre: "IndexOutOfBoundsException if there is no such metre". */
    private static void dropMetreIndex() {
        all("empty book", INDEX, HymnPage::new, new int[] {0, 1, -1, 7, 8, LEAST, MOST}, HymnPage::dropMetre);
        all("ordinary", INDEX, Pages::ordinary, beside(0, 1), HymnPage::dropMetre);
        all("full book", INDEX, Pages::fullBook, beside(0, 7), HymnPage::dropMetre);
    }

    // ---- notes and staves

    /** note: "IndexOutOfBoundsException if the note does not exist": for each what. */
    private static void noteIndex() {
        for (int i = 0; i <= 8; i++) {
            int what = i;
            all("empty", INDEX, HymnPage::new, new int[] {0, -1, 39, LEAST, MOST}, (p, note) -> p.note(note, what));
            all("ordinary", INDEX, Pages::ordinary, beside(0, 5), (p, note) -> p.note(note, what));
            all("full", INDEX, RefusalsTest::fullTune, new int[] {-1, 40, 64}, (p, note) -> p.note(note, what));
        }
    }

    /** "IllegalArgumentException if what is not 0 to 8". */
    private static void noteArgument() {
        all("note 0", ARGUMENT, Pages::ordinary, beside(0, 8), (p, what) -> p.note(0, what));
        all("note 5", ARGUMENT, Pages::ordinary, beside(0, 8), (p, what) -> p.note(5, what));
    }

    /** The order of both. */
    private static void noteIndexFirst() {
        all("note -1", INDEX, Pages::ordinary, beside(0, 8), (p, what) -> p.note(-1, what));
        all("note 6", INDEX, Pages::ordinary, beside(0, 8), (p, what) -> p.note(6, what));
        Check.refused("no note", INDEX, HymnPage::new, p -> p.note(0, 9));
    }

    /** part: "IndexOutOfBoundsException if the note or the part does not exist": for each what. */
    private static void partIndex() {
        for (int i = 0; i <= 5; i++) {
            int what = i;
            all("empty", INDEX, HymnPage::new, new int[] {0, -1, LEAST, MOST}, (p, note) -> p.part(note, 0, what));
            all("note", INDEX, Pages::ordinary, beside(0, 5), (p, note) -> p.part(note, 3, what));
            all("part", INDEX, Pages::ordinary, beside(0, 3), (p, part) -> p.part(0, part, what));
            all("part", INDEX, Pages::ordinary, beside(0, 3), (p, part) -> p.part(5, part, what));
            all("full", INDEX, RefusalsTest::fullTune, new int[] {-1, 40}, (p, note) -> p.part(note, 0, what));
        }
    }

    /** "IllegalArgumentException if what is not 0 to 5". */
    private static void partArgument() {
        for (int i = 0; i < 4; i++) {
            int part = i;
            all("part " + part, ARGUMENT, Pages::ordinary, beside(0, 5), (p, what) -> p.part(5, part, what));
        }
    }

    /** The order of both. */
    private static void partIndexFirst() {
        all("note 6", INDEX, Pages::ordinary, beside(0, 5), (p, what) -> p.part(6, 0, what));
        all("part 4", INDEX, Pages::ordinary, beside(0, 5), (p, what) -> p.part(0, 4, what));
        all("part -1", INDEX, Pages::ordinary, beside(0, 5), (p, what) -> p.part(0, -1, what));
    }

    /** heads: "IndexOutOfBoundsException if the note or the staff does not exist". */
    private static void headsIndex() {
        all("empty", INDEX, HymnPage::new, new int[] {0, -1, LEAST, MOST}, (p, note) -> p.heads(note, 0));
        all("note", INDEX, Pages::ordinary, beside(0, 5), (p, note) -> p.heads(note, 1));
        all("staff", INDEX, Pages::ordinary, beside(0, 1), (p, staff) -> p.heads(0, staff));
        all("staff", INDEX, Pages::ordinary, beside(0, 1), (p, staff) -> p.heads(5, staff));
        all("full", INDEX, RefusalsTest::fullTune, beside(0, 39), (p, note) -> p.heads(note, 0));
    }

    // ---- phrases and verses

    /** phrase: "IndexOutOfBoundsException if the phrase does not exist": for each what. */
    private static void phraseIndex() {
        for (int i = 0; i <= 5; i++) {
            int what = i;
            all("empty", INDEX, HymnPage::new, new int[] {0, -1, LEAST, MOST}, (p, phrase) -> p.phrase(phrase, what));
            all("ordinary", INDEX, Pages::ordinary, beside(0, 2), (p, phrase) -> p.phrase(phrase, what));
            all("40 notes", INDEX, RefusalsTest::fullTune, new int[] {-1, 1, 39}, (p, phrase) -> p.phrase(phrase, what));
            all("40 phrases", INDEX, () -> Pages.phrases(40), new int[] {-1, 40}, (p, phrase) -> p.phrase(phrase, what));
        }
    }

    /** "IllegalArgumentException if what is not 0 to 5". */
    private static void phraseArgument() {
        all("phrase 0", ARGUMENT, Pages::ordinary, beside(0, 5), (p, what) -> p.phrase(0, what));
        all("phrase 2", ARGUMENT, Pages::ordinary, beside(0, 5), (p, what) -> p.phrase(2, what));
    }

    /** The order of both. */
    private static void phraseIndexFirst() {
        all("phrase 3", INDEX, Pages::ordinary, beside(0, 5), (p, what) -> p.phrase(3, what));
        all("phrase -1", INDEX, Pages::ordinary, beside(0, 5), (p, what) -> p.phrase(-1, what));
        Check.refused("no phrase", INDEX, HymnPage::new, p -> p.phrase(0, 6));
    }

    /** sung: "IndexOutOfBoundsException if there is no such sung phrase". */
    private static void sungIndex() {
        all("empty", INDEX, HymnPage::new, new int[] {0, -1, 1, LEAST, MOST}, HymnPage::sung);
        all("ordinary", INDEX, Pages::ordinary, beside(0, 3), HymnPage::sung);
        all("80", INDEX, Pages::eightySung, beside(0, 79), HymnPage::sung);
    }

    /** fit: "IndexOutOfBoundsException if verse is out of range". */
    private static void fitIndex() {
        all("empty", INDEX, HymnPage::new, beside(0, 3), HymnPage::fit);
        all("ordinary", INDEX, Pages::ordinary, beside(0, 3), HymnPage::fit);
    }

    /** line: "IndexOutOfBoundsException if verse or line is out of range": for each what. */
    private static void lineIndex() {
        for (int i = 0; i <= 2; i++) {
            int what = i;
            all("verse", INDEX, Pages::ordinary, beside(0, 3), (p, verse) -> p.line(verse, 0, what));
            all("verse", INDEX, Pages::ordinary, beside(0, 3), (p, verse) -> p.line(verse, 23, what));
            all("line", INDEX, Pages::ordinary, beside(0, 23), (p, line) -> p.line(0, line, what));
            all("line", INDEX, HymnPage::new, beside(0, 23), (p, line) -> p.line(3, line, what));
        }
    }

    /** "IllegalArgumentException if what is not 0 to 2": of a line that is there, and of a missing one. */
    private static void lineArgument() {
        all("line", ARGUMENT, Pages::ordinary, beside(0, 2), (p, what) -> p.line(0, 0, what));
        all("missing", ARGUMENT, Pages::ordinary, beside(0, 2), (p, what) -> p.line(3, 23, what));
    }

    /** The order of both. */
    private static void lineIndexFirst() {
        all("verse 4", INDEX, Pages::ordinary, beside(0, 2), (p, what) -> p.line(4, 0, what));
        all("line 24", INDEX, Pages::ordinary, beside(0, 2), (p, what) -> p.line(0, 24, what));
        all("line -1", INDEX, Pages::ordinary, beside(0, 2), (p, what) -> p.line(0, -1, what));
    }

    /**
     * below: "IndexOutOfBoundsException if the verse, the sung phrase or the place does not exist":
     * for each what.
     */
    private static void belowIndex() {
        for (int i = 0; i <= 3; i++) {
            int what = i;
            Check.refused("empty tune", INDEX, HymnPage::new, p -> p.below(0, 0, 0, what));
            all("verse", INDEX, Pages::ordinary, beside(0, 3), (p, verse) -> p.below(verse, 0, 0, what));
            all("number", INDEX, Pages::ordinary, beside(0, 3), (p, number) -> p.below(0, number, 0, what));
            for (int j = 0; j < 4; j++) {
                int number = j;
                all("place", INDEX, Pages::ordinary, beside(0, 1), (p, place) -> p.below(0, number, place, what));
            }
            all("80 sung", INDEX, Pages::eightySung, new int[] {-1, 80}, (p, n) -> p.below(0, n, 0, what));
            all("80 sung", INDEX, Pages::eightySung, new int[] {-1, 1}, (p, n) -> p.below(3, 79, n, what));
            all("40 notes", INDEX, RefusalsTest::fullTune, new int[] {-1, 40}, (p, n) -> p.below(0, 0, n, what));
        }
    }

    /** "IllegalArgumentException if what is not 0 to 3": with a syllable there, and without. */
    private static void belowArgument() {
        all("a syllable", ARGUMENT, Pages::ordinary, beside(0, 3), (p, what) -> p.below(0, 0, 0, what));
        all("no line", ARGUMENT, Pages::ordinary, beside(0, 3), (p, what) -> p.below(3, 0, 0, what));
        all("no line 79", ARGUMENT, Pages::eightySung, new int[] {-1, 4}, (p, what) -> p.below(0, 79, 0, what));
        all("a slurred note", ARGUMENT, Pages::ordinary, beside(0, 3), (p, what) -> p.below(0, 3, 1, what));
    }

    /** The order of both. */
    private static void belowIndexFirst() {
        all("verse 4", INDEX, Pages::ordinary, beside(0, 3), (p, what) -> p.below(4, 0, 0, what));
        all("number 4", INDEX, Pages::ordinary, beside(0, 3), (p, what) -> p.below(0, 4, 0, what));
        all("place 2", INDEX, Pages::ordinary, beside(0, 3), (p, what) -> p.below(0, 0, 2, what));
        Check.refused("empty tune", INDEX, HymnPage::new, p -> p.below(0, 0, 0, 4));
    }

    // ---- metres, and what there is

    /** distance: "IndexOutOfBoundsException if there is no such metre". */
    private static void distanceIndex() {
        all("empty book", INDEX, HymnPage::new, new int[] {0, 1, -1, 7, LEAST, MOST}, HymnPage::distance);
        all("ordinary", INDEX, Pages::ordinary, beside(0, 1), HymnPage::distance);
        all("full book", INDEX, Pages::fullBook, beside(0, 7), HymnPage::distance);
    }

    /** metre: "IndexOutOfBoundsException if there is no such metre": whatever the index is. */
    private static void metreIndex() {
        for (int i : new int[] {0, -1, 24, LEAST, MOST}) {
            int index = i;
            all("empty book", INDEX, HymnPage::new, new int[] {0, 1, -1, 7, LEAST, MOST}, (p, m) -> p.metre(m, index));
            all("ordinary", INDEX, Pages::ordinary, beside(0, 1), (p, m) -> p.metre(m, index));
            all("full book", INDEX, Pages::fullBook, beside(0, 7), (p, m) -> p.metre(m, index));
        }
    }

    /** count: "IllegalArgumentException if what is not 0 to 13". */
    private static void countArgument() {
        all("empty", ARGUMENT, HymnPage::new, beside(0, 13), HymnPage::count);
        all("ordinary", ARGUMENT, Pages::ordinary, beside(0, 13), HymnPage::count);
    }

    /** "A call that throws an exception changes nothing": nor do many, and what is right goes on. */
    private static void refusedCallsOneAfterAnother() {
        HymnPage page = Pages.ordinary();
        long before = page.digest();
        Check.Use[] calls = {p -> p.begin(12), p -> p.addNote(0, 60, 60, 60, 60), p -> p.setPitch(6, 0, 60),
            p -> p.mark(6, true, true), p -> p.setBars(1, 0), p -> p.repeat(0, 3, 0), p -> p.transpose(25),
            p -> p.transpose(24), p -> p.setWidth(201), p -> p.append(127), p -> p.setLine(4, 0),
            p -> p.clearVerse(4), HymnPage::addMetre, p -> p.dropMetre(2), p -> p.count(14)};
        int thrown = 0;
        for (Check.Use call : calls) {
            try {
                call.of(page);
            } catch (IllegalArgumentException | IllegalStateException | IndexOutOfBoundsException e) {
                thrown++;
            }
        }
        Check.same("all are refused", calls.length, thrown);
        Check.same("digest", before, page.digest());
        Check.same("setLine", 1, page.setLine(0, 2));
        Check.same("addNote", 6, page.addNote(8, 84, 84, 36, 36));
        Check.same("dropMetre", 1, page.dropMetre(1));
    }
}

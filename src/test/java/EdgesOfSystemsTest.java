/**
 * The edges that the document's sentences about columns, the page and its systems name, a test for
 * each: the terms, and promises 11, 19 (what 7), 22 (what 3 and 4) and 31. Above each test stands
 * its sentence.
 */
public final class EdgesOfSystemsTest {

    private static final String TWELVE = "abcdefghijkl";

    public static void main(String[] args) {
        columnIsAtLeast3();
        columnIsTheLongestSyllablePlus1();
        columnOfAnyVerse();
        columnOfAnySungPhrase();
        columnOfSungPhrase23And24();
        columnOfSlurredNotes();
        columnOfALongerLine();
        columnShrinksAgain();
        widthIs20To200();
        widthIs80AtFirst();
        phraseThatJustComesIn();
        phraseThatJustComesIntoTheWidest();
        laterSystemThatIsJustFull();
        firstPhraseAlwaysComesIntoSystem0();
        phraseWiderThanThePage();
        systemsOfFortyPhrases();
        systemsFollowTheWidth();
        systemsFollowTheVerses();
        noSystemsWithoutNotes();
        meanWidthOfNoSystems();
        meanWidthOfSystems();
        Check.end("EdgesOfSystemsTest");
    }

    /** "plus 1, and at least 3": without a syllable, and with one of 1, 2 and 3. */
    private static void columnIsAtLeast3() {
        HymnPage page = Pages.notes(5);
        Check.row("without lines", new long[] {3, 3, 3, 3, 3}, note -> page.note(note, 7));
        Check.setLine(page, 0, 0, "a ab abc abcd");
        Check.row("column", new long[] {3, 3, 4, 5, 3}, note -> page.note(note, 7));
    }

    /** "It is as wide as the longest syllable that stands below the note ..., plus 1": up to 12. */
    private static void columnIsTheLongestSyllablePlus1() {
        HymnPage page = Pages.notes(1);
        for (int length = 1; length <= 12; length++) {
            Check.setLine(page, 0, 0, TWELVE.substring(0, length));
            Check.same("column of " + length, Math.max(3, length + 1), page.note(0, 7));
            Check.same("phrase", Math.max(3, length + 1), page.phrase(0, 3));
        }
    }

    /** "in any verse": each may have the longest one. */
    private static void columnOfAnyVerse() {
        for (int longest = 0; longest < 4; longest++) {
            HymnPage page = Pages.notes(1);
            for (int verse = 0; verse < 4; verse++) {
                Check.setLine(page, verse, 0, TWELVE.substring(0, verse == longest ? 9 : 3 + verse));
            }
            Check.same("column", 10, page.note(0, 7));
        }
    }

    /** "and any sung phrase": the first or the second time may have the longest one. */
    private static void columnOfAnySungPhrase() {
        for (int longest = 0; longest < 2; longest++) {
            HymnPage page = Pages.phrases(2);
            page.repeat(0, 0, 0);
            Check.setLine(page, 0, longest, "strength");
            Check.setLine(page, 0, 1 - longest, "grace");
            Check.row("column", new long[] {9, 3}, note -> page.note(note, 7));
        }
    }

    /** The same words: sung phrase 23 has a line, sung phrase 24 has none. */
    private static void columnOfSungPhrase23And24() {
        HymnPage page = Pages.phrases(25);
        for (int verse = 0; verse < 4; verse++) {
            Check.setLine(page, verse, 0, "graces");
        }
        Check.setLine(page, 3, 23, "four");
        Check.same("column of 0", 7, page.note(0, 7));
        Check.same("column of 22", 3, page.note(22, 7));
        Check.same("column of 23", 5, page.note(23, 7));
        Check.same("column of 24", 3, page.note(24, 7));
        HymnPage last = Pages.phrases(2);
        for (int verse = 0; verse < 4; verse++) {
            Check.setLine(last, verse, 23, "graces");
        }
        Check.row("without a sung phrase 23", new long[] {3, 3}, note -> last.note(note, 7));
        HymnPage twice = Pages.phrases(24);
        Check.setLine(twice, 0, 23, "four");
        twice.repeat(0, 0, 0);
        Check.same("column of 22, sung as 23", 5, twice.note(22, 7));
        Check.same("column of 23, sung as 24", 3, twice.note(23, 7));
    }

    /** "that stands below the note": none does below a slurred one. */
    private static void columnOfSlurredNotes() {
        HymnPage page = Pages.notes(3);
        Check.setLine(page, 0, 0, "grace abounds");
        Check.row("column", new long[] {6, 8, 3}, note -> page.note(note, 7));
        page.mark(1, false, true);
        Check.row("column", new long[] {6, 3, 8}, note -> page.note(note, 7));
        page.mark(0, false, true);
        Check.row("column", new long[] {6, 3, 8}, note -> page.note(note, 7));
        page.mark(2, false, true);
        Check.row("column", new long[] {6, 3, 3}, note -> page.note(note, 7));
    }

    /** The same words: a syllable behind the last note of its phrase stands below none. */
    private static void columnOfALongerLine() {
        HymnPage page = Check.withPhrases(1, 1);
        Check.setLine(page, 0, 0, "a strength " + TWELVE);
        Check.row("column", new long[] {3, 3}, note -> page.note(note, 7));
    }

    /** The same words: what does not stand there any more has no width. */
    private static void columnShrinksAgain() {
        HymnPage page = Pages.notes(1);
        Check.setLine(page, 0, 0, TWELVE);
        Check.setLine(page, 0, 0, "a");
        Check.same("column", 3, page.note(0, 7));
        Check.setLine(page, 0, 0, TWELVE);
        page.clearVerse(0);
        Check.same("column", 3, page.note(0, 7));
        Check.setLine(page, 0, 0, TWELVE);
        page.begin(0);
        page.addNote(1, 60, 60, 60, 60);
        Check.same("column", 3, page.note(0, 7));
    }

    /** "The page has a width, 20 to 200". */
    private static void widthIs20To200() {
        HymnPage page = new HymnPage();
        for (int width = 20; width <= 200; width++) {
            page.setWidth(width);
            Check.same("width", width, page.count(9));
        }
        Check.refused("width 19", Check.ARGUMENT, Pages::ordinary, p -> p.setWidth(19));
        Check.refused("width 201", Check.ARGUMENT, Pages::ordinary, p -> p.setWidth(201));
    }

    /** "at first 80". */
    private static void widthIs80AtFirst() {
        HymnPage page = Check.withPhrases(13, 13);
        Check.same("width", 80, page.count(9));
        Check.setLine(page, 0, 0, "four");
        Check.same("80 come in", 1, page.count(10));
        Check.setLine(page, 0, 0, "grace");
        Check.same("81 do not", 2, page.count(10));
    }

    /**
     * "if the columns of this system and of the phrase together are not wider than the page, otherwise
     * into a new one".
     */
    private static void phraseThatJustComesIn() {
        HymnPage page = Check.withPhrases(3, 3);
        page.setWidth(20);
        Check.setLine(page, 0, 1, "four");
        Check.row("20 on 20", new long[] {0, 0}, phrase -> page.phrase(phrase, 4));
        Check.same("systems", 1, page.count(10));
        Check.setLine(page, 0, 1, "grace");
        Check.row("21 on 20", new long[] {0, 1}, phrase -> page.phrase(phrase, 4));
        Check.same("systems", 2, page.count(10));
        Check.same("21 on 21", 1, page.setWidth(21));
        Check.same("21 on 20", 2, page.setWidth(20));
    }

    /** The same sentence, on a page of 200: 15 columns of 13, and one of 5 or 6. */
    private static void phraseThatJustComesIntoTheWidest() {
        HymnPage page = Pages.phrases(16);
        for (int line = 0; line < 15; line++) {
            Check.setLine(page, line % 4, line, TWELVE);
        }
        Check.setLine(page, 0, 15, "four");
        Check.same("200 on 200", 1, page.setWidth(200));
        Check.same("200 on 199", 2, page.setWidth(199));
        page.setWidth(200);
        Check.setLine(page, 0, 15, "grace");
        Check.same("201 on 200", 2, page.count(10));
        Check.same("the last one's system", 1, page.phrase(15, 4));
        Check.same("the system before it", 0, page.phrase(14, 4));
    }

    /** The same sentence, of systems behind the first one. */
    private static void laterSystemThatIsJustFull() {
        HymnPage page = Check.withPhrases(7, 3, 3, 2, 4);
        page.setWidth(20);
        Check.setLine(page, 0, 2, "four");
        Check.setLine(page, 0, 3, "four");
        Check.row("20 on 20", new long[] {0, 1, 1, 2, 2}, phrase -> page.phrase(phrase, 4));
        Check.setLine(page, 0, 3, "grace");
        Check.row("21 on 20", new long[] {0, 1, 1, 2, 3}, phrase -> page.phrase(phrase, 4));
        Check.setLine(page, 0, 2, "grace");
        Check.row("21 on 20", new long[] {0, 1, 2, 3, 4}, phrase -> page.phrase(phrase, 4));
    }

    /** "the first phrase always comes into system 0": also if it is wider than the page. */
    private static void firstPhraseAlwaysComesIntoSystem0() {
        HymnPage page = Check.withPhrases(40);
        Check.same("systems", 1, page.setWidth(20));
        Check.same("system", 0, page.phrase(0, 4));
        HymnPage two = Check.withPhrases(7, 1);
        Check.same("systems", 2, two.setWidth(20));
        Check.row("system", new long[] {0, 1}, phrase -> two.phrase(phrase, 4));
    }

    /** "otherwise into a new one": a later phrase that is wider than the page has a system alone. */
    private static void phraseWiderThanThePage() {
        HymnPage page = Check.withPhrases(1, 7, 1, 1, 8, 9, 2);
        Check.same("systems", 6, page.setWidth(20));
        Check.row("system", new long[] {0, 1, 2, 2, 3, 4, 5}, phrase -> page.phrase(phrase, 4));
    }

    /** "Systems are numbered from 0", "Systems are filled with phrases, from the first one on". */
    private static void systemsOfFortyPhrases() {
        HymnPage page = Pages.phrases(40);
        Check.same("systems", 7, page.setWidth(20));
        for (int phrase = 0; phrase < 40; phrase++) {
            Check.same("system", phrase / 6, page.phrase(phrase, 4));
        }
        Check.same("119", 2, page.setWidth(119));
        Check.same("the last one alone", 1, page.phrase(39, 4));
        Check.same("120", 1, page.setWidth(120));
    }

    /** Promise 11: "Returns the number of systems then." */
    private static void systemsFollowTheWidth() {
        HymnPage page = Check.withPhrases(4, 4, 4);
        Check.same("20", 3, page.setWidth(20));
        Check.same("23", 3, page.setWidth(23));
        Check.same("24", 2, page.setWidth(24));
        Check.same("35", 2, page.setWidth(35));
        Check.same("36", 1, page.setWidth(36));
        Check.same("200", 1, page.setWidth(200));
        Check.same("20 again", 3, page.setWidth(20));
    }

    /** "Each note has a column": the systems are those of the columns at each time. */
    private static void systemsFollowTheVerses() {
        HymnPage page = Check.withPhrases(3, 3);
        page.setWidth(20);
        Check.setLine(page, 0, 0, TWELVE);
        Check.same("wide", 2, page.count(10));
        page.clearVerse(0);
        Check.same("narrow", 1, page.count(10));
        page.addNote(1, 60, 60, 60, 60);
        Check.same("a note more", 2, page.count(10));
        page.dropNote();
        Check.same("a note less", 1, page.count(10));
        Check.setLine(page, 0, 2, TWELVE);
        Check.same("not sung", 1, page.count(10));
        page.repeat(0, 1, 1);
        Check.same("sung", 2, page.count(10));
        page.clearRepeats();
        Check.same("not sung again", 1, page.count(10));
    }

    /** "the first phrase always comes into system 0": where there is none, there is no system. */
    private static void noSystemsWithoutNotes() {
        HymnPage page = new HymnPage();
        Check.same("new", 0, page.count(10));
        Check.same("setWidth", 0, page.setWidth(20));
        page.addNote(1, 60, 60, 60, 60);
        Check.same("one note", 1, page.count(10));
        page.dropNote();
        Check.same("dropped", 0, page.count(10));
        Check.same("setWidth", 0, page.setWidth(200));
    }

    /** Promise 31: "0.0 if there are none." */
    private static void meanWidthOfNoSystems() {
        HymnPage page = new HymnPage();
        Check.same("new", Double.doubleToRawLongBits(0.0), Double.doubleToRawLongBits(page.meanWidth()));
        page.addNote(1, 60, 60, 60, 60);
        Check.same("one note", 3.0, page.meanWidth());
        page.dropNote();
        Check.same("dropped", Double.doubleToRawLongBits(0.0), Double.doubleToRawLongBits(page.meanWidth()));
    }

    /**
     * "the sum of the widths of all columns, as a double, divided by the number of systems": not a
     * whole number.
     */
    private static void meanWidthOfSystems() {
        HymnPage page = Pages.phrases(40);
        page.setWidth(20);
        Check.same("seven systems", 120.0 / 7.0, page.meanWidth());
        page.setWidth(119);
        Check.same("two systems", 60.0, page.meanWidth());
        Check.setLine(page, 0, 0, "abc");
        Check.same("two systems", 60.5, page.meanWidth());
        page.setWidth(200);
        Check.same("one system", 121.0, page.meanWidth());
    }
}

/**
 * The edges that the document's sentences about verses name, a test for each: the terms, and
 * promises 15, 16 and 24 to 26. Above each test stands its sentence.
 */
public final class EdgesOfVersesTest {

    private static final String THIRTY = "a-b c-d e-f g-h i-j k-l m-n o-p q-r s-t u-v w-x y-z A-B C-D";

    public static void main(String[] args) {
        versesAre0To3AndLines0To23();
        everyLineIsItsOwn();
        setLineTellsItsSyllables();
        setLineClearsTheBuffer();
        setLineOverAnotherLine();
        setLineBeyondTheSungPhrases();
        clearVerseTellsHowManyLinesItHad();
        clearVerseLeavesTheOthers();
        verseFitsWithJustTheLines();
        emptyVerseFitsTheEmptyTune();
        fitOfTheFirstMissingLine();
        fitOfOneSyllableMoreOrLess();
        fitOfALineWithoutASungPhrase();
        fitOf23To25SungPhrases();
        noneFitsIfThereAreMoreThan24();
        fitTellsTheFirstOfSeveral();
        missingLineHas0();
        lineOfOneSyllable();
        lineOfMostSyllables();
        lineOfTheLongestSyllable();
        belowAsFarAsThereAre();
        belowIsForNotesThatAreNotSlurred();
        belowTheSecondTime();
        belowSungPhrase23And24();
        belowEveryPlaceOfAPhrase();
        belowMissingLines();
        hyphenFollows();
        firstCharacter();
        Check.end("EdgesOfVersesTest");
    }

    /** "There are 4 verses, numbered from 0"; "lines, numbered from 0 to 23". */
    private static void versesAre0To3AndLines0To23() {
        for (int verse = 0; verse < 4; verse += 3) {
            for (int line = 0; line < 24; line += 23) {
                HymnPage page = new HymnPage();
                Check.same("setLine", 2, Check.setLine(page, verse, line, "a-men"));
                Check.same("syllables", 2, page.line(verse, line, 0));
                Check.same("clearVerse", 1, page.clearVerse(verse));
            }
        }
        Check.refused("verse 4", Check.INDEX, () -> Pages.typed("la"), p -> p.setLine(4, 0));
        Check.refused("line 24", Check.INDEX, () -> Pages.typed("la"), p -> p.setLine(0, 24));
    }

    /** "A verse has lines, numbered from 0 to 23, some of which may be missing": a line is set alone. */
    private static void everyLineIsItsOwn() {
        for (int i = 0; i < 96; i += 5) {
            HymnPage page = new HymnPage();
            Check.setLine(page, i / 24, i % 24, "a b");
            for (int other = 0; other < 96; other++) {
                Check.same("syllables of " + other, other == i ? 2 : 0, page.line(other / 24, other % 24, 0));
            }
        }
    }

    /** Promise 15: "Returns the number of its syllables": from 1 to as many as the buffer can hold. */
    private static void setLineTellsItsSyllables() {
        for (int syllables = 1; syllables <= 30; syllables++) {
            HymnPage page = new HymnPage();
            Check.same("setLine", syllables, Check.setLine(page, 1, 2, THIRTY.substring(0, 2 * syllables - 1)));
            Check.same("line", syllables, page.line(1, 2, 0));
        }
    }

    /** "and clears the buffer": also when it was full. */
    private static void setLineClearsTheBuffer() {
        HymnPage page = Pages.typed(THIRTY + "E");
        Check.same("full", 60, page.firstError(false));
        Check.same("setLine", 30, page.setLine(3, 23));
        Check.same("first error", 0, page.firstError(false));
        Check.same("length", 0, page.clearInput());
        Check.same("append", 1, page.append('a'));
        Check.same("the next line", 1, page.setLine(3, 22));
    }

    /** "Sets a line of a verse to the one in the buffer": nothing of the one before it is left. */
    private static void setLineOverAnotherLine() {
        HymnPage page = Pages.notes(30);
        Check.setLine(page, 0, 0, THIRTY);
        Check.setLine(page, 0, 0, "Abc");
        Check.row("line", new long[] {1, 1, 3}, what -> page.line(0, 0, what));
        Check.row("below 0", new long[] {0, 3, 'A', 0}, what -> page.below(0, 0, 0, what));
        for (int place = 1; place < 30; place++) {
            Check.same("below", HymnPage.NONE, page.below(0, 0, place, 0));
        }
        Check.same("lines", 1, page.clearVerse(0));
    }

    /** "line k belongs to the sung phrase k": a line may be there before the phrase is. */
    private static void setLineBeyondTheSungPhrases() {
        HymnPage page = new HymnPage();
        Check.setLine(page, 0, 1, "grace");
        page.addNote(1, 60, 60, 60, 60);
        Check.same("column", 3, page.note(0, 7));
        page.repeat(0, 0, 0);
        Check.same("below", 'g', page.below(0, 1, 0, 2));
        Check.same("column", 6, page.note(0, 7));
        page.clearRepeats();
        Check.same("column", 3, page.note(0, 7));
        Check.same("the line stays", 1, page.line(0, 1, 0));
    }

    /** Promise 16: "Returns how many it had": 0, 1, 24. */
    private static void clearVerseTellsHowManyLinesItHad() {
        for (int verse = 0; verse < 4; verse++) {
            HymnPage page = new HymnPage();
            Check.same("none", 0, page.clearVerse(verse));
            Check.setLine(page, verse, 23, "la");
            Check.same("one", 1, page.clearVerse(verse));
            for (int line = 0; line < 24; line++) {
                Check.setLine(page, verse, line, "la");
            }
            Check.setLine(page, verse, 5, "la-la");
            Check.same("all", 24, page.clearVerse(verse));
            Check.same("none again", 0, page.clearVerse(verse));
        }
    }

    /** "Removes all lines of a verse": and of no other one. */
    private static void clearVerseLeavesTheOthers() {
        for (int cleared = 0; cleared < 4; cleared++) {
            HymnPage page = new HymnPage();
            for (int verse = 0; verse < 4; verse++) {
                Check.setLine(page, verse, 0, "la");
                Check.setLine(page, verse, 23, "la");
            }
            page.clearVerse(cleared);
            for (int verse = 0; verse < 4; verse++) {
                Check.same("line 0", verse == cleared ? 0 : 1, page.line(verse, 0, 0));
                Check.same("line 23", verse == cleared ? 0 : 1, page.line(verse, 23, 0));
            }
        }
    }

    /**
     * "A verse fits the tune if it has just the lines of all sung phrases, each with as many syllables
     * as the phrase".
     */
    private static void verseFitsWithJustTheLines() {
        HymnPage page = Check.withPhrases(1, 3);
        page.repeat(0, 0, 0);
        for (int verse = 0; verse < 4; verse++) {
            Check.setLine(page, verse, 0, "la");
            Check.setLine(page, verse, 1, "la");
            Check.same("a line is missing", 2, page.fit(verse));
            Check.setLine(page, verse, 2, "al-le-lu");
            Check.same("fits", HymnPage.NONE, page.fit(verse));
            Check.same("the mask", (2 << verse) - 1, page.count(12));
        }
    }

    /** The same sentence: no sung phrases and no lines. */
    private static void emptyVerseFitsTheEmptyTune() {
        HymnPage page = new HymnPage();
        for (int verse = 0; verse < 4; verse++) {
            Check.same("fits", HymnPage.NONE, page.fit(verse));
        }
        Check.setLine(page, 2, 0, "la");
        Check.same("line 0 has no sung phrase", 0, page.fit(2));
        Check.setLine(page, 3, 23, "la");
        Check.same("line 23 has no sung phrase", 23, page.fit(3));
        Check.same("the mask", 3, page.count(12));
        page.addNote(1, 60, 60, 60, 60);
        Check.same("an empty verse", 0, page.fit(0));
        Check.same("line 0 fits", HymnPage.NONE, page.fit(2));
    }

    /** Promise 24: "the number of the first line that is missing". */
    private static void fitOfTheFirstMissingLine() {
        for (int missing = 0; missing < 24; missing += 23) {
            HymnPage page = Pages.phrases(24);
            for (int line = 0; line < 24; line++) {
                if (line != missing) {
                    Check.setLine(page, 1, line, "la");
                }
            }
            Check.same("fit", missing, page.fit(1));
            Check.setLine(page, 1, missing, "la");
            Check.same("fit", HymnPage.NONE, page.fit(1));
        }
    }

    /** "has another number of syllables than its sung phrase". */
    private static void fitOfOneSyllableMoreOrLess() {
        HymnPage page = Check.withPhrases(3);
        Check.setLine(page, 0, 0, "la-la");
        Check.same("one less", 0, page.fit(0));
        Check.setLine(page, 0, 0, "la-la la");
        Check.same("as many", HymnPage.NONE, page.fit(0));
        Check.setLine(page, 0, 0, "la-la la la");
        Check.same("one more", 0, page.fit(0));
        page.addNote(1, 60, 60, 60, 60);
        Check.same("another phrase", 0, page.fit(0));
        page.mark(2, true, false);
        Check.same("four notes", HymnPage.NONE, page.fit(0));
        page.mark(3, false, true);
        Check.same("three syllables", 0, page.fit(0));
    }

    /** "or has no sung phrase". */
    private static void fitOfALineWithoutASungPhrase() {
        HymnPage page = Check.withPhrases(1);
        Check.setLine(page, 0, 0, "la");
        Check.setLine(page, 0, 23, "la");
        Check.same("line 23", 23, page.fit(0));
        Check.setLine(page, 0, 1, "la");
        Check.same("line 1", 1, page.fit(0));
        page.repeat(0, 0, 0);
        Check.same("line 1 is sung", 23, page.fit(0));
    }

    /** "(24 if lines 0 to 23 are right and there are more sung phrases)". */
    private static void fitOf23To25SungPhrases() {
        long[] due = {23, HymnPage.NONE, 24};
        for (int i = 0; i < 3; i++) {
            HymnPage page = Pages.phrases(23 + i);
            for (int line = 0; line < 24; line++) {
                Check.setLine(page, 3, line, "la");
            }
            Check.same("fit", due[i], page.fit(3));
            Check.same("the mask", i == 1 ? 8 : 0, page.count(12));
        }
    }

    /** "(so none fits if there are more than 24 sung phrases)": by a repeat as well. */
    private static void noneFitsIfThereAreMoreThan24() {
        HymnPage page = Pages.phrases(24);
        for (int i = 0; i < 96; i++) {
            Check.setLine(page, i / 24, i % 24, "la");
        }
        Check.same("the mask of 24", 15, page.count(12));
        page.repeat(23, 23, 0);
        Check.same("the mask of 25", 0, page.count(12));
        Check.row("fit", new long[] {24, 24, 24, 24}, page::fit);
        Check.same("24 again", 1, page.clearRepeats());
        Check.same("the mask of 24", 15, page.count(12));
    }

    /**
     * "Returns the number of the first line that": wrong ones behind it, or more sung phrases, do not
     * matter.
     */
    private static void fitTellsTheFirstOfSeveral() {
        HymnPage page = Pages.phrases(25);
        for (int line = 0; line < 24; line++) {
            Check.setLine(page, 0, line, line == 7 || line == 23 ? "la-la" : "la");
        }
        Check.same("line 7", 7, page.fit(0));
        Check.setLine(page, 0, 7, "la");
        Check.same("line 23", 23, page.fit(0));
        Check.setLine(page, 0, 23, "la");
        Check.same("no line", 24, page.fit(0));
    }

    /** Promise 25: "all are 0 if it is missing". */
    private static void missingLineHas0() {
        HymnPage page = Pages.notes(3);
        Check.setLine(page, 1, 1, "grace");
        Check.row("before it", new long[] {0, 0, 0}, what -> page.line(1, 0, what));
        Check.row("behind it", new long[] {0, 0, 0}, what -> page.line(1, 2, what));
        Check.row("verse 0", new long[] {0, 0, 0}, what -> page.line(0, 1, what));
        page.clearVerse(1);
        Check.row("cleared", new long[] {0, 0, 0}, what -> page.line(1, 1, what));
    }

    /**
     * "0 for the number of its syllables, 1 for the number of its words, 2 for the length of its
     * longest syllable": the least.
     */
    private static void lineOfOneSyllable() {
        HymnPage page = new HymnPage();
        Check.setLine(page, 0, 0, "O");
        Check.row("line", new long[] {1, 1, 1}, what -> page.line(0, 0, what));
        Check.setLine(page, 0, 0, "'");
        Check.row("line", new long[] {1, 1, 1}, what -> page.line(0, 0, what));
    }

    /** The same sentence: 30 syllables in as many words, or in one. */
    private static void lineOfMostSyllables() {
        HymnPage page = new HymnPage();
        Check.setLine(page, 0, 0, "a ".repeat(29) + "a");
        Check.row("words", new long[] {30, 30, 1}, what -> page.line(0, 0, what));
        Check.setLine(page, 0, 1, "a-".repeat(29) + "ab");
        Check.row("one word", new long[] {30, 1, 2}, what -> page.line(0, 1, what));
        Check.setLine(page, 0, 2, THIRTY);
        Check.row("two a word", new long[] {30, 15, 1}, what -> page.line(0, 2, what));
    }

    /** The same sentence: a syllable of 12 characters, first, between, and last. */
    private static void lineOfTheLongestSyllable() {
        HymnPage page = new HymnPage();
        Check.setLine(page, 0, 0, "abcdefghijkl-a bc");
        Check.setLine(page, 0, 1, "a abcdefghijkl-bc");
        Check.setLine(page, 0, 2, "a-bc abcdefghijkl");
        for (int line = 0; line < 3; line++) {
            int its = line;
            Check.row("line", new long[] {3, 2, 12}, what -> page.line(0, its, what));
        }
    }

    /** "stand the syllables of the line, in their order, as far as there are any": fewer, as many, more. */
    private static void belowAsFarAsThereAre() {
        HymnPage page = Pages.notes(3);
        Check.setLine(page, 0, 0, "a bc");
        Check.row("fewer", new long[] {0, 1, -1}, place -> page.below(0, 0, place, 0));
        Check.setLine(page, 0, 0, "a bc def");
        Check.row("as many", new long[] {0, 1, 2}, place -> page.below(0, 0, place, 0));
        Check.setLine(page, 0, 0, "a bc def ghij");
        Check.row("more", new long[] {0, 1, 2}, place -> page.below(0, 0, place, 0));
        Check.row("lengths", new long[] {1, 2, 3}, place -> page.below(0, 0, place, 1));
    }

    /** "Below the notes of the sung phrase that are not slurred". */
    private static void belowIsForNotesThatAreNotSlurred() {
        HymnPage page = Check.withPhrases(1, 5);
        page.mark(1, false, true);
        page.mark(2, false, true);
        page.mark(3, false, true);
        page.mark(5, false, true);
        Check.setLine(page, 0, 1, "a b c");
        for (int what = 0; what < 4; what++) {
            int its = what;
            Check.row("slurred", new long[] {-1, -1}, place -> page.below(0, 1, place + 1, its));
            Check.same("slurred", HymnPage.NONE, page.below(0, 1, 4, its));
        }
        Check.same("the first one has a mark that does not matter", 'a', page.below(0, 1, 0, 2));
        Check.same("the next one", 'b', page.below(0, 1, 3, 2));
    }

    /** "line k belongs to the sung phrase k": a phrase that is sung twice has two. */
    private static void belowTheSecondTime() {
        HymnPage page = Pages.phrases(2);
        page.repeat(0, 1, 1);
        String texts = "xyz";
        for (int number = 0; number < 3; number++) {
            Check.setLine(page, 2, number, texts.substring(number, number + 1));
        }
        Check.row("first characters", new long[] {'x', 'y', 'z'}, number -> page.below(2, number, 0, 2));
        Check.refused("number 3", Check.INDEX, () -> Pages.phrases(3), p -> p.below(2, 3, 0, 2));
    }

    /** "lines, numbered from 0 to 23": a sung phrase 24 has none, whatever the next verse has. */
    private static void belowSungPhrase23And24() {
        HymnPage page = Pages.phrases(40);
        page.repeat(0, 39, 0);
        for (int verse = 0; verse < 4; verse++) {
            Check.setLine(page, verse, 0, "graces");
            Check.setLine(page, verse, 23, "z");
        }
        for (int verse = 0; verse < 4; verse++) {
            Check.same("sung phrase 23", 'z', page.below(verse, 23, 0, 2));
            Check.same("sung phrase 24", HymnPage.NONE, page.below(verse, 24, 0, 2));
            Check.same("sung phrase 40", HymnPage.NONE, page.below(verse, 40, 0, 0));
            Check.same("sung phrase 79", HymnPage.NONE, page.below(verse, 79, 0, 0));
        }
        Check.refused("sung phrase 80", Check.INDEX, Pages::eightySung, p -> p.below(3, 80, 0, 0));
    }

    /** Promise 26, "place: place of the note in its phrase, from 0": up to the last note of each. */
    private static void belowEveryPlaceOfAPhrase() {
        HymnPage page = Pages.notes(40);
        Check.setLine(page, 0, 0, THIRTY);
        for (int place = 0; place < 40; place++) {
            Check.same("below", place < 30 ? place : -1, page.below(0, 0, place, 0));
            Check.same("below", place < 30 ? THIRTY.charAt(2 * place) : -1, page.below(0, 0, place, 2));
        }
        Check.refused("place 40", Check.INDEX, () -> Pages.notes(40), p -> p.below(0, 0, 40, 0));
        Check.refused("place 2 of a phrase of two, more notes behind it", Check.INDEX,
                () -> Check.withPhrases(2, 3), p -> p.below(0, 0, 2, 0));
        Check.refused("place 3 of the last phrase", Check.INDEX,
                () -> Check.withPhrases(2, 3), p -> p.below(0, 1, 3, 0));
        Check.refused("place -1 of the last phrase", Check.INDEX,
                () -> Check.withPhrases(2, 3), p -> p.below(0, 1, -1, 0));
    }

    /** "Returns the number; NONE if no syllable stands there": for each what. */
    private static void belowMissingLines() {
        HymnPage page = Pages.notes(1);
        for (int verse = 0; verse < 4; verse++) {
            int its = verse;
            Check.row("below", new long[] {-1, -1, -1, -1}, what -> page.below(its, 0, 0, what));
        }
        Check.setLine(page, 0, 0, "a");
        page.clearVerse(0);
        Check.row("below", new long[] {-1, -1, -1, -1}, what -> page.below(0, 0, 0, what));
    }

    /** "3 for 1 if "-" follows it, else 0": a blank, or nothing, is no "-". */
    private static void hyphenFollows() {
        HymnPage page = Pages.notes(30);
        Check.setLine(page, 0, 0, THIRTY);
        for (int place = 0; place < 30; place++) {
            Check.same("a hyphen behind " + place, 1 - place % 2, page.below(0, 0, place, 3));
        }
        Check.setLine(page, 0, 0, "a-b");
        Check.row("hyphens", new long[] {1, 0, -1}, place -> page.below(0, 0, place, 3));
    }

    /** "1 for its length, 2 for its first character": the least and the greatest of each. */
    private static void firstCharacter() {
        HymnPage page = Pages.notes(5);
        Check.setLine(page, 0, 0, "'tis-z a-Aa'abcdefghZ Z");
        Check.row("lengths", new long[] {4, 1, 1, 12, 1}, place -> page.below(0, 0, place, 1));
        Check.row("characters", new long[] {'\'', 'z', 'a', 'A', 'Z'}, place -> page.below(0, 0, place, 2));
        Check.row("hyphens", new long[] {1, 0, 1, 0, 0}, place -> page.below(0, 0, place, 3));
    }
}

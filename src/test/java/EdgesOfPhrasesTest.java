/**
 * The edges that the document's sentences about phrases, slurs, repeats and sung phrases name, a
 * test for each: the terms, and promises 6, 8, 9, 22 and 23. Above each test stands its sentence.
 */
public final class EdgesOfPhrasesTest {

    public static void main(String[] args) {
        phraseEndsWithTheLastNote();
        phraseEndsWithAnEndMark();
        endMarkOfTheLastNoteMakesNoPhrase();
        nextPhraseBeginsBehindTheEndMark();
        fortyPhrases();
        firstOfAPhraseIsNotSlurred();
        slurMarkOfTheFirstStaysThere();
        allButTheFirstSlurred();
        markTellsThePhrases();
        markOnAndOffTwice();
        marksAreTwo();
        markReachesFirstAndLastNote();
        propertiesOfTheFirstAndTheLastPhrase();
        threeRepeats();
        skippedIsLessThanItsPhrases();
        sungTwiceWithoutTheSkippedOnes();
        repeatOfTheWholeTune();
        repeatsBesideEachOther();
        noPhrasesInCommon();
        repeatKeepsItsNumbers();
        repeatWhoseLastPhraseIsGone();
        repeatWhoseLastPhraseIsStillThere();
        removedRepeatDoesNotComeBack();
        removedRepeatMakesRoom();
        noRepeatOutlivesTheLastNote();
        clearRepeatsTellsHowManyThereWere();
        clearedRepeatsMakeRoom();
        sungNumbersBeginWith0();
        sungOftenIsOnceOrTwice();
        Check.end("EdgesOfPhrasesTest");
    }

    /** "it ends with a note with an end mark, or with the last note": without marks, and without notes. */
    private static void phraseEndsWithTheLastNote() {
        Check.same("phrases of no notes", 0, new HymnPage().count(2));
        for (int notes = 1; notes <= 40; notes += 13) {
            HymnPage page = Pages.notes(notes);
            Check.same("phrases", 1, page.count(2));
            Check.same("first note", 0, page.phrase(0, 0));
            Check.same("last note", notes - 1, page.phrase(0, 1));
        }
    }

    /** "it ends with a note with an end mark": on the first note, and on the last but one. */
    private static void phraseEndsWithAnEndMark() {
        HymnPage page = Pages.notes(40);
        Check.same("mark", 2, page.mark(0, true, true));
        Check.same("mark", 3, page.mark(38, true, true));
        Check.row("first notes", new long[] {0, 1, 39}, phrase -> page.phrase(phrase, 0));
        Check.row("last notes", new long[] {0, 38, 39}, phrase -> page.phrase(phrase, 1));
        Check.same("phrase of note 0", 0, page.note(0, 2));
        Check.same("phrase of note 1", 1, page.note(1, 2));
        Check.same("phrase of note 38", 1, page.note(38, 2));
        Check.same("phrase of note 39", 2, page.note(39, 2));
        Check.same("place of note 38", 37, page.note(38, 3));
        Check.same("place of note 39", 0, page.note(39, 3));
    }

    /** "or with the last note": an end mark there ends the phrase that ends there anyway. */
    private static void endMarkOfTheLastNoteMakesNoPhrase() {
        HymnPage page = Pages.notes(1);
        Check.same("mark of the only note", 1, page.mark(0, true, true));
        HymnPage full = Pages.notes(40);
        Check.same("mark of the last of 40", 1, full.mark(39, true, true));
        Check.same("sung", 1, full.count(3));
        Check.same("systems", 1, full.setWidth(200));
    }

    /** "and the next one begins there": as soon as there is a note. */
    private static void nextPhraseBeginsBehindTheEndMark() {
        HymnPage page = Pages.notes(2);
        page.mark(1, true, true);
        Check.same("phrases", 1, page.count(2));
        page.addNote(1, 60, 60, 60, 60);
        Check.same("phrases", 2, page.count(2));
        Check.same("its first note", 2, page.phrase(1, 0));
        Check.same("its last note", 2, page.phrase(1, 1));
        page.dropNote();
        Check.same("phrases", 1, page.count(2));
        Check.refused("a phrase without notes", Check.INDEX, () -> Check.withPhrases(2), p -> p.phrase(1, 0));
    }

    /** "Phrases are numbered from 0": up to 39, when each of 40 notes ends one. */
    private static void fortyPhrases() {
        HymnPage page = Pages.phrases(40);
        Check.same("phrases", 40, page.mark(39, true, true));
        for (int phrase = 0; phrase < 40; phrase++) {
            Check.same("first note", phrase, page.phrase(phrase, 0));
            Check.same("last note", phrase, page.phrase(phrase, 1));
            Check.same("syllables", 1, page.phrase(phrase, 2));
            Check.same("phrase", phrase, page.note(phrase, 2));
            Check.same("place", 0, page.note(phrase, 3));
            Check.same("sung", phrase, page.sung(phrase));
        }
    }

    /**
     * "a slur mark that is not the first one of its phrase is slurred"; "of the first one of a phrase
     * does not matter".
     */
    private static void firstOfAPhraseIsNotSlurred() {
        HymnPage page = Check.withPhrases(2, 1, 3);
        for (int note = 0; note < 6; note++) {
            page.mark(note, false, true);
        }
        Check.row("slurred", new long[] {0, 1, 0, 0, 1, 1}, note -> page.note(note, 1));
        Check.row("syllables", new long[] {1, 1, 1}, phrase -> page.phrase(phrase, 2));
    }

    /**
     * "The slur mark of the first one of a phrase does not matter": but it is there, if the phrase
     * begins elsewhere.
     */
    private static void slurMarkOfTheFirstStaysThere() {
        HymnPage page = Check.withPhrases(1, 1);
        page.mark(1, false, true);
        Check.same("first of phrase 1", 0, page.note(1, 1));
        page.mark(0, true, false);
        Check.same("within phrase 0", 1, page.note(1, 1));
        Check.same("syllables", 1, page.phrase(0, 2));
        page.mark(0, true, true);
        Check.same("first of phrase 1 again", 0, page.note(1, 1));
        page.mark(1, false, false);
        page.mark(0, true, false);
        Check.same("without the mark", 0, page.note(1, 1));
        Check.same("syllables", 2, page.phrase(0, 2));
    }

    /** "The syllables of a phrase are its notes that are not slurred": from one to all of 40. */
    private static void allButTheFirstSlurred() {
        HymnPage page = Pages.notes(40);
        Check.same("none slurred", 40, page.phrase(0, 2));
        for (int note = 1; note < 40; note++) {
            page.mark(note, false, true);
            Check.same("syllables", 40 - note, page.phrase(0, 2));
        }
        Check.same("the first one's mark does not count", 1, page.mark(0, false, true));
        Check.same("one syllable is left", 1, page.phrase(0, 2));
    }

    /** Promise 6: "Returns the number of phrases then." */
    private static void markTellsThePhrases() {
        HymnPage page = Pages.notes(4);
        Check.same("a slur", 1, page.mark(2, false, true));
        Check.same("an end", 2, page.mark(2, true, true));
        Check.same("an end", 3, page.mark(0, true, true));
        Check.same("the last note's end", 3, page.mark(3, true, true));
        Check.same("an end less", 2, page.mark(0, true, false));
        Check.same("the last note's end less", 2, page.mark(3, true, false));
        Check.same("no end", 1, page.mark(2, true, false));
    }

    /** "Sets or removes a mark": setting a set one and removing a missing one changes nothing. */
    private static void markOnAndOffTwice() {
        HymnPage page = Pages.ordinary();
        long before = page.digest();
        Check.same("set again", 3, page.mark(1, true, true));
        Check.same("set again", 3, page.mark(5, false, true));
        Check.same("removed again", 3, page.mark(0, true, false));
        Check.same("removed again", 3, page.mark(4, false, false));
        Check.same("digest", before, page.digest());
    }

    /** "end: true for its end mark, false for its slur mark". */
    private static void marksAreTwo() {
        HymnPage page = Pages.notes(3);
        page.mark(1, true, true);
        page.mark(1, false, true);
        Check.same("slurred", 1, page.note(1, 1));
        page.mark(1, false, false);
        Check.same("the end mark stays", 2, page.count(2));
        page.mark(1, false, true);
        page.mark(1, true, false);
        Check.same("the slur mark stays", 1, page.note(1, 1));
    }

    /** "note: the note": each of 40, and no other one. */
    private static void markReachesFirstAndLastNote() {
        HymnPage page = Pages.notes(40);
        for (int marked = 1; marked < 40; marked++) {
            page.mark(marked, false, true);
            Check.same("slurred", 1, page.note(marked, 1));
            Check.same("one syllable less", 39, page.phrase(0, 2));
            page.mark(marked, false, false);
        }
        for (int marked = 0; marked < 39; marked++) {
            page.mark(marked, true, true);
            Check.same("last note", marked, page.phrase(0, 1));
            page.mark(marked, true, false);
        }
        Check.same("phrases", 1, page.count(2));
    }

    /** Promise 22, "phrase: the phrase": the first one and the last one of 40. */
    private static void propertiesOfTheFirstAndTheLastPhrase() {
        HymnPage page = Pages.phrases(40);
        page.repeat(39, 39, 0);
        page.setWidth(20);
        Check.row("phrase 0", new long[] {0, 0, 1, 3, 0, 1}, what -> page.phrase(0, what));
        Check.row("phrase 39", new long[] {39, 39, 1, 3, 6, 2}, what -> page.phrase(39, what));
        Check.refused("phrase 40", Check.INDEX, () -> Pages.phrases(40), p -> p.phrase(40, 0));
    }

    /** "There are at most 3 repeats." */
    private static void threeRepeats() {
        HymnPage page = Pages.phrases(40);
        Check.same("first", 41, page.repeat(39, 39, 0));
        Check.same("second", 42, page.repeat(0, 0, 0));
        Check.same("third", 43, page.repeat(20, 20, 0));
        Check.same("repeats", 3, page.count(4));
        Check.refused("fourth", Check.STATE, Pages::threeRepeats, p -> p.repeat(7, 7, 0));
    }

    /** "a number of phrases that are skipped, which is less than the number of its phrases". */
    private static void skippedIsLessThanItsPhrases() {
        for (int last = 0; last < 40; last += 13) {
            int all = last + 1;
            HymnPage least = Pages.phrases(40);
            Check.same("none skipped", 40 + all, least.repeat(0, last, 0));
            HymnPage most = Pages.phrases(40);
            Check.same("all but one skipped", 41, most.repeat(0, last, all - 1));
            Check.refused("all skipped", Check.ARGUMENT, () -> Pages.phrases(40), p -> p.repeat(0, all - 1, all));
        }
    }

    /**
     * "It is sung twice, from the first to the last phrase, the second time without as many of the
     * last ones".
     */
    private static void sungTwiceWithoutTheSkippedOnes() {
        long[][] due = {{0, 1, 2, 3, 1, 2, 3, 4}, {0, 1, 2, 3, 1, 2, 4}, {0, 1, 2, 3, 1, 4}};
        for (int skipped = 0; skipped < 3; skipped++) {
            HymnPage page = Pages.phrases(5);
            Check.same("repeat", due[skipped].length, page.repeat(1, 3, skipped));
            Check.row("sung", due[skipped], page::sung);
        }
    }

    /** The same sentence, of a repeat of all that there is. */
    private static void repeatOfTheWholeTune() {
        HymnPage page = Pages.phrases(40);
        Check.same("repeat", 80, page.repeat(0, 39, 0));
        for (int number = 0; number < 80; number++) {
            Check.same("sung", number % 40, page.sung(number));
        }
        HymnPage one = Pages.notes(1);
        Check.same("repeat", 2, one.repeat(0, 0, 0));
        Check.row("sung", new long[] {0, 0}, one::sung);
    }

    /** "Repeats have no phrases in common": two may follow each other at once. */
    private static void repeatsBesideEachOther() {
        HymnPage page = Pages.phrases(6);
        Check.same("2 to 3", 8, page.repeat(2, 3, 0));
        Check.same("behind it", 10, page.repeat(4, 5, 0));
        Check.same("before it", 12, page.repeat(0, 1, 0));
        Check.row("sung", new long[] {0, 1, 0, 1, 2, 3, 2, 3, 4, 5, 4, 5}, page::sung);
    }

    /** "it has phrases in common with one of them": one phrase at either end, all of them, or more. */
    private static void noPhrasesInCommon() {
        Check.Recipe recipe = () -> {
            HymnPage page = Pages.phrases(8);
            page.repeat(2, 4, 2);
            return page;
        };
        int[][] common = {{0, 2}, {1, 2}, {2, 2}, {3, 3}, {4, 4}, {4, 5}, {4, 7}, {2, 4}, {1, 5}, {0, 7}, {3, 4}};
        for (int[] range : common) {
            Check.refused("repeat " + range[0] + " to " + range[1], Check.STATE, recipe,
                    p -> p.repeat(range[0], range[1], 0));
        }
        // The skipped phrases are phrases of the repeat as well.
        HymnPage page = recipe.page();
        Check.same("0 to 1", 11, page.repeat(0, 1, 0));
        Check.same("5 to 7", 14, page.repeat(5, 7, 0));
    }

    /** "A repeat keeps its numbers also if phrases get other numbers." */
    private static void repeatKeepsItsNumbers() {
        HymnPage page = Pages.phrases(4);
        page.repeat(1, 2, 0);
        page.mark(0, true, false);
        Check.row("sung with a phrase less", new long[] {0, 1, 2, 1, 2}, page::sung);
        Check.same("how many", 5, page.count(3));
        page.mark(0, true, true);
        Check.row("sung as before", new long[] {0, 1, 2, 1, 2, 3}, page::sung);
        HymnPage more = Check.withPhrases(2, 1, 1);
        more.repeat(0, 1, 1);
        more.mark(0, true, true);
        Check.row("sung with a phrase more", new long[] {0, 1, 0, 2, 3}, more::sung);
    }

    /** "A repeat whose last phrase does not exist any more is removed": by dropNote, and by mark. */
    private static void repeatWhoseLastPhraseIsGone() {
        HymnPage dropped = Pages.phrases(4);
        dropped.repeat(2, 3, 1);
        dropped.dropNote();
        Check.same("repeats behind dropNote", 0, dropped.count(4));
        Check.row("sung", new long[] {0, 1, 2}, dropped::sung);
        HymnPage joined = Pages.phrases(4);
        joined.repeat(0, 3, 3);
        Check.same("mark", 3, joined.mark(1, true, false));
        Check.same("repeats behind mark", 0, joined.count(4));
        Check.same("sung", 3, joined.count(3));
    }

    /** The same sentence: as long as the last phrase exists the repeat stays. */
    private static void repeatWhoseLastPhraseIsStillThere() {
        HymnPage page = Pages.phrases(4);
        page.repeat(1, 2, 0);
        page.dropNote();
        Check.same("the last phrase is its last", 1, page.count(4));
        Check.row("sung", new long[] {0, 1, 2, 1, 2}, page::sung);
        HymnPage longer = Check.withPhrases(1, 2);
        longer.repeat(1, 1, 0);
        longer.dropNote();
        Check.same("the phrase has a note less", 1, longer.count(4));
        longer.mark(1, true, false);
        Check.same("without the last end mark", 1, longer.count(4));
        longer.dropNote();
        Check.same("the phrase has no note", 0, longer.count(4));
    }

    /** "is removed": also when there are as many phrases again. */
    private static void removedRepeatDoesNotComeBack() {
        HymnPage page = Pages.phrases(3);
        page.repeat(2, 2, 0);
        page.mark(0, true, false);
        Check.same("repeats", 0, page.count(4));
        Check.same("mark", 3, page.mark(0, true, true));
        Check.same("repeats", 0, page.count(4));
        Check.same("sung", 3, page.count(3));
        Check.same("clearRepeats", 0, page.clearRepeats());
    }

    /** "is removed": that one alone, whichever it was, and a third one may come. */
    private static void removedRepeatMakesRoom() {
        for (int gone = 0; gone < 3; gone++) {
            HymnPage page = Pages.phrases(6);
            for (int i = 0; i < 3; i++) {
                int at = (i + 3 - gone) % 3;
                page.repeat(at == 0 ? 5 : at, at == 0 ? 5 : at, 0);
            }
            page.dropNote();
            Check.same("repeats", 2, page.count(4));
            Check.row("sung", new long[] {0, 1, 1, 2, 2, 3, 4}, page::sung);
            Check.same("a third one", 8, page.repeat(4, 4, 0));
            Check.same("repeats", 3, page.count(4));
            Check.row("sung", new long[] {0, 1, 1, 2, 2, 3, 4, 4}, page::sung);
        }
    }

    /** "is removed": when the tune is empty there is none. */
    private static void noRepeatOutlivesTheLastNote() {
        HymnPage page = Pages.threeRepeats();
        long[] due = {3, 2, 2, 1, 1, 1, 0, 0};
        for (long left : due) {
            page.dropNote();
            Check.same("repeats", left, page.count(4));
        }
        Check.same("sung", 0, page.count(3));
    }

    /** Promise 9: "Returns how many there were": 0 to 3. */
    private static void clearRepeatsTellsHowManyThereWere() {
        for (int many = 0; many <= 3; many++) {
            HymnPage page = Pages.phrases(8);
            for (int repeat = 0; repeat < many; repeat++) {
                page.repeat(2 * repeat, 2 * repeat + 1, 1);
            }
            Check.same("clearRepeats", many, page.clearRepeats());
            Check.same("clearRepeats again", 0, page.clearRepeats());
            Check.same("sung", 8, page.count(3));
        }
        Check.same("clearRepeats of a new page", 0, new HymnPage().clearRepeats());
    }

    /** "Removes all repeats": so that three may come, on the same phrases too. */
    private static void clearedRepeatsMakeRoom() {
        HymnPage page = Pages.threeRepeats();
        page.clearRepeats();
        Check.row("sung", new long[] {0, 1, 2, 3, 4, 5, 6, 7}, page::sung);
        Check.same("3 to 4", 10, page.repeat(3, 4, 0));
        Check.same("1", 11, page.repeat(1, 1, 0));
        Check.same("6", 12, page.repeat(6, 6, 0));
    }

    /** "The sung phrases are numbered from 0 in the order in which they are sung." */
    private static void sungNumbersBeginWith0() {
        HymnPage page = Pages.threeRepeats();
        Check.same("how many", 11, page.count(3));
        Check.row("sung", new long[] {0, 1, 1, 2, 3, 4, 3, 5, 6, 6, 7}, page::sung);
        Check.refused("sung 11", Check.INDEX, Pages::threeRepeats, p -> p.sung(11));
        Check.refused("sung -1", Check.INDEX, Pages::threeRepeats, p -> p.sung(-1));
    }

    /** Promise 22, "5 for how often it is sung": twice within a repeat, but for what is skipped. */
    private static void sungOftenIsOnceOrTwice() {
        HymnPage page = Pages.threeRepeats();
        Check.row("how often", new long[] {1, 2, 1, 2, 1, 1, 2, 1}, phrase -> page.phrase(phrase, 5));
        page.clearRepeats();
        Check.row("how often", new long[] {1, 1, 1, 1, 1, 1, 1, 1}, phrase -> page.phrase(phrase, 5));
    }
}

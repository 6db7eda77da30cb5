import java.math.BigInteger;

/**
 * The edges that the document's sentences about metres, counts and the digest name, a test for
 * each: the terms, and promises 17, 18, 27 to 30 and 32. Above each test stands its sentence.
 */
public final class EdgesOfBookTest {

    public static void main(String[] args) {
        bookHas8Metres();
        addMetreClearsTheBuffer();
        metreOf1And24Numbers();
        allNumbersTwice();
        dropOfTheFirstTheLastAndTheOnlyOne();
        laterNumbersDecreaseBy1();
        droppedMetreMakesRoom();
        longMetreBehindAShortOne();
        indexOfAMetre();
        distanceIsTheSumOfDifferences();
        distanceIfBothHaveAsMany();
        distanceFromTheEmptyTune();
        distanceFrom24And25SungPhrases();
        distanceFromALongPhrase();
        distanceFollowsTheTune();
        nearestOfSeveral();
        nearestIfNoneHasADistance();
        nearestBehindADroppedOne();
        countsOfNothing();
        countsOfAFullPage();
        verseFitsAsABitMask();
        digestOfNothing();
        digestOfAnOrdinaryPage();
        digestOfAFullPage();
        digestOfTheSungPhrase0();
        digestOfTwoSystems();
        digestChangesNothing();
        Check.end("EdgesOfBookTest");
    }

    /** "A book has at most 8 metres, numbered from 0." */
    private static void bookHas8Metres() {
        HymnPage page = new HymnPage();
        for (int metre = 0; metre < 8; metre++) {
            Check.same("addMetre", metre, Check.addMetre(page, "8.8"));
            Check.same("metres", metre + 1, page.count(11));
        }
        Check.refused("a ninth", Check.STATE, () -> {
            HymnPage full = Pages.fullBook();
            Check.type(full, "8.8");
            return full;
        }, HymnPage::addMetre);
    }

    /** "Adds the metre in the buffer to the book, and clears the buffer": also when it was full. */
    private static void addMetreClearsTheBuffer() {
        HymnPage page = Pages.typed("1.1." + "10.".repeat(18) + "10");
        Check.same("addMetre", 0, page.addMetre());
        Check.same("length", 0, page.clearInput());
        Check.same("append", 1, page.append('8'));
        Check.same("addMetre", 1, page.addMetre());
        Check.row("metre", new long[] {8, -1}, index -> page.metre(1, index));
    }

    /** "A metre is a sequence of 1 to 24 numbers from 1 to 20": the least and the greatest. */
    private static void metreOf1And24Numbers() {
        HymnPage page = new HymnPage();
        Check.addMetre(page, "1");
        Check.row("metre", new long[] {1, -1}, index -> page.metre(0, index));
        Check.addMetre(page, "20");
        Check.row("metre", new long[] {20, -1}, index -> page.metre(1, index));
        Check.addMetre(page, "20.".repeat(11) + "20.D");
        for (int index = 0; index < 24; index++) {
            Check.same("number", 20, page.metre(2, index));
        }
        Check.same("no 25th", HymnPage.NONE, page.metre(2, 24));
    }

    /** "by which all numbers are taken twice": one, and twelve. */
    private static void allNumbersTwice() {
        HymnPage page = new HymnPage();
        Check.addMetre(page, "7.D");
        Check.row("metre", new long[] {7, 7, -1}, index -> page.metre(0, index));
        Check.addMetre(page, "8.7.6.D");
        Check.row("metre", new long[] {8, 7, 6, 8, 7, 6, -1}, index -> page.metre(1, index));
        Check.addMetre(page, "20.19.18.17.16.15.14.13.12.11.10.9.D");
        for (int index = 0; index < 24; index++) {
            Check.same("number", 20 - index % 12, page.metre(2, index));
        }
    }

    /** Promise 18: "Removes a metre from the book", "Returns how many are left". */
    private static void dropOfTheFirstTheLastAndTheOnlyOne() {
        HymnPage first = Pages.fullBook();
        Check.same("dropMetre", 7, first.dropMetre(0));
        Check.row("left", new long[] {2, 3, 4, 5, 6, 7, 8}, metre -> first.metre(metre, 0));
        HymnPage last = Pages.fullBook();
        Check.same("dropMetre", 7, last.dropMetre(7));
        Check.row("left", new long[] {1, 2, 3, 4, 5, 6, 7}, metre -> last.metre(metre, 0));
        HymnPage only = new HymnPage();
        Check.addMetre(only, "8");
        Check.same("dropMetre", 0, only.dropMetre(0));
        Check.same("metres", 0, only.count(11));
        Check.refused("dropMetre of none", Check.INDEX, HymnPage::new, p -> p.dropMetre(0));
        Check.refused("dropMetre 8", Check.INDEX, Pages::fullBook, p -> p.dropMetre(8));
    }

    /** "the numbers of the later ones decrease by 1": whichever it was. */
    private static void laterNumbersDecreaseBy1() {
        for (int dropped = 0; dropped < 8; dropped++) {
            HymnPage page = Pages.fullBook();
            page.dropMetre(dropped);
            for (int metre = 0; metre < 7; metre++) {
                Check.same("metre", metre < dropped ? metre + 1 : metre + 2, page.metre(metre, 0));
                Check.same("no second number", HymnPage.NONE, page.metre(metre, 1));
            }
        }
    }

    /** "Throws IllegalStateException if there are 8 metres": one less, and there is room for one. */
    private static void droppedMetreMakesRoom() {
        HymnPage page = Pages.fullBook();
        for (int again = 0; again < 3; again++) {
            page.dropMetre(3);
            Check.same("addMetre", 7, Check.addMetre(page, "20.20"));
            Check.row("metre", new long[] {20, 20, -1}, index -> page.metre(7, index));
        }
        Check.row("firsts", new long[] {1, 2, 3, 7, 8, 20, 20, 20}, metre -> page.metre(metre, 0));
    }

    /** The same words: numbers go with their metre, of whatever length. */
    private static void longMetreBehindAShortOne() {
        HymnPage page = new HymnPage();
        Check.addMetre(page, "5");
        Check.addMetre(page, Pages.TWENTY_THREE_ONES + "2");
        Check.addMetre(page, "6.7");
        page.dropMetre(0);
        Check.same("the 24th", 2, page.metre(0, 23));
        Check.row("the next one", new long[] {6, 7, -1}, index -> page.metre(1, index));
        page.dropMetre(0);
        Check.row("alone", new long[] {6, 7, -1}, index -> page.metre(0, index));
        Check.addMetre(page, "9");
        Check.row("behind it", new long[] {9, -1}, index -> page.metre(1, index));
        HymnPage three = new HymnPage();
        Check.addMetre(three, Pages.TWENTY_THREE_ONES + "2");
        Check.addMetre(three, "3");
        Check.addMetre(three, Pages.TWENTY_THREE_ONES + "4");
        three.dropMetre(1);
        Check.same("the 24th before the dropped one", 2, three.metre(0, 23));
        Check.same("the 24th behind it", 4, three.metre(1, 23));
    }

    /** Promise 29: "NONE if it has no such index (also if index is negative)". */
    private static void indexOfAMetre() {
        HymnPage page = new HymnPage();
        Check.addMetre(page, "8.6.7");
        Check.addMetre(page, "5");
        Check.row("numbers", new long[] {8, 6, 7}, index -> page.metre(0, index));
        for (int index : new int[] {3, 4, 23, 24, 25, Integer.MAX_VALUE, -1, -24, Integer.MIN_VALUE}) {
            Check.same("index " + index, HymnPage.NONE, page.metre(0, index));
            Check.same("index " + index, HymnPage.NONE, page.metre(1, index));
        }
    }

    /** "is the sum of the differences of their numbers": each as a number from 0 on. */
    private static void distanceIsTheSumOfDifferences() {
        HymnPage page = Check.withPhrases(3, 5, 4);
        String[] metres = {"3.5.4", "4.5.4", "2.5.4", "4.4.4", "2.6.3", "20.20.20", "1.1.1"};
        long[] due = {0, 1, 1, 2, 3, 48, 9};
        for (String metre : metres) {
            Check.addMetre(page, metre);
        }
        Check.row("distance", due, page::distance);
    }

    /** "if both have as many; otherwise there is none": one number less, one more. */
    private static void distanceIfBothHaveAsMany() {
        HymnPage page = Check.withPhrases(1, 1);
        Check.addMetre(page, "1");
        Check.addMetre(page, "1.1");
        Check.addMetre(page, "1.1.1");
        Check.row("distance", new long[] {-1, 0, -1}, page::distance);
        Check.refused("distance of metre 1 of one", Check.INDEX, () -> {
            HymnPage one = Pages.notes(1);
            Check.addMetre(one, "1");
            return one;
        }, p -> p.distance(1));
    }

    /** The same words: a metre has at least one number, the empty tune has none. */
    private static void distanceFromTheEmptyTune() {
        HymnPage page = Pages.fullBook();
        for (int metre = 0; metre < 8; metre++) {
            Check.same("distance", HymnPage.NONE, page.distance(metre));
        }
        page.addNote(1, 60, 60, 60, 60);
        Check.row("distance", new long[] {0, 1, 2, 3, 4, 5, 6, 7}, page::distance);
        page.dropNote();
        Check.same("distance", HymnPage.NONE, page.distance(0));
    }

    /** The same words: 24 sung phrases may have one, 25 never. */
    private static void distanceFrom24And25SungPhrases() {
        HymnPage page = Pages.phrases(24);
        Check.addMetre(page, Pages.TWENTY_THREE_ONES + "1");
        Check.addMetre(page, "20.".repeat(11) + "20.D");
        Check.row("distance", new long[] {0, 456}, page::distance);
        Check.same("nearest", 0, page.nearest());
        page.repeat(23, 23, 0);
        Check.row("distance", new long[] {-1, -1}, page::distance);
        Check.same("nearest", HymnPage.NONE, page.nearest());
    }

    /** "the sequence of the numbers of syllables of all sung phrases": which may be greater than 20. */
    private static void distanceFromALongPhrase() {
        HymnPage page = Pages.notes(40);
        Check.addMetre(page, "1");
        Check.addMetre(page, "20");
        Check.row("distance", new long[] {39, 20}, page::distance);
        Check.same("nearest", 1, page.nearest());
        for (int note = 1; note < 40; note++) {
            page.mark(note, false, true);
        }
        Check.row("distance", new long[] {0, 19}, page::distance);
    }

    /** The same words: of all sung phrases, also of those that are sung again. */
    private static void distanceFollowsTheTune() {
        HymnPage page = Check.withPhrases(3, 1);
        Check.addMetre(page, "3.3.1");
        Check.addMetre(page, "3.1");
        Check.row("distance", new long[] {-1, 0}, page::distance);
        page.repeat(0, 0, 0);
        Check.row("distance", new long[] {0, -1}, page::distance);
        page.mark(1, false, true);
        Check.row("distance", new long[] {2, -1}, page::distance);
        page.begin(0);
        Check.row("distance", new long[] {-1, -1}, page::distance);
    }

    /** Promise 28: "Returns the one with the least distance, of several the lowest one". */
    private static void nearestOfSeveral() {
        HymnPage page = Pages.notes(5);
        Check.addMetre(page, "7");
        Check.same("alone", 0, page.nearest());
        Check.addMetre(page, "3");
        Check.same("as near", 0, page.nearest());
        Check.addMetre(page, "4");
        Check.same("nearer", 2, page.nearest());
        Check.addMetre(page, "6");
        Check.same("as near", 2, page.nearest());
        Check.addMetre(page, "5.5");
        Check.same("without a distance", 2, page.nearest());
        Check.addMetre(page, "20");
        Check.same("farther", 2, page.nearest());
        Check.addMetre(page, "5");
        Check.addMetre(page, "5");
        Check.same("the seventh of eight", 6, page.nearest());
        page.dropMetre(6);
        Check.same("the last one", 6, page.nearest());
    }

    /** "NONE if none has a distance": in an empty book, and in a full one. */
    private static void nearestIfNoneHasADistance() {
        Check.same("empty book", HymnPage.NONE, Pages.notes(1).nearest());
        Check.same("empty tune", HymnPage.NONE, Pages.fullBook().nearest());
        HymnPage page = Pages.fullBook();
        page.addNote(1, 60, 60, 60, 60);
        Check.same("one phrase", 0, page.nearest());
        page.repeat(0, 0, 0);
        Check.same("two phrases", HymnPage.NONE, page.nearest());
    }

    /** The same words: a dropped one is none any more. */
    private static void nearestBehindADroppedOne() {
        HymnPage page = Pages.fullBook();
        page.addNote(1, 60, 60, 60, 60);
        for (int left = 7; left > 0; left--) {
            page.dropMetre(0);
            Check.same("nearest", 0, page.nearest());
            Check.same("distance", 8 - left, page.distance(0));
        }
        page.dropMetre(0);
        Check.same("nearest", HymnPage.NONE, page.nearest());
    }

    /** Promise 30, of an empty page. */
    private static void countsOfNothing() {
        HymnPage page = Pages.begun(11);
        Check.row("count", new long[] {0, 11, 0, 0, 0, 4, 0, 0, 1, 80, 0, 0, 15, 0}, page::count);
        Check.refused("count -1", Check.ARGUMENT, HymnPage::new, p -> p.count(-1));
        Check.refused("count 14", Check.ARGUMENT, HymnPage::new, p -> p.count(14));
    }

    /** Promise 30, of a page that has all that there is room for. */
    private static void countsOfAFullPage() {
        HymnPage page = Pages.full();
        Check.row("count", new long[] {40, 0, 40, 80, 1, 4, 0, 320, 1, 80, 2, 8, 0, 39}, page::count);
        page.setBars(24, 23);
        page.setWidth(200);
        Check.row("count", new long[] {40, 0, 40, 80, 1, 24, 23, 320, 0, 200, 1, 8, 0, 39}, page::count);
    }

    /** "12 for the verses that fit, as a bit mask": each alone, none, all. */
    private static void verseFitsAsABitMask() {
        for (int mask = 0; mask < 16; mask++) {
            HymnPage page = Pages.notes(1);
            for (int verse = 0; verse < 4; verse++) {
                Check.setLine(page, verse, 0, (mask >> verse & 1) == 1 ? "la" : "la-la");
            }
            Check.same("count", mask, page.count(12));
        }
    }

    /** The values in their order, as the document tells them, asked of the face itself. */
    private static final class Hash {

        private BigInteger hash = BigInteger.valueOf(2063);
        private final Asker asker;

        private Hash(Check.Recipe recipe) {
            asker = new Asker(recipe);
        }

        private void take(Check.Use question) {
            takeValue(asker.ask(question));
        }

        private void takeValue(long value) {
            hash = hash.multiply(BigInteger.valueOf(31)).add(BigInteger.valueOf(value));
        }

        private int size(Check.Use question) {
            return (int) asker.ask(question);
        }

        private void takeNote(int note) {
            for (int i = 0; i < 9; i++) {
                int what = i;
                take(p -> p.note(note, what));
            }
            for (int i = 0; i < 24; i++) {
                int part = i / 6;
                int what = i % 6;
                take(p -> p.part(note, part, what));
            }
            take(p -> p.heads(note, 0));
            take(p -> p.heads(note, 1));
        }

        private void takePhrases() {
            int phrases = size(p -> p.count(2));
            for (int i = 0; i < 6 * phrases; i++) {
                int phrase = i / 6;
                int what = i % 6;
                take(p -> p.phrase(phrase, what));
            }
            int sung = size(p -> p.count(3));
            for (int i = 0; i < sung; i++) {
                int number = i;
                take(p -> p.sung(number));
            }
        }

        private void takeVerse(int verse) {
            take(p -> p.fit(verse));
            for (int i = 0; i < 72; i++) {
                int line = i / 3;
                int what = i % 3;
                take(p -> p.line(verse, line, what));
            }
        }

        private void takeBelow(int verse) {
            int places = size(p -> p.count(3)) == 0 ? 0 : size(p -> p.phrase(p.sung(0), 1)) + 1;
            for (int i = 0; i < 4 * places; i++) {
                int place = i / 4;
                int what = i % 4;
                take(p -> p.below(verse, 0, place, what));
            }
        }

        private void takeMetre(int metre) {
            take(p -> p.distance(metre));
            for (int i = 0; size(asking(metre, i)) != HymnPage.NONE; i++) {
                take(asking(metre, i));
            }
        }

        private static Check.Use asking(int metre, int index) {
            return p -> p.metre(metre, index);
        }

        private long ofAll(String buffer) {
            for (int i = 0; i < 14; i++) {
                int what = i;
                take(p -> p.count(what));
            }
            int notes = size(p -> p.count(0));
            for (int note = 0; note < notes; note++) {
                takeNote(note);
            }
            takePhrases();
            for (int verse = 0; verse < 4; verse++) {
                takeVerse(verse);
            }
            for (int verse = 0; verse < 4; verse++) {
                takeBelow(verse);
            }
            int metres = size(p -> p.count(11));
            for (int metre = 0; metre < metres; metre++) {
                takeMetre(metre);
            }
            take(HymnPage::nearest);
            take(p -> Double.doubleToLongBits(p.meanWidth()));
            takeValue(buffer.length());
            for (char code : buffer.toCharArray()) {
                takeValue(code);
            }
            // Long arithmetic with overflow is arithmetic modulo 2 to the 64th.
            return hash.longValue();
        }
    }

    private static void digest(String what, Check.Recipe recipe, String buffer) {
        Check.same("digest of " + what, new Hash(recipe).ofAll(buffer), recipe.page().digest());
    }

    /** Promise 32: "The hash starts as 2063", where there are no notes, verses and metres. */
    private static void digestOfNothing() {
        digest("a new page", HymnPage::new, "");
        digest("a page begun in b", () -> Pages.begun(11), "");
        digest("a full buffer", Pages::fullBuffer, "a-".repeat(30));
        digest("a full book", Pages::fullBook, "");
        digest("one note", () -> Pages.notes(1), "");
        digest("a buffer of the first and the last character", () -> Pages.typed(" ~"), " ~");
    }

    /** "The values are, in this order". */
    private static void digestOfAnOrdinaryPage() {
        digest("an ordinary page", Pages::ordinary, "ab");
    }

    /** "in long arithmetic with overflow": of a page that has all that there is room for. */
    private static void digestOfAFullPage() {
        digest("a full page", Pages::full, "a-".repeat(30));
        digest("one phrase of 40 notes", () -> {
            HymnPage page = Pages.notes(40);
            Check.setLine(page, 3, 0, "al-le-lu-ia");
            Check.addMetre(page, Pages.TWENTY_THREE_ONES + "20");
            return page;
        }, "");
    }

    /**
     * "below for each verse, the sung phrase 0 and all places in it": of a long one, a short one, of
     * one or none.
     */
    private static void digestOfTheSungPhrase0() {
        int[][] notes = {{4, 1, 2}, {1, 3}, {3}, {40}};
        for (int[] sizes : notes) {
            digest("phrases, " + sizes[0] + " notes in the first one", () -> {
                HymnPage page = Check.withPhrases(sizes);
                page.mark(sizes[0] - 1, false, true);
                for (int verse = 0; verse < 4; verse++) {
                    Check.setLine(page, verse, 0, "so-le a'men".substring(0, 11 - 3 * verse));
                    Check.setLine(page, verse, 1, "ho-san na");
                }
                return page;
            }, "");
        }
    }

    /** "meanWidth as Double.doubleToLongBits": of numbers that are not whole. */
    private static void digestOfTwoSystems() {
        for (int notes = 1; notes <= 40; notes++) {
            int size = notes;
            Check.Recipe recipe = () -> {
                HymnPage page = Pages.phrases(size);
                page.setWidth(20 + size % 3);
                return page;
            };
            HymnPage page = recipe.page();
            long systems = page.count(10);
            Check.same("mean width", 3.0 * size / systems, page.meanWidth());
            if (size > 36) {
                digest(size + " phrases", recipe, "");
            }
        }
        digest("a width of the least column", () -> Pages.phrases(7), "");
    }

    /** "Computes a hash of the whole state": asked twice, it is the same. */
    private static void digestChangesNothing() {
        HymnPage page = Pages.ordinary();
        Check.same("digest again", page.digest(), page.digest());
        Check.same("of another page like it", Pages.ordinary().digest(), page.digest());
    }
}

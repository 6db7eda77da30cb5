/**
 * The edges that the document's sentences about the input text name, a test for each: the terms,
 * and promises 12 to 15 and 17. Above each test stands its sentence.
 */
public final class EdgesOfInputTest {

    private static final String LETTERS = "abcdefghijklmnopqrstuvwxyzABCDEFGHIJKLMNOPQRSTUVWXYZ'";
    private static final String TWELVE = "abcdefghijkl";

    public static void main(String[] args) {
        codesAre32To126();
        bufferHas60Characters();
        clearInputTellsTheLength();
        clearedBufferTakes60Again();
        emptyBufferHasNoError();
        fullBufferWithoutAnError();
        firstErrorIsTheFirst();
        firstErrorChangesNothing();
        lineBeginsWithALetter();
        lineGoesOnBehindALetter();
        lineGoesOnBehindASeparator();
        syllableHas12Characters();
        syllableOf12EndsWithASeparator();
        wordsAreSeparatedBySingleBlanks();
        metreBeginsWith1To9();
        metreGoesOnBehindANumber();
        metreGoesOnBehind2();
        metreGoesOnBehind10To20();
        metreGoesOnBehindADot();
        nothingBehindD();
        numbersAre1To20();
        numberThatBeginsWith0();
        metreHas24Numbers();
        dotBehindThe24th();
        dBehind12Numbers();
        completeLine();
        completeMetre();
        emptyBufferIsNotComplete();
        Check.end("EdgesOfInputTest");
    }

    private static void error(boolean metre, String text, int due) {
        Check.same("firstError of \"" + text + "\"", due, Pages.typed(text).firstError(metre));
    }

    /** All characters that the buffer can have, behind a text: an error but for the allowed ones. */
    private static void allBehind(boolean metre, String text, String allowed) {
        for (char code = 32; code <= 126; code++) {
            boolean fine = allowed.indexOf(code) >= 0;
            error(metre, text + code, text.length() + (fine ? 1 : 0));
        }
    }

    /** Promise 12: "if code is not 32 to 126". */
    private static void codesAre32To126() {
        HymnPage page = new HymnPage();
        for (int code = 32; code <= 126; code++) {
            Check.same("append " + code, (code - 32) % 60 + 1, page.append(code));
            if (code == 91) {
                page.clearInput();
            }
        }
        Check.refused("append 31", Check.ARGUMENT, HymnPage::new, p -> p.append(31));
        Check.refused("append 127", Check.ARGUMENT, HymnPage::new, p -> p.append(127));
    }

    /** "The input buffer has at most 60 characters." */
    private static void bufferHas60Characters() {
        HymnPage page = new HymnPage();
        for (int length = 1; length <= 60; length++) {
            Check.same("append", length, page.append('a'));
        }
        Check.refused("append to 60", Check.STATE, Pages::fullBuffer, p -> p.append('a'));
    }

    /** Promise 13: "Returns the length that it had": 0, 1, 60. */
    private static void clearInputTellsTheLength() {
        Check.same("none", 0, new HymnPage().clearInput());
        Check.same("one", 1, Pages.typed(" ").clearInput());
        Check.same("60", 60, Pages.fullBuffer().clearInput());
    }

    /** "Clears the input buffer": all of it. */
    private static void clearedBufferTakes60Again() {
        HymnPage page = Pages.fullBuffer();
        page.clearInput();
        Check.same("none is left", 0, page.clearInput());
        Check.same("no error", 0, page.firstError(false));
        for (int length = 1; length <= 60; length++) {
            Check.same("append", length, page.append('1'));
        }
    }

    /** Promise 14: "the length of the buffer if there is none": of an empty one. */
    private static void emptyBufferHasNoError() {
        error(false, "", 0);
        error(true, "", 0);
    }

    /** The same sentence: of a full one; and of one whose last character is the error. */
    private static void fullBufferWithoutAnError() {
        error(false, "a-".repeat(30), 60);
        error(false, "a ".repeat(29) + "ab", 60);
        error(false, "a ".repeat(29) + "a.", 59);
        error(true, "1.1." + "10.".repeat(18) + "10", 60);
        error(true, "10.".repeat(20), 60);
        error(true, "10.".repeat(19) + "11-", 59);
    }

    /** "Returns the index of the first character that is a syntax error": later ones do not matter. */
    private static void firstErrorIsTheFirst() {
        error(false, "..", 0);
        error(false, "a..a..", 1);
        error(false, "a  b", 2);
        error(false, "a  ", 2);
        error(true, "x8", 0);
        error(true, "8x8x", 1);
        error(true, "8..8..8", 2);
        error(true, "211", 1);
    }

    /** "Finds the first syntax error of the buffer": it stays as it is, and may be read both ways. */
    private static void firstErrorChangesNothing() {
        HymnPage page = Pages.typed("12.D");
        long before = page.digest();
        Check.same("as a metre", 4, page.firstError(true));
        Check.same("as a line", 0, page.firstError(false));
        Check.same("as a metre again", 4, page.firstError(true));
        Check.same("digest", before, page.digest());
    }

    /** "a syllable is 1 to 12 characters, each a letter from a to z or A to Z, or "'"": the first one. */
    private static void lineBeginsWithALetter() {
        allBehind(false, "", LETTERS);
    }

    /** "separated by single blanks"; "separated by "-"": behind a letter all may follow. */
    private static void lineGoesOnBehindALetter() {
        allBehind(false, "a", LETTERS + "- ");
        allBehind(false, "a-b c", LETTERS + "- ");
        allBehind(false, "'", LETTERS + "- ");
    }

    /** "a word is one or more syllables", "a syllable is 1 to 12 characters": none is empty. */
    private static void lineGoesOnBehindASeparator() {
        allBehind(false, "a-", LETTERS);
        allBehind(false, "a ", LETTERS);
        allBehind(false, "a-b ", LETTERS);
        allBehind(false, "a b-", LETTERS);
    }

    /** "a syllable is 1 to 12 characters": the 13th is an error, in each syllable. */
    private static void syllableHas12Characters() {
        error(false, TWELVE, 12);
        error(false, TWELVE + "m", 12);
        error(false, "a-" + TWELVE, 14);
        error(false, "a-" + TWELVE + "m", 14);
        error(false, "a " + TWELVE + "m", 14);
        error(false, TWELVE + "-" + TWELVE + " " + TWELVE + "'", 38);
        error(false, "'".repeat(12), 12);
        error(false, "'".repeat(13), 12);
    }

    /** The same words: behind 12 characters a separator may follow, and the next ones are counted anew. */
    private static void syllableOf12EndsWithASeparator() {
        allBehind(false, TWELVE, "- ");
        error(false, TWELVE + "-" + TWELVE + " " + TWELVE + "-" + TWELVE, 51);
    }

    /** "A line is one or more words, separated by single blanks". */
    private static void wordsAreSeparatedBySingleBlanks() {
        error(false, " ", 0);
        error(false, "a b", 3);
        error(false, "a b ", 4);
        error(false, "a  b", 2);
        error(false, "a- b", 2);
        error(false, "a -b", 2);
        error(false, "a--b", 2);
    }

    /** "A metre is one or more numbers": what it begins with. */
    private static void metreBeginsWith1To9() {
        allBehind(true, "", "123456789");
    }

    /** "separated by "."", "for a metre also a digit that makes a number greater than 20". */
    private static void metreGoesOnBehindANumber() {
        allBehind(true, "1", "0123456789.");
        allBehind(true, "3", ".");
        allBehind(true, "9", ".");
        allBehind(true, "8.6.1", "0123456789.");
    }

    /** The same words: behind a 2 only a 0. */
    private static void metreGoesOnBehind2() {
        allBehind(true, "2", "0.");
        allBehind(true, "8.2", "0.");
    }

    /** The same words: behind two digits none. */
    private static void metreGoesOnBehind10To20() {
        for (int number = 10; number <= 20; number++) {
            allBehind(true, "" + number, ".");
        }
    }

    /** "behind the last one ".D" may follow": so behind a "." a number or the "D". */
    private static void metreGoesOnBehindADot() {
        allBehind(true, "8.", "123456789D");
        allBehind(true, "20.20.", "123456789D");
    }

    /** "behind the last one ".D" may follow": nothing behind that, and no "D" without the ".". */
    private static void nothingBehindD() {
        allBehind(true, "8.D", "");
        allBehind(true, "8.6.D", "");
        error(true, "D", 0);
        error(true, "8D", 1);
        error(true, "8.d", 2);
    }

    /** "numbers from 1 to 20". */
    private static void numbersAre1To20() {
        for (int number = 1; number <= 20; number++) {
            String text = "" + number;
            error(true, text, text.length());
            HymnPage page = Pages.typed(text);
            Check.same("addMetre", 0, page.addMetre());
            Check.same("number", number, page.metre(0, 0));
        }
        for (int number = 21; number <= 99; number++) {
            error(true, "" + number, 1);
        }
        for (int number = 100; number <= 209; number++) {
            error(true, "" + number, 2);
        }
    }

    /** "and a number that begins with 0": the 0 itself is the error. */
    private static void numberThatBeginsWith0() {
        error(true, "0", 0);
        error(true, "00", 0);
        error(true, "08", 0);
        error(true, "8.0", 2);
        error(true, "8.06", 2);
        error(true, "10.01", 3);
    }

    /** "what would make it longer than 24 numbers". */
    private static void metreHas24Numbers() {
        String ones = Pages.TWENTY_THREE_ONES;
        error(true, ones, 46);
        error(true, ones + "1", 47);
        error(true, ones + "20", 48);
        error(true, ones + "21", 47);
        error(true, ones + "0", 46);
        error(true, ones + "201", 48);
        HymnPage page = Pages.typed(ones + "20");
        Check.same("addMetre", 0, page.addMetre());
        Check.same("the 24th", 20, page.metre(0, 23));
        Check.same("no 25th", HymnPage.NONE, page.metre(0, 24));
    }

    /** "also a "." behind the 24th one": behind the 23rd it is none. */
    private static void dotBehindThe24th() {
        String ones = Pages.TWENTY_THREE_ONES;
        error(true, ones.substring(0, 45), 45);
        error(true, ones.substring(0, 45) + ".", 46);
        error(true, ones + "1.", 47);
        error(true, ones + "1.1", 47);
        error(true, ones + "1.D", 47);
        error(true, ones + "20.", 48);
        allBehind(true, ones + "3", "");
        allBehind(true, ones, "123456789");
    }

    /** "and a "D" behind more than 12": behind 12 it is none, and they are 24 numbers then. */
    private static void dBehind12Numbers() {
        String eleven = "1.".repeat(11);
        error(true, eleven + "D", 23);
        error(true, eleven + "1.D", 25);
        error(true, eleven + "1.1.D", 26);
        error(true, eleven + "12.D", 26);
        error(true, eleven + "1.12.D", 27);
        error(true, "1.".repeat(23) + "D", 46);
        allBehind(true, "1.".repeat(12), "123456789D");
        allBehind(true, "1.".repeat(13), "123456789");
        HymnPage page = Pages.typed("1.2.3.4.5.6.7.8.9.10.11.12.D");
        Check.same("addMetre", 0, page.addMetre());
        for (int i = 0; i < 24; i++) {
            Check.same("number", i % 12 + 1, page.metre(0, i));
        }
        Check.same("no 25th", HymnPage.NONE, page.metre(0, 24));
    }

    private static void incomplete(boolean metre, String text) {
        Check.refused("\"" + text + "\"", Check.ARGUMENT, () -> Pages.typed(text),
                p -> metre ? p.addMetre() : p.setLine(0, 0));
    }

    /** "is complete if its last character is one of a syllable": not a separator, and without an error. */
    private static void completeLine() {
        String[] complete = {"a", "'", "Z", "a-b", "a b", TWELVE, "a ".repeat(29) + "ab", "D"};
        int[] due = {1, 1, 1, 2, 2, 1, 30, 1};
        for (int i = 0; i < complete.length; i++) {
            Check.same("setLine " + complete[i], due[i], Pages.typed(complete[i]).setLine(0, 0));
        }
        String[] not = {"-", " ", "a-", "a ", "a b-", "a-b ", "a--b", " a", "1", "8.D", TWELVE + "m",
            "a-".repeat(30), "a".repeat(60), "a~b"};
        for (String text : not) {
            incomplete(false, text);
        }
    }

    /** "or of a number, or the "D"": not a ".", and without an error. */
    private static void completeMetre() {
        String[] complete = {"1", "20", "8.6", "8.D", "8.6.8.6.D", "1.1." + "10.".repeat(18) + "10",
            Pages.TWENTY_THREE_ONES + "20"};
        int[] due = {1, 1, 2, 2, 8, 21, 24};
        for (int i = 0; i < complete.length; i++) {
            HymnPage page = Pages.typed(complete[i]);
            Check.same("addMetre " + complete[i], 0, page.addMetre());
            Check.same("behind the last number", HymnPage.NONE, page.metre(0, due[i]));
            Check.same("the last number there", 1, page.metre(0, due[i] - 1) == HymnPage.NONE ? 0 : 1);
        }
        String[] not = {".", "D", ".D", "0", "8.", "8.6.", "8D", "8.D.", "8.DD", "8.D8", "21", "8..6", "8 6", "a",
            "10.".repeat(20), Pages.TWENTY_THREE_ONES + "1.", Pages.TWENTY_THREE_ONES, "1.".repeat(13) + "D"};
        for (String text : not) {
            incomplete(true, text);
        }
    }

    /** "A buffer without a syntax error is complete if its last character is": an empty one has none. */
    private static void emptyBufferIsNotComplete() {
        incomplete(false, "");
        incomplete(true, "");
        Check.refused("the buffer is cleared by setLine", Check.ARGUMENT, () -> {
            HymnPage page = Pages.typed("la");
            page.setLine(0, 0);
            return page;
        }, p -> p.setLine(0, 1));
        Check.refused("the buffer is cleared by addMetre", Check.ARGUMENT, () -> {
            HymnPage page = Pages.typed("8.8");
            page.addMetre();
            return page;
        }, HymnPage::addMetre);
    }
}

/** Promises 22 to 26: phrases, sung phrases, and the verses below them. */
public final class VersesTest {

    public static void main(String[] args) {
        phrases();
        systems();
        aPhraseWiderThanThePage();
        sung();
        fit();
        fitOfMany();
        line();
        below();
        belowWithoutLines();
        longLines();
        eightySungPhrases();
        Check.end("VersesTest");
    }

    private static void phrases() {
        HymnPage page = Check.withPhrases(4, 1, 2);
        page.mark(1, false, true);
        page.mark(3, false, true);
        page.mark(4, false, true);
        page.repeat(1, 2, 1);
        Check.setLine(page, 0, 0, "grace");
        Check.row("phrase 0", new long[] {0, 3, 2, 15, 0, 1}, what -> page.phrase(0, what));
        Check.row("phrase 1", new long[] {4, 4, 1, 3, 0, 2}, what -> page.phrase(1, what));
        Check.row("phrase 2", new long[] {5, 6, 2, 6, 0, 1}, what -> page.phrase(2, what));
        Check.fails("phrase -1", page, Check.INDEX, () -> page.phrase(-1, 0));
        Check.fails("phrase 3", page, Check.INDEX, () -> page.phrase(3, 6));
        Check.fails("what -1", page, Check.ARGUMENT, () -> page.phrase(0, -1));
        Check.fails("what 6", page, Check.ARGUMENT, () -> page.phrase(0, 6));
    }

    private static void systems() {
        HymnPage page = Check.withPhrases(3, 3, 4, 3, 1);
        Check.same("systems", 3, page.setWidth(20));
        Check.row("system", new long[] {0, 0, 1, 2, 2}, phrase -> page.phrase(phrase, 4));
        Check.same("systems", 3, page.setWidth(21));
        Check.row("system", new long[] {0, 0, 1, 1, 2}, phrase -> page.phrase(phrase, 4));
        // The first column gets wider by 3, so that phrases 0 and 1 need 21.
        Check.setLine(page, 1, 0, "grace");
        Check.row("system", new long[] {0, 0, 1, 1, 2}, phrase -> page.phrase(phrase, 4));
        Check.setLine(page, 1, 0, "graces");
        Check.row("system", new long[] {0, 1, 1, 2, 2}, phrase -> page.phrase(phrase, 4));
        Check.same("systems", 3, page.count(10));
    }

    private static void aPhraseWiderThanThePage() {
        HymnPage page = Check.withPhrases(8, 1, 9, 1);
        Check.same("systems", 4, page.setWidth(20));
        Check.row("system", new long[] {0, 1, 2, 3}, phrase -> page.phrase(phrase, 4));
        HymnPage alone = Check.withPhrases(40);
        Check.same("systems", 1, alone.setWidth(20));
        Check.same("system", 0, alone.phrase(0, 4));
    }

    private static void sung() {
        HymnPage empty = new HymnPage();
        Check.fails("sung of none", empty, Check.INDEX, () -> empty.sung(0));
        HymnPage page = Check.withPhrases(1, 1, 1, 1);
        page.repeat(1, 3, 2);
        Check.row("sung", new long[] {0, 1, 2, 3, 1}, page::sung);
        Check.row("times", new long[] {1, 2, 1, 1}, phrase -> page.phrase(phrase, 5));
        Check.fails("sung -1", page, Check.INDEX, () -> page.sung(-1));
        Check.fails("sung 5", page, Check.INDEX, () -> page.sung(5));
    }

    private static void fit() {
        HymnPage page = Check.withPhrases(2, 3);
        page.mark(4, false, true);
        Check.same("missing", 0, page.fit(1));
        Check.setLine(page, 1, 1, "a-men");
        Check.same("missing", 0, page.fit(1));
        Check.setLine(page, 1, 0, "and all");
        Check.same("fits", -1, page.fit(1));
        Check.same("the mask", 2, page.count(12));
        Check.setLine(page, 1, 23, "more");
        Check.same("too many lines", 23, page.fit(1));
        Check.setLine(page, 1, 2, "more");
        Check.same("too many lines", 2, page.fit(1));
        page.repeat(1, 1, 0);
        Check.same("too few syllables", 2, page.fit(1));
        Check.setLine(page, 1, 0, "and all of them");
        Check.same("too many syllables", 0, page.fit(1));
        Check.fails("verse -1", page, Check.INDEX, () -> page.fit(-1));
        Check.fails("verse 4", page, Check.INDEX, () -> page.fit(4));
    }

    private static void fitOfMany() {
        HymnPage page = new HymnPage();
        for (int i = 0; i < 24; i++) {
            page.addNote(1, 60, 60, 60, 60);
            page.mark(i, true, true);
            Check.setLine(page, 0, i, "la");
        }
        // What the next verse has must not be taken for a line 24.
        Check.setLine(page, 1, 0, "graces all");
        Check.same("24 lines", -1, page.fit(0));
        page.addNote(1, 60, 60, 60, 60);
        Check.same("25 phrases", 24, page.fit(0));
        Check.same("an empty verse", 0, page.fit(2));
        Check.same("the mask", 0, page.count(12));
        Check.same("below the 25th", -1, page.below(0, 24, 0, 1));
        Check.same("column of the 25th", 3, page.note(24, 7));
        page.repeat(0, 24, 0);
        Check.same("50 phrases", 24, page.fit(0));
        Check.same("below the 50th", -1, page.below(3, 49, 0, 1));
    }

    private static void line() {
        HymnPage page = new HymnPage();
        Check.setLine(page, 3, 5, "Al-le-lu-ia sing 'tis won-der-ful");
        Check.row("line", new long[] {9, 4, 4}, what -> page.line(3, 5, what));
        Check.row("missing", new long[] {0, 0, 0}, what -> page.line(2, 5, what));
        Check.fails("verse -1", page, Check.INDEX, () -> page.line(-1, 0, 0));
        Check.fails("verse 4", page, Check.INDEX, () -> page.line(4, 0, 3));
        Check.fails("line -1", page, Check.INDEX, () -> page.line(0, -1, 0));
        Check.fails("line 24", page, Check.INDEX, () -> page.line(0, 24, -1));
        Check.fails("what -1", page, Check.ARGUMENT, () -> page.line(0, 0, -1));
        Check.fails("what 3", page, Check.ARGUMENT, () -> page.line(0, 0, 3));
    }

    private static void below() {
        HymnPage page = Check.withPhrases(1, 4);
        page.mark(2, false, true);
        page.repeat(1, 1, 0);
        Check.setLine(page, 2, 1, "Zi-on's");
        Check.row("at 0", new long[] {0, 2, 'Z', 1}, what -> page.below(2, 1, 0, what));
        Check.row("at 1", new long[] {-1, -1, -1, -1}, what -> page.below(2, 1, 1, what));
        Check.row("at 2", new long[] {1, 4, 'o', 0}, what -> page.below(2, 1, 2, what));
        Check.row("at 3", new long[] {-1, -1, -1, -1}, what -> page.below(2, 1, 3, what));
        Check.setLine(page, 2, 2, "'twas abcdefghijkl-zed for-ev-er");
        Check.row("at 2", new long[] {1, 12, 'a', 1}, what -> page.below(2, 2, 2, what));
        Check.row("at 3", new long[] {2, 3, 'z', 0}, what -> page.below(2, 2, 3, what));
        Check.row("at 0", new long[] {0, 5, '\'', 0}, what -> page.below(2, 2, 0, what));
        Check.fails("verse -1", page, Check.INDEX, () -> page.below(-1, 0, 0, 0));
        Check.fails("verse 4", page, Check.INDEX, () -> page.below(4, 0, 0, 0));
        Check.fails("number -1", page, Check.INDEX, () -> page.below(0, -1, 0, 0));
        Check.fails("number 3", page, Check.INDEX, () -> page.below(0, 3, 0, 4));
        Check.fails("place -1", page, Check.INDEX, () -> page.below(0, 0, -1, 0));
        Check.fails("place 1 of phrase 0", page, Check.INDEX, () -> page.below(0, 0, 1, 4));
        Check.fails("place 4 of phrase 1", page, Check.INDEX, () -> page.below(0, 2, 4, 0));
        Check.fails("what -1", page, Check.ARGUMENT, () -> page.below(0, 0, 0, -1));
        Check.fails("what 4", page, Check.ARGUMENT, () -> page.below(0, 0, 0, 4));
    }

    private static void belowWithoutLines() {
        HymnPage page = Check.withPhrases(2);
        Check.row("no line", new long[] {-1, -1, -1, -1}, what -> page.below(0, 0, 1, what));
        Check.setLine(page, 0, 0, "a-a");
        Check.setLine(page, 0, 0, "b");
        Check.row("the old line is gone", new long[] {-1, -1, -1, -1}, what -> page.below(0, 0, 1, what));
    }

    private static void longLines() {
        HymnPage page = Check.withPhrases(30);
        page.repeat(0, 0, 0);
        String first = "a-b-c-d-e-f-g-h-i-j-k-l-m-n-o-p-q-r-s-t-u-v-w-x-y-z-A-B-C-D";
        Check.same("setLine", 30, Check.setLine(page, 0, 0, first));
        Check.same("setLine", 30, Check.setLine(page, 0, 1, first.toUpperCase().replace('-', ' ')));
        for (int i = 0; i < 30; i++) {
            Check.same("sign of the first time", first.charAt(2 * i), page.below(0, 0, i, 2));
            Check.same("link of the first time", i < 29 ? 1 : 0, page.below(0, 0, i, 3));
            Check.same("sign of the second time", first.toUpperCase().charAt(2 * i), page.below(0, 1, i, 2));
            Check.same("link of the second time", 0, page.below(0, 1, i, 3));
        }
    }

    private static void eightySungPhrases() {
        HymnPage page = Check.withPhrases(new int[] {
            1, 1, 1, 1, 1, 1, 1, 1, 1, 1, 1, 1, 1, 1, 1, 1, 1, 1, 1, 1,
            1, 1, 1, 1, 1, 1, 1, 1, 1, 1, 1, 1, 1, 1, 1, 1, 1, 1, 1, 1});
        Check.same("repeat", 80, page.repeat(0, 39, 0));
        for (int number = 0; number < 80; number++) {
            Check.same("sung", number % 40, page.sung(number));
        }
        Check.same("times", 2, page.phrase(39, 5));
    }
}

/** Promises 12 to 18: the input, lines and metres that are read from it. */
public final class InputTest {

    public static void main(String[] args) {
        append();
        clearInput();
        errorsOfLines();
        errorsOfMetres();
        setLine();
        incompleteLines();
        clearVerse();
        addMetre();
        incompleteMetres();
        dropMetre();
        Check.end("InputTest");
    }

    private static void append() {
        HymnPage page = new HymnPage();
        Check.fails("code 31", page, Check.ARGUMENT, () -> page.append(31));
        Check.fails("code 127", page, Check.ARGUMENT, () -> page.append(127));
        Check.same("code 32", 1, page.append(32));
        Check.same("code 126", 2, page.append(126));
        for (int i = 3; i <= 60; i++) {
            Check.same("append", i, page.append('a'));
        }
        Check.fails("a 61st one", page, Check.STATE, () -> page.append('a'));
        Check.fails("a bad 61st one", page, Check.ARGUMENT, () -> page.append(-1));
    }

    private static void clearInput() {
        HymnPage page = new HymnPage();
        Check.same("clearInput", 0, page.clearInput());
        Check.type(page, "abc");
        Check.same("clearInput", 3, page.clearInput());
        Check.same("clearInput", 0, page.clearInput());
    }

    private static void error(String text, boolean metre, int due) {
        HymnPage page = new HymnPage();
        Check.type(page, text);
        Check.same("firstError of \"" + text + "\"", due, page.firstError(metre));
    }

    private static void errorsOfLines() {
        error("", false, 0);
        error("O", false, 1);
        error("A-ma-zing grace! how", false, 15);
        error("zZ'aA", false, 5);
        error("`", false, 0);
        error("a{", false, 1);
        error("a@", false, 1);
        error("a[", false, 1);
        error("a1", false, 1);
        error(" a", false, 0);
        error("-a", false, 0);
        error("a  b", false, 2);
        error("a- b", false, 2);
        error("a -b", false, 2);
        error("a--b", false, 2);
        error("a-", false, 2);
        error("a ", false, 2);
        error("abcdefghijkl", false, 12);
        error("abcdefghijkl-m", false, 14);
        error("abcdefghijklm", false, 12);
        error("a-abcdefghijklm", false, 14);
    }

    private static void errorsOfMetres() {
        error("", true, 0);
        error("8.6.8.6", true, 7);
        error("8.6.8.6.D", true, 9);
        error("8.6.8.6.", true, 8);
        error("D", true, 0);
        error(".8", true, 0);
        error("8..8", true, 2);
        error("8D", true, 1);
        error("8.D.", true, 3);
        error("8.DD", true, 3);
        error("8.D8", true, 3);
        error("8.d", true, 2);
        error("0", true, 0);
        error("8.08", true, 2);
        error("10.20", true, 5);
        error("21", true, 1);
        error("3.30", true, 3);
        error("100", true, 2);
        error("200", true, 2);
        error("8 8", true, 1);
        error("8/", true, 1);
        error("8:", true, 1);
        error("1.1.1.1.1.1.1.1.1.1.1.1.D", true, 25);
        error("1.1.1.1.1.1.1.1.1.1.1.1.1.D", true, 26);
        error("1.1.1.1.1.1.1.1.1.1.1.1.1.1.1.1.1.1.1.1.1.1.1.12", true, 48);
        error("1.1.1.1.1.1.1.1.1.1.1.1.1.1.1.1.1.1.1.1.1.1.1.1.", true, 47);
        error("1.1.1.1.1.1.1.1.1.1.1.1.1.1.1.1.1.1.1.1.1.1.1.", true, 46);
    }

    private static void setLine() {
        HymnPage page = new HymnPage();
        Check.same("setLine", 3, Check.setLine(page, 0, 0, "A-men all"));
        Check.same("buffer is cleared", 0, page.clearInput());
        Check.same("setLine", 30, Check.setLine(page, 3, 23,
                "a-a-a-a-a-a-a-a-a-a-a-a-a-a-a a a a a a a a a a a a a a a a"));
        Check.same("words", 16, page.line(3, 23, 1));
        Check.same("setLine again", 1, Check.setLine(page, 0, 0, "Lord"));
        Check.row("line", new long[] {1, 1, 4}, what -> page.line(0, 0, what));
        Check.type(page, "ab");
        Check.fails("verse -1", page, Check.INDEX, () -> page.setLine(-1, 0));
        Check.fails("verse 4", page, Check.INDEX, () -> page.setLine(4, 0));
        Check.fails("line -1", page, Check.INDEX, () -> page.setLine(0, -1));
        Check.fails("line 24", page, Check.INDEX, () -> page.setLine(0, 24));
        page.append('-');
        Check.fails("index before argument", page, Check.INDEX, () -> page.setLine(4, 0));
        Check.fails("index before argument", page, Check.INDEX, () -> page.setLine(0, 24));
    }

    private static void incompleteLines() {
        for (String text : new String[] {"", "a-", "a ", "-a", "a  b", "8.6", "abcdefghijklm"}) {
            HymnPage page = new HymnPage();
            Check.type(page, text);
            Check.fails("line " + text, page, Check.ARGUMENT, () -> page.setLine(0, 0));
        }
    }

    private static void clearVerse() {
        HymnPage page = Check.withPhrases(1);
        Check.setLine(page, 1, 0, "through");
        Check.setLine(page, 1, 23, "all");
        Check.setLine(page, 2, 0, "the");
        Check.same("column", 8, page.note(0, 7));
        Check.same("clearVerse 0", 0, page.clearVerse(0));
        Check.same("clearVerse 1", 2, page.clearVerse(1));
        Check.same("column", 4, page.note(0, 7));
        Check.same("line 0", 0, page.line(1, 0, 0));
        Check.same("line 23", 0, page.line(1, 23, 2));
        Check.same("verse 2", 1, page.line(2, 0, 0));
        Check.same("clearVerse 1", 0, page.clearVerse(1));
        Check.fails("verse -1", page, Check.INDEX, () -> page.clearVerse(-1));
        Check.fails("verse 4", page, Check.INDEX, () -> page.clearVerse(4));
    }

    private static void addMetre() {
        HymnPage page = new HymnPage();
        Check.same("addMetre", 0, Check.addMetre(page, "8.6.20.D"));
        Check.same("buffer is cleared", 0, page.clearInput());
        Check.row("doubled", new long[] {8, 6, 20, 8, 6, 20, -1}, i -> page.metre(0, i));
        Check.same("addMetre", 1, Check.addMetre(page, "10"));
        Check.row("alone", new long[] {10, -1}, i -> page.metre(1, i));
        page.dropMetre(1);
        Check.same("addMetre", 1, Check.addMetre(page, "2.1"));
        Check.row("with a 1", new long[] {2, 1, -1}, i -> page.metre(1, i));
        Check.same("24", 2, Check.addMetre(page, "1.1.1.1.1.1.1.1.1.1.1.1.1.1.1.1.1.1.1.1.1.1.1.12"));
        Check.same("its last one", 12, page.metre(2, 23));
        Check.same("24", 3, Check.addMetre(page, "1.2.3.4.5.6.7.8.9.10.11.12.D"));
        Check.same("its 13th one", 1, page.metre(3, 12));
        Check.same("its last one", 12, page.metre(3, 23));
        for (int i = 4; i < 8; i++) {
            Check.same("addMetre", i, Check.addMetre(page, "6.6"));
        }
        Check.type(page, "8.8");
        Check.fails("a ninth one", page, Check.STATE, page::addMetre);
        page.append('.');
        Check.fails("a bad ninth one", page, Check.ARGUMENT, page::addMetre);
    }

    private static void incompleteMetres() {
        for (String text : new String[] {"", "8.", "8.6.", "D", "0", "21", "a", "8.D.", "8..6"}) {
            HymnPage page = new HymnPage();
            Check.type(page, text);
            Check.fails("metre " + text, page, Check.ARGUMENT, page::addMetre);
        }
    }

    private static void dropMetre() {
        HymnPage page = new HymnPage();
        Check.fails("no metres", page, Check.INDEX, () -> page.dropMetre(0));
        Check.addMetre(page, "1.2.3");
        Check.addMetre(page, "4");
        Check.addMetre(page, "5.6.7.8");
        Check.fails("metre -1", page, Check.INDEX, () -> page.dropMetre(-1));
        Check.fails("metre 3", page, Check.INDEX, () -> page.dropMetre(3));
        Check.same("dropMetre", 2, page.dropMetre(1));
        Check.row("first", new long[] {1, 2, 3, -1}, i -> page.metre(0, i));
        Check.row("second", new long[] {5, 6, 7, 8, -1}, i -> page.metre(1, i));
        Check.same("dropMetre", 1, page.dropMetre(0));
        Check.row("left", new long[] {5, 6, 7, 8, -1}, i -> page.metre(0, i));
        Check.same("addMetre", 1, Check.addMetre(page, "9.9"));
        Check.row("new", new long[] {9, 9, -1}, i -> page.metre(1, i));
        Check.same("dropMetre", 1, page.dropMetre(1));
        Check.same("dropMetre", 0, page.dropMetre(0));
    }
}

/** Promises 19 to 21: notes, their parts, and how they stand on the staves. */
public final class NotesTest {

    public static void main(String[] args) {
        placesInPhrases();
        barsWithoutUpbeat();
        barsWithUpbeat();
        columns();
        parallels();
        wrongNotes();
        degreesAndSteps();
        lettersOfTonics();
        shapes();
        ledgerLines();
        wrongParts();
        heads();
        Check.end("NotesTest");
    }

    private static void placesInPhrases() {
        HymnPage page = Check.withPhrases(2, 3, 1);
        for (int note = 0; note < 6; note++) {
            page.mark(note, false, note % 2 == 0);
        }
        Check.row("slurred", new long[] {0, 0, 0, 0, 1, 0}, note -> page.note(note, 1));
        Check.row("phrase", new long[] {0, 0, 1, 1, 1, 2}, note -> page.note(note, 2));
        Check.row("place", new long[] {0, 1, 0, 1, 2, 0}, note -> page.note(note, 3));
    }

    private static HymnPage withLengths(int... lengths) {
        HymnPage page = new HymnPage();
        for (int length : lengths) {
            page.addNote(length, 60, 60, 60, 60);
        }
        return page;
    }

    private static void barsWithoutUpbeat() {
        HymnPage page = withLengths(3, 1, 2, 3, 8, 1);
        Check.row("length", new long[] {3, 1, 2, 3, 8, 1}, note -> page.note(note, 0));
        Check.row("bar", new long[] {1, 1, 2, 2, 3, 5}, note -> page.note(note, 4));
        Check.row("before", new long[] {0, 3, 0, 2, 1, 1}, note -> page.note(note, 5));
        Check.row("behind", new long[] {0, 0, 0, 1, 1, 0}, note -> page.note(note, 6));
    }

    private static void barsWithUpbeat() {
        HymnPage page = withLengths(1, 2, 4, 3, 4);
        page.setBars(4, 3);
        Check.row("bar", new long[] {0, 0, 1, 2, 2}, note -> page.note(note, 4));
        Check.row("before", new long[] {0, 1, 0, 0, 3}, note -> page.note(note, 5));
        Check.row("behind", new long[] {0, 0, 0, 0, 1}, note -> page.note(note, 6));
        page.setBars(4, 2);
        Check.row("bar", new long[] {0, 0, 1, 2, 3}, note -> page.note(note, 4));
        Check.row("before", new long[] {0, 1, 1, 1, 0}, note -> page.note(note, 5));
        Check.row("behind", new long[] {0, 1, 1, 0, 0}, note -> page.note(note, 6));
    }

    private static void columns() {
        HymnPage page = Check.withPhrases(3, 1);
        page.mark(1, false, true);
        page.repeat(0, 0, 0);
        Check.setLine(page, 0, 0, "a praise through");
        Check.row("column", new long[] {3, 3, 7, 3}, note -> page.note(note, 7));
        // Line 1 is the second time of phrase 0, line 2 is phrase 1.
        Check.setLine(page, 3, 1, "Lord it");
        Check.setLine(page, 1, 2, "gra-ces");
        Check.row("column", new long[] {5, 3, 7, 4}, note -> page.note(note, 7));
        Check.setLine(page, 2, 3, "nobody's");
        Check.row("column", new long[] {5, 3, 7, 4}, note -> page.note(note, 7));
        page.mark(1, false, false);
        Check.row("column", new long[] {5, 7, 8, 4}, note -> page.note(note, 7));
        Check.setLine(page, 2, 0, "abcdefghijkl");
        Check.row("column", new long[] {13, 7, 8, 4}, note -> page.note(note, 7));
        page.clearRepeats();
        Check.row("column", new long[] {13, 7, 8, 5}, note -> page.note(note, 7));
    }

    private static int parallel(int[] first, int[] second) {
        HymnPage page = new HymnPage();
        page.addNote(1, first[0], first[1], first[2], first[3]);
        page.addNote(1, second[0], second[1], second[2], second[3]);
        Check.same("the first note", 0, page.note(0, 8));
        return page.note(1, 8);
    }

    private static void parallels() {
        int[] apart = {72, 65, 61, 39};
        Check.same("0 and 1 up", 1, parallel(apart, new int[] {74, 67, 61, 39}));
        Check.same("0 and 1 down", 1, parallel(apart, new int[] {71, 64, 61, 39}));
        Check.same("0 and 1 stay", 0, parallel(apart, apart));
        int[] octave = {72, 60, 61, 39};
        Check.same("the lower one stays", 0, parallel(octave, new int[] {84, 60, 61, 39}));
        Check.same("the lower one stays", 0, parallel(octave, new int[] {60, 60, 61, 39}));
        Check.same("the upper one stays", 0, parallel(octave, new int[] {72, 72, 61, 39}));
        Check.same("the upper one stays", 0, parallel(octave, new int[] {72, 48, 61, 39}));
        Check.same("from 7 to 19", 1, parallel(apart, new int[] {79, 60 + 12, 61, 39}));
        Check.same("against each other", 0, parallel(apart, new int[] {79, 60, 61, 39}));
        Check.same("7 to 0", 0, parallel(apart, new int[] {74, 74, 61, 39}));
        Check.same("fourths", 0, parallel(new int[] {72, 67, 61, 39}, new int[] {74, 69, 61, 39}));
        Check.same("crossed fourths", 1, parallel(new int[] {67, 72, 61, 39}, new int[] {69, 74, 61, 39}));
        Check.same("crossed fifths", 0, parallel(new int[] {65, 72, 61, 39}, new int[] {67, 74, 61, 39}));
        Check.same("unisons", 1, parallel(new int[] {67, 67, 61, 39}, new int[] {69, 69, 61, 39}));
        int[] wide = {72, 70, 69, 67};
        Check.same("0 and 2", 2, parallel(new int[] {72, 70, 60, 40}, new int[] {74, 70, 62, 40}));
        Check.same("0 and 3", 4, parallel(new int[] {72, 70, 58, 41}, new int[] {74, 70, 58, 43}));
        Check.same("1 and 2", 8, parallel(new int[] {72, 65, 58, 40}, new int[] {72, 67, 60, 40}));
        Check.same("1 and 3", 16, parallel(new int[] {72, 65, 58, 41}, new int[] {72, 67, 58, 43}));
        Check.same("2 and 3", 32, parallel(new int[] {72, 66, 58, 39}, new int[] {72, 66, 60, 41}));
        Check.same("none in seconds", 0, parallel(wide, new int[] {74, 72, 71, 69}));
        Check.same("all", 63, parallel(new int[] {72, 60, 48, 36}, new int[] {74, 62, 50, 38}));
    }

    private static void wrongNotes() {
        HymnPage page = withLengths(1);
        Check.fails("note -1", page, Check.INDEX, () -> page.note(-1, 0));
        Check.fails("note 1", page, Check.INDEX, () -> page.note(1, 9));
        Check.fails("what -1", page, Check.ARGUMENT, () -> page.note(0, -1));
        Check.fails("what 9", page, Check.ARGUMENT, () -> page.note(0, 9));
    }

    private static HymnPage chord(int tonic, int soprano, int alto, int tenor, int bass) {
        HymnPage page = new HymnPage();
        page.begin(tonic);
        page.addNote(1, soprano, alto, tenor, bass);
        return page;
    }

    private static void degreesAndSteps() {
        HymnPage c = chord(0, 60, 61, 71, 36);
        Check.row("degree", new long[] {0, 0, 6, 0}, part -> c.part(0, part, 1));
        Check.row("step", new long[] {35, 35, 41, 21}, part -> c.part(0, part, 2));
        Check.row("raised", new long[] {0, 1, 0, 0}, part -> c.part(0, part, 3));
        // In G flat the 11 is a c flat, and stands in the octave of the c above it.
        HymnPage g = chord(6, 59, 60, 71, 66);
        Check.row("degree", new long[] {3, 3, 3, 0}, part -> g.part(0, part, 1));
        Check.row("step", new long[] {35, 35, 42, 39}, part -> g.part(0, part, 2));
        Check.row("raised", new long[] {0, 1, 0, 0}, part -> g.part(0, part, 3));
        // In B the 36 is a raised 35, in an octave that no pitch itself has.
        HymnPage b = chord(11, 36, 37, 59, 84);
        Check.row("degree", new long[] {0, 1, 0, 0}, part -> b.part(0, part, 1));
        Check.row("step", new long[] {20, 21, 34, 48}, part -> b.part(0, part, 2));
        Check.row("raised", new long[] {1, 0, 0, 1}, part -> b.part(0, part, 3));
    }

    private static void lettersOfTonics() {
        // The steps of the tonics from 60 to 71.
        long[] due = {35, 36, 36, 37, 37, 38, 39, 39, 40, 40, 41, 41};
        for (int tonic = 0; tonic < 12; tonic++) {
            HymnPage page = chord(tonic, 60 + tonic, 60, 60, 60);
            Check.same("step of tonic " + tonic, due[tonic], page.part(0, 0, 2));
            Check.same("degree of tonic " + tonic, 0, page.part(0, 0, 1));
        }
    }

    private static void shapes() {
        long[] due = {0, -1, 1, -1, 2, 0, -1, 1, -1, 2, -1, 3};
        for (int tonic = 0; tonic < 12; tonic++) {
            for (int above = 0; above < 12; above++) {
                HymnPage page = chord(tonic, 60 + tonic + above, 60, 60, 60);
                Check.same("shape " + above + " in " + tonic, due[above], page.part(0, 0, 4));
            }
        }
    }

    private static void ledgerLines() {
        // In C: 36 is the step 21, 84 the step 49.
        HymnPage page = chord(0, 60, 62, 57, 60);
        Check.row("lines", new long[] {1, 0, 0, 1}, part -> page.part(0, part, 5));
        HymnPage far = chord(0, 81, 79, 40, 38);
        Check.row("lines", new long[] {1, 0, 1, 1}, part -> far.part(0, part, 5));
        HymnPage farther = chord(0, 84, 36, 84, 36);
        Check.row("lines", new long[] {2, 8, 8, 2}, part -> farther.part(0, part, 5));
        HymnPage within = chord(0, 64, 77, 43, 57);
        Check.row("lines", new long[] {0, 0, 0, 0}, part -> within.part(0, part, 5));
        HymnPage beside = chord(0, 59, 57, 62, 64);
        Check.row("lines", new long[] {1, 2, 1, 2}, part -> beside.part(0, part, 5));
    }

    private static void wrongParts() {
        HymnPage page = chord(0, 60, 60, 60, 60);
        Check.fails("note -1", page, Check.INDEX, () -> page.part(-1, 0, 0));
        Check.fails("note 1", page, Check.INDEX, () -> page.part(1, 0, 6));
        Check.fails("part -1", page, Check.INDEX, () -> page.part(0, -1, 0));
        Check.fails("part 4", page, Check.INDEX, () -> page.part(0, 4, -1));
        Check.fails("what -1", page, Check.ARGUMENT, () -> page.part(0, 0, -1));
        Check.fails("what 6", page, Check.ARGUMENT, () -> page.part(0, 0, 6));
    }

    private static void headsOf(int due, int upper, int lower) {
        HymnPage page = chord(0, upper, lower, 60, 40);
        Check.same("heads of " + upper + " and " + lower, due, page.heads(0, 0));
        HymnPage men = chord(0, 60, 40, upper, lower);
        Check.same("heads of " + upper + " and " + lower, due, men.heads(0, 1));
    }

    private static void heads() {
        headsOf(1, 60, 60);
        headsOf(0, 64, 60);
        headsOf(2, 62, 60);
        headsOf(2, 63, 60);
        headsOf(2, 61, 60);
        headsOf(6, 60, 61);
        headsOf(6, 60, 63);
        headsOf(4, 60, 64);
        headsOf(0, 65, 62);
        HymnPage page = chord(0, 60, 60, 62, 60);
        Check.fails("note -1", page, Check.INDEX, () -> page.heads(-1, 0));
        Check.fails("note 1", page, Check.INDEX, () -> page.heads(1, 0));
        Check.fails("staff -1", page, Check.INDEX, () -> page.heads(0, -1));
        Check.fails("staff 2", page, Check.INDEX, () -> page.heads(0, 2));
    }
}

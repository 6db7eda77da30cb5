/**
 * The edges that the document's sentences about pitches name, a test for each: the terms, and
 * promises 10 and 20. Above each test stands its sentence.
 */
public final class EdgesOfPitchesTest {

    /** The scales as they are spelled, an s for a sharp, an f for a flat. */
    private static final String[] SCALES = {
        "c d e f g a b", "df ef f gf af bf c", "d e fs g a b cs", "ef f g af bf c d",
        "e fs gs a b cs ds", "f g a bf c d e", "gf af bf cf df ef f", "g a b c d e fs",
        "af bf c df ef f g", "a b cs d e fs gs", "bf c d ef f g a", "b cs ds e fs gs as"};
    private static final int[] CLASSES_OF_LETTERS = {0, 2, 4, 5, 7, 9, 11};

    public static void main(String[] args) {
        allPitchesInAllKeys();
        letterOfDegree0();
        afterBComesC();
        degreesModulo12();
        octaveOfALetterBeyondThePitch();
        raisedHasTheStepOfThePitchBelow();
        raisedAt36();
        lowestAndHighestPitch();
        shapesOfTheDegrees();
        noShapeIfRaised();
        tonicModulo12();
        transposeTakesMinus24To24();
        transposeTo36And84();
        transposeOfAnEmptyTune();
        transposeLeavesDegrees();
        transposeBy12LeavesTheTonic();
        transposeBy0ChangesNothing();
        Check.end("EdgesOfPitchesTest");
    }

    private static String spelled(int tonic, int degree) {
        return SCALES[tonic].split(" ")[degree];
    }

    private static int letterOf(String name) {
        return "cdefgab".indexOf(name.charAt(0));
    }

    /** The pitch class of the letter, with its sharp or flat: -1 for a c flat. */
    private static int placeOf(String name) {
        int sign = name.endsWith("s") ? 1 : name.length() == 2 ? -1 : 0;
        return CLASSES_OF_LETTERS[letterOf(name)] + sign;
    }

    /** The degree that the pitch is, or NONE. */
    private static int degreeOf(int tonic, int pitch) {
        for (int degree = 0; degree < 7; degree++) {
            if ((pitch - placeOf(spelled(tonic, degree))) % 12 == 0) {
                return degree;
            }
        }
        return HymnPage.NONE;
    }

    private static int stepOf(int tonic, int pitch) {
        String name = spelled(tonic, degreeOf(tonic, pitch));
        return 7 * ((pitch - placeOf(name)) / 12) + letterOf(name);
    }

    private static void askAll(int tonic, int pitch) {
        String call = "pitch " + pitch + " in " + tonic + ", what";
        boolean raised = degreeOf(tonic, pitch) == HymnPage.NONE;
        int written = raised ? pitch - 1 : pitch;
        int degree = degreeOf(tonic, written);
        long shape = raised ? HymnPage.NONE : "0120123".charAt(degree) - '0';
        HymnPage page = Pages.chord(tonic, pitch, pitch, pitch, pitch);
        for (int part = 0; part < 4; part++) {
            int its = part;
            Check.row(call, new long[] {pitch, degree, stepOf(tonic, written), raised ? 1 : 0, shape},
                    what -> page.part(0, its, what));
        }
    }

    /** "A pitch belongs to the key if its pitch class is that of a degree": each of 36 to 84, in each key. */
    private static void allPitchesInAllKeys() {
        for (int tonic = 0; tonic < 12; tonic++) {
            for (int pitch = 36; pitch <= 84; pitch++) {
                askAll(tonic, pitch);
            }
        }
    }

    private static void asks(int tonic, int pitch, long degree, long step, long raised, long shape) {
        HymnPage page = Pages.chord(tonic, pitch, 60, 60, 60);
        Check.row("pitch " + pitch + " in " + tonic + ", what", new long[] {pitch, degree, step, raised, shape},
                what -> page.part(0, 0, what));
    }

    /** "that of degree 0 is, for the tonics from 0 to 11: c, d, d, e, e, f, g, g, a, a, b, b." */
    private static void letterOfDegree0() {
        String letters = "cddeefggaabb";
        for (int tonic = 0; tonic < 12; tonic++) {
            asks(tonic, 60 + tonic, 0, 35 + "cdefgab".indexOf(letters.charAt(tonic)), 0, 0);
        }
    }

    /** "The letters of the degrees follow each other (after b comes c)". */
    private static void afterBComesC() {
        asks(11, 71, 0, 41, 0, 0);
        asks(11, 73, 1, 42, 0, 1);
        asks(10, 70, 0, 41, 0, 0);
        asks(10, 72, 1, 42, 0, 1);
        asks(9, 71, 1, 41, 0, 1);
        asks(9, 73, 2, 42, 0, 2);
        asks(1, 72, 6, 42, 0, 3);
    }

    /** "their pitch classes are those of the tonic plus 0, 2, 4, 5, 7, 9 and 11, modulo 12". */
    private static void degreesModulo12() {
        // In B: the degrees 1 to 6 lie beyond the 11.
        asks(11, 58, 6, 33, 0, 3);
        asks(11, 59, 0, 34, 0, 0);
        asks(11, 61, 1, 35, 0, 1);
        // In C none does.
        asks(0, 59, 6, 34, 0, 3);
        asks(0, 60, 0, 35, 0, 0);
    }

    /**
     * "the octave is such that the pitch class of the letter plus 12 times the octave differs from the
     * pitch by at most 2".
     */
    private static void octaveOfALetterBeyondThePitch() {
        // The c flat of G flat: 47 stands where 48 does.
        asks(6, 47, 3, 28, 0, 0);
        asks(6, 48, 3, 28, 1, -1);
        asks(6, 49, 4, 29, 0, 1);
        asks(6, 46, 2, 27, 0, 2);
        asks(6, 83, 3, 49, 0, 0);
        asks(6, 84, 3, 49, 1, -1);
        asks(6, 71, 3, 42, 0, 0);
        // The b of C major is in the octave below.
        asks(0, 47, 6, 27, 0, 3);
    }

    /**
     * "A pitch that does not belong to the key has the degree and the step of the pitch that is 1
     * lower (which does), raised."
     */
    private static void raisedHasTheStepOfThePitchBelow() {
        asks(0, 61, 0, 35, 1, -1);
        asks(0, 63, 1, 36, 1, -1);
        asks(0, 66, 3, 38, 1, -1);
        asks(0, 68, 4, 39, 1, -1);
        asks(0, 70, 5, 40, 1, -1);
        asks(11, 60, 0, 34, 1, -1);
        asks(11, 72, 0, 41, 1, -1);
    }

    /** The same sentence, of the lowest pitch: the one that is 1 lower is none that a note may have. */
    private static void raisedAt36() {
        asks(11, 36, 0, 20, 1, -1);
        asks(4, 36, 4, 20, 1, -1);
        asks(9, 36, 1, 20, 1, -1);
        asks(2, 36, 5, 20, 1, -1);
        asks(6, 36, 3, 21, 1, -1);
    }

    /** "four pitches (36 to 84)": their steps. */
    private static void lowestAndHighestPitch() {
        asks(0, 36, 0, 21, 0, 0);
        asks(0, 84, 0, 49, 0, 0);
        asks(1, 36, 6, 21, 0, 3);
        asks(1, 84, 6, 49, 0, 3);
        asks(11, 84, 0, 48, 1, -1);
    }

    /**
     * "The shape of a pitch that belongs to the key is, for the degrees 0 to 6: 0 (fa), 1 (sol), 2
     * (la), 0, 1, 2, 3 (mi)."
     */
    private static void shapesOfTheDegrees() {
        int[] above = {0, 2, 4, 5, 7, 9, 11};
        long[] shapes = {0, 1, 2, 0, 1, 2, 3};
        for (int degree = 0; degree < 7; degree++) {
            HymnPage page = Pages.chord(0, 60 + above[degree], 60, 60, 60);
            Check.same("degree", degree, page.part(0, 0, 1));
            Check.same("shape", shapes[degree], page.part(0, 0, 4));
        }
    }

    /** Promise 20: "4 for the shape, NONE if it is raised". */
    private static void noShapeIfRaised() {
        HymnPage page = Pages.chord(0, 61, 63, 66, 68);
        Check.row("shape", new long[] {-1, -1, -1, -1}, part -> page.part(0, part, 4));
        Check.row("raised", new long[] {1, 1, 1, 1}, part -> page.part(0, part, 3));
    }

    /** Promise 10: "all pitches, and the tonic (modulo 12)". */
    private static void tonicModulo12() {
        for (int tonic = 0; tonic < 12; tonic++) {
            for (int by = -24; by <= 24; by++) {
                HymnPage page = Pages.chord(tonic, 60, 60, 60, 60);
                int due = (tonic + by + 24) % 12;
                Check.same("transpose " + tonic + " by " + by, due, page.transpose(by));
                Check.same("tonic", due, page.count(1));
                Check.same("pitch", 60 + by, page.part(0, 3, 0));
            }
        }
    }

    /** "by: by how much, -24 to 24". */
    private static void transposeTakesMinus24To24() {
        HymnPage page = Pages.chord(5, 84, 84, 84, 84);
        Check.same("by -24", 5, page.transpose(-24));
        Check.row("pitch", new long[] {60, 60, 60, 60}, part -> page.part(0, part, 0));
        Check.same("by -24", 5, page.transpose(-24));
        Check.row("pitch", new long[] {36, 36, 36, 36}, part -> page.part(0, part, 0));
        Check.same("by 24", 5, page.transpose(24));
        Check.refused("by 25", Check.ARGUMENT, () -> Pages.chord(5, 36, 36, 36, 36), p -> p.transpose(25));
        Check.refused("by -25", Check.ARGUMENT, () -> Pages.chord(5, 84, 84, 84, 84), p -> p.transpose(-25));
    }

    /** "if a pitch would not be 36 to 84": any part of any of 40 notes. */
    private static void transposeTo36And84() {
        for (int note = 0; note < 40; note += 13) {
            for (int part = 0; part < 4; part++) {
                int its = part;
                int at = note;
                Check.Recipe low = () -> with(at, its, 38);
                Check.same("down to 36", 10, low.page().transpose(-2));
                Check.refused("down to 35", Check.STATE, low, p -> p.transpose(-3));
                Check.Recipe high = () -> with(at, its, 82);
                Check.same("up to 84", 2, high.page().transpose(2));
                Check.refused("up to 85", Check.STATE, high, p -> p.transpose(3));
            }
        }
    }

    private static HymnPage with(int note, int part, int pitch) {
        HymnPage page = Pages.notes(40);
        page.setPitch(note, part, pitch);
        return page;
    }

    /** The same sentence: where there is no pitch, none is out of range; dropped notes have none. */
    private static void transposeOfAnEmptyTune() {
        HymnPage page = new HymnPage();
        Check.same("by 24", 0, page.transpose(24));
        Check.same("by -24", 0, page.transpose(-24));
        Check.same("by -1", 11, page.transpose(-1));
        Check.same("by 1", 0, page.transpose(1));
        HymnPage dropped = Pages.lengths(1, 1);
        dropped.setPitch(1, 3, 36);
        dropped.dropNote();
        Check.same("by -24", 0, dropped.transpose(-24));
    }

    /** "Transposes the tune": the degrees, shapes and raised pitches are as before. */
    private static void transposeLeavesDegrees() {
        HymnPage page = Pages.chord(0, 61, 65, 71, 60);
        for (int i = 0; i < 12; i++) {
            Check.row("degree", new long[] {0, 3, 6, 0}, part -> page.part(0, part, 1));
            Check.row("raised", new long[] {1, 0, 0, 0}, part -> page.part(0, part, 3));
            Check.row("shape", new long[] {-1, 0, 3, 0}, part -> page.part(0, part, 4));
            Check.same("transpose", (i + 1) % 12, page.transpose(1));
        }
        Check.same("pitch", 73, page.part(0, 0, 0));
    }

    /** "the tonic (modulo 12)": whole octaves. */
    private static void transposeBy12LeavesTheTonic() {
        HymnPage page = Pages.chord(11, 72, 72, 72, 72);
        Check.same("by 12", 11, page.transpose(12));
        Check.same("by -12", 11, page.transpose(-12));
        Check.same("by -24", 11, page.transpose(-24));
        Check.same("pitch", 48, page.part(0, 0, 0));
    }

    /** "by how much, -24 to 24": also 0, where the pitches are at both ends. */
    private static void transposeBy0ChangesNothing() {
        HymnPage page = Pages.chord(11, 84, 36, 84, 36);
        long before = page.digest();
        Check.same("by 0", 11, page.transpose(0));
        Check.same("digest", before, page.digest());
        Check.refused("by 1", Check.STATE, () -> Pages.chord(11, 84, 36, 84, 36), p -> p.transpose(1));
        Check.refused("by -1", Check.STATE, () -> Pages.chord(11, 84, 36, 84, 36), p -> p.transpose(-1));
    }
}

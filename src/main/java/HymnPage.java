/**
 * A page of a hymn: a tune in four parts with its bars and repeats, verses below it, a book of
 * metres, and the input text that lines and metres are read from.
 *
 * What follows from the tune and the verses (phrases, sung phrases, columns, systems) is found
 * anew after each change and kept in rows made once, so that a question makes no objects.
 */
public final class HymnPage {

    public static final int NONE = -1;

    private static final int MOST_NOTES = 40;
    private static final int PARTS = 4;
    private static final int LOWEST_PITCH = 36;
    private static final int HIGHEST_PITCH = 84;
    private static final int MOST_REPEATS = 3;
    private static final int VERSES = 4;
    private static final int LINES = 24;
    private static final int MOST_INPUT = 60;
    /** Each syllable but the last one takes a character and a separator of the input. */
    private static final int MOST_SYLLABLES = MOST_INPUT / 2;
    private static final int LONGEST_SYLLABLE = 12;
    private static final int MOST_METRES = 8;
    private static final int MOST_NUMBERS = 24;
    private static final int GREATEST_NUMBER = 20;
    private static final int FIRST_BAR_LENGTH = 4;
    private static final int FIRST_PAGE_WIDTH = 80;
    private static final int LEAST_COLUMN = 3;
    private static final int COUNTS = 14;
    private static final int NOTE_PROPERTIES = 9;
    private static final int PART_PROPERTIES = 6;
    private static final int PHRASE_PROPERTIES = 6;
    private static final int LINE_PROPERTIES = 3;
    private static final int BELOW_PROPERTIES = 4;

    private final Tune tune = new Tune();
    private final Bars bars = new Bars();
    private final Repeats repeats = new Repeats();
    private final Verses verses = new Verses();
    private final Phrases phrases = new Phrases();
    private final Order order = new Order();
    private final Columns columns = new Columns();
    private final Book book = new Book();
    private final Input input = new Input();
    private int pageWidth = FIRST_PAGE_WIDTH;

    public HymnPage() {
    }

    // ---- the tune

    public int begin(int tonic) throws IllegalArgumentException {
        checkRange(tonic, 0, 11);
        int before = tune.size;
        tune.restart(tonic);
        bars.change(FIRST_BAR_LENGTH, 0);
        repeats.size = 0;
        for (int verse = 0; verse < VERSES; verse++) {
            verses.removeLines(verse);
        }
        pageWidth = FIRST_PAGE_WIDTH;
        layOut();
        return before;
    }

    public int addNote(int length, int soprano, int alto, int tenor, int bass)
            throws IllegalArgumentException, IllegalStateException {
        checkRange(length, 1, 8);
        checkPitch(soprano);
        checkPitch(alto);
        checkPitch(tenor);
        checkPitch(bass);
        if (tune.size >= MOST_NOTES) {
            throw new IllegalStateException("the tune has all its notes");
        }
        tune.push(length, soprano, alto, tenor, bass);
        layOut();
        return tune.size - 1;
    }

    public int dropNote() throws IllegalStateException {
        if (tune.size <= 0) {
            throw new IllegalStateException("there are no notes");
        }
        tune.pop();
        layOut();
        return tune.size;
    }

    public int setPitch(int note, int part, int pitch)
            throws IndexOutOfBoundsException, IllegalArgumentException {
        checkIndex(note, tune.size);
        checkIndex(part, PARTS);
        checkPitch(pitch);
        int before = tune.pitchOf(note, part);
        tune.changePitch(note, part, pitch);
        return before;
    }

    public int mark(int note, boolean end, boolean on) throws IndexOutOfBoundsException {
        checkIndex(note, tune.size);
        if (end) {
            tune.endMarks = withBit(tune.endMarks, note, on);
        } else {
            tune.slurMarks = withBit(tune.slurMarks, note, on);
        }
        layOut();
        return phrases.size;
    }

    public int setBars(int length, int upbeat) throws IllegalArgumentException {
        checkRange(length, 2, 24);
        checkRange(upbeat, 0, length - 1);
        int before = bars.length;
        bars.change(length, upbeat);
        return before;
    }

    public int repeat(int first, int last, int skipped)
            throws IndexOutOfBoundsException, IllegalArgumentException, IllegalStateException {
        checkIndex(first, phrases.size);
        checkIndex(last, phrases.size);
        // If last is less than first, no number of skipped phrases is in range.
        checkRange(skipped, 0, last - first);
        if (repeats.size >= MOST_REPEATS) {
            throw new IllegalStateException("there are all the repeats");
        }
        if (repeats.touch(first, last)) {
            throw new IllegalStateException("a repeat has one of these phrases");
        }
        repeats.push(first, last, skipped);
        layOut();
        return order.size;
    }

    public int clearRepeats() {
        int before = repeats.size;
        repeats.size = 0;
        layOut();
        return before;
    }

    public int transpose(int by) throws IllegalArgumentException, IllegalStateException {
        checkRange(by, -24, 24);
        if (!tune.canMove(by)) {
            throw new IllegalStateException("a pitch would be out of range");
        }
        tune.move(by);
        return tune.tonic;
    }

    public int setWidth(int width) throws IllegalArgumentException {
        checkRange(width, 20, 200);
        pageWidth = width;
        layOut();
        return columns.systems;
    }

    // ---- input

    public int append(int code) throws IllegalArgumentException, IllegalStateException {
        checkRange(code, 32, 126);
        if (input.size >= MOST_INPUT) {
            throw new IllegalStateException("the buffer is full");
        }
        input.push(code);
        return input.size;
    }

    public int clearInput() {
        int before = input.size;
        input.size = 0;
        return before;
    }

    public int firstError(boolean metre) {
        return metre ? input.errorAsMetre() : input.errorAsLine();
    }

    public int setLine(int verse, int line)
            throws IndexOutOfBoundsException, IllegalArgumentException {
        checkIndex(verse, VERSES);
        checkIndex(line, LINES);
        if (!input.isLine()) {
            throw new IllegalArgumentException("the buffer is not a complete line");
        }
        verses.take(verse, line, input);
        input.size = 0;
        layOut();
        return verses.syllablesOf(verse, line);
    }

    public int clearVerse(int verse) throws IndexOutOfBoundsException {
        checkIndex(verse, VERSES);
        int before = verses.removeLines(verse);
        layOut();
        return before;
    }

    public int addMetre() throws IllegalArgumentException, IllegalStateException {
        if (!input.isMetre()) {
            throw new IllegalArgumentException("the buffer is not a complete metre");
        }
        if (book.size >= MOST_METRES) {
            throw new IllegalStateException("the book is full");
        }
        book.take(input);
        input.size = 0;
        return book.size - 1;
    }

    public int dropMetre(int metre) throws IndexOutOfBoundsException {
        checkIndex(metre, book.size);
        book.remove(metre);
        return book.size;
    }

    // ---- notes and staves

    public int note(int note, int what)
            throws IndexOutOfBoundsException, IllegalArgumentException {
        checkIndex(note, tune.size);
        checkRange(what, 0, NOTE_PROPERTIES - 1);
        return noteProperty(note, what);
    }

    public int part(int note, int part, int what)
            throws IndexOutOfBoundsException, IllegalArgumentException {
        checkIndex(note, tune.size);
        checkIndex(part, PARTS);
        checkRange(what, 0, PART_PROPERTIES - 1);
        return partProperty(note, part, what);
    }

    public int heads(int note, int staff) throws IndexOutOfBoundsException {
        checkIndex(note, tune.size);
        checkIndex(staff, 2);
        return headsOf(note, staff);
    }

    // ---- phrases and verses

    public int phrase(int phrase, int what)
            throws IndexOutOfBoundsException, IllegalArgumentException {
        checkIndex(phrase, phrases.size);
        checkRange(what, 0, PHRASE_PROPERTIES - 1);
        return phraseProperty(phrase, what);
    }

    public int sung(int number) throws IndexOutOfBoundsException {
        checkIndex(number, order.size);
        return order.phraseAt(number);
    }

    public int fit(int verse) throws IndexOutOfBoundsException {
        checkIndex(verse, VERSES);
        return firstMisfit(verse);
    }

    public int line(int verse, int line, int what)
            throws IndexOutOfBoundsException, IllegalArgumentException {
        checkIndex(verse, VERSES);
        checkIndex(line, LINES);
        checkRange(what, 0, LINE_PROPERTIES - 1);
        return lineProperty(verse, line, what);
    }

    public int below(int verse, int number, int place, int what)
            throws IndexOutOfBoundsException, IllegalArgumentException {
        checkIndex(verse, VERSES);
        checkIndex(number, order.size);
        checkIndex(place, phrases.notesOf(order.phraseAt(number)));
        checkRange(what, 0, BELOW_PROPERTIES - 1);
        return belowProperty(verse, number, place, what);
    }

    // ---- metres

    public int distance(int metre) throws IndexOutOfBoundsException {
        checkIndex(metre, book.size);
        return distanceOf(metre);
    }

    public int nearest() {
        int best = NONE;
        int least = NONE;
        for (int metre = 0; metre < book.size; metre++) {
            int here = distanceOf(metre);
            if (here != NONE && (best == NONE || here < least)) {
                best = metre;
                least = here;
            }
        }
        return best;
    }

    public int metre(int metre, int index) throws IndexOutOfBoundsException {
        checkIndex(metre, book.size);
        if (index < 0 || index >= book.sizeOf(metre)) {
            return NONE;
        }
        return book.numberAt(metre, index);
    }

    // ---- what there is

    public int count(int what) throws IllegalArgumentException {
        checkRange(what, 0, COUNTS - 1);
        return what < 7 ? countOfTune(what) : countOfPage(what);
    }

    public double meanWidth() {
        if (columns.systems <= 0) {
            return 0.0;
        }
        return (double) columns.total / (double) columns.systems;
    }

    public long digest() {
        long hash = 2063L;
        for (int what = 0; what < COUNTS; what++) {
            hash = mixed(hash, what < 7 ? countOfTune(what) : countOfPage(what));
        }
        for (int note = 0; note < tune.size; note++) {
            hash = mixedNote(hash, note);
        }
        hash = mixedPhrases(hash);
        for (int verse = 0; verse < VERSES; verse++) {
            hash = mixedVerse(hash, verse);
        }
        for (int verse = 0; verse < VERSES; verse++) {
            hash = mixedBelow(hash, verse);
        }
        hash = mixedBook(hash);
        hash = mixed(hash, nearest());
        hash = mixed(hash, bitsOf(meanWidth()));
        hash = mixed(hash, input.size);
        for (int i = 0; i < input.size; i++) {
            hash = mixed(hash, input.codeAt(i));
        }
        return hash;
    }

    // ---- what the calls have in common

    private static void checkIndex(int index, int size) throws IndexOutOfBoundsException {
        if (index < 0 || index >= size) {
            throw new IndexOutOfBoundsException("there is no such number");
        }
    }

    private static void checkRange(int value, int least, int most)
            throws IllegalArgumentException {
        if (value < least || value > most) {
            throw new IllegalArgumentException("an argument is out of range");
        }
    }

    private static void checkPitch(int pitch) throws IllegalArgumentException {
        checkRange(pitch, LOWEST_PITCH, HIGHEST_PITCH);
    }

    /** Rows are read and written here alone, so that each index is looked at before its use. */
    private static int at(int[] row, int index) {
        return index >= 0 && index < row.length ? row[index] : 0;
    }

    private static void put(int[] row, int index, int value) {
        if (index >= 0 && index < row.length) {
            row[index] = value;
        }
    }

    private static boolean hasBit(long bits, int index) {
        return ((bits >>> index) & 1L) != 0L;
    }

    private static long withBit(long bits, int index, boolean on) {
        return on ? bits | (1L << index) : bits & ~(1L << index);
    }

    private static int flag(boolean holds) {
        return holds ? 1 : 0;
    }

    /** Each row is found from those before it, so the order of these lines matters. */
    private void layOut() {
        phrases.find(tune);
        repeats.keepWithin(phrases.size);
        order.find(phrases.size, repeats);
        columns.findWidths(phrases, order, verses);
        columns.findSystems(phrases, pageWidth);
    }

    private int noteProperty(int note, int what) {
        int start = tune.startOf(note);
        switch (what) {
            case 0: return tune.lengthOf(note);
            case 1: return flag(phrases.syllableOf(note) == NONE);
            case 2: return phrases.phraseOf(note);
            case 3: return note - phrases.firstOf(phrases.phraseOf(note));
            case 4: return bars.numberAt(start);
            case 5: return bars.unitsBefore(start);
            case 6: return flag(tune.lengthOf(note) > bars.unitsFrom(start));
            case 7: return columns.widthOf(note);
            default: return tune.parallelsTo(note);
        }
    }

    private int partProperty(int note, int part, int what) {
        int pitch = tune.pitchOf(note, part);
        boolean raised = Key.isRaised(tune.tonic, pitch);
        switch (what) {
            case 0: return pitch;
            case 1: return Key.degreeOf(tune.tonic, pitch);
            case 2: return Key.stepOf(tune.tonic, pitch);
            case 3: return flag(raised);
            case 4: return raised ? NONE : Key.shapeOf(tune.tonic, pitch);
            default: return Key.ledgerLines(Key.stepOf(tune.tonic, pitch), part / 2);
        }
    }

    private int headsOf(int note, int staff) {
        int upper = tune.pitchOf(note, 2 * staff);
        int lower = tune.pitchOf(note, 2 * staff + 1);
        int steps = Key.stepOf(tune.tonic, upper) - Key.stepOf(tune.tonic, lower);
        boolean shared = upper == lower;
        boolean moved = !shared && Math.abs(steps) <= 1;
        return flag(shared) + 2 * flag(moved) + 4 * flag(lower > upper);
    }

    private int phraseProperty(int phrase, int what) {
        switch (what) {
            case 0: return phrases.firstOf(phrase);
            case 1: return phrases.lastOf(phrase);
            case 2: return phrases.syllablesOf(phrase);
            case 3: return columns.widthOfPhrase(phrase);
            case 4: return columns.systemOf(phrase);
            default: return order.timesOf(phrase);
        }
    }

    private int syllablesSung(int number) {
        return phrases.syllablesOf(order.phraseAt(number));
    }

    /** A missing line has no syllables, and each sung phrase has one or more. */
    private int firstMisfit(int verse) {
        for (int line = 0; line < LINES; line++) {
            int due = line < order.size ? syllablesSung(line) : 0;
            if (verses.syllablesOf(verse, line) != due) {
                return line;
            }
        }
        return order.size > LINES ? LINES : NONE;
    }

    private int lineProperty(int verse, int line, int what) {
        switch (what) {
            case 0: return verses.syllablesOf(verse, line);
            case 1: return verses.wordsOf(verse, line);
            default: return verses.longestOf(verse, line);
        }
    }

    private int belowProperty(int verse, int number, int place, int what) {
        int note = phrases.firstOf(order.phraseAt(number)) + place;
        int index = phrases.syllableOf(note);
        if (!verses.hasSyllable(verse, number, index)) {
            return NONE;
        }
        switch (what) {
            case 0: return index;
            case 1: return verses.lengthAt(verse, number, index);
            case 2: return verses.signAt(verse, number, index);
            default: return flag(verses.isLinked(verse, number, index));
        }
    }

    private int distanceOf(int metre) {
        if (book.sizeOf(metre) != order.size) {
            return NONE;
        }
        int sum = 0;
        for (int i = 0; i < order.size; i++) {
            sum += Math.abs(book.numberAt(metre, i) - syllablesSung(i));
        }
        return sum;
    }

    private int countOfTune(int what) {
        switch (what) {
            case 0: return tune.size;
            case 1: return tune.tonic;
            case 2: return phrases.size;
            case 3: return order.size;
            case 4: return repeats.size;
            case 5: return bars.length;
            default: return bars.upbeat;
        }
    }

    private int countOfPage(int what) {
        int units = tune.startOf(tune.size);
        switch (what) {
            case 7: return units;
            case 8: return flag(bars.divide(units));
            case 9: return pageWidth;
            case 10: return columns.systems;
            case 11: return book.size;
            case 12: return fittingVerses();
            default: return tune.notesWithParallels();
        }
    }

    private int fittingVerses() {
        int mask = 0;
        for (int verse = 0; verse < VERSES; verse++) {
            if (firstMisfit(verse) == NONE) {
                mask |= 1 << verse;
            }
        }
        return mask;
    }

    private static long mixed(long hash, long value) {
        return 31L * hash + value;
    }

    private long mixedNote(long before, int note) {
        long hash = before;
        for (int what = 0; what < NOTE_PROPERTIES; what++) {
            hash = mixed(hash, noteProperty(note, what));
        }
        for (int part = 0; part < PARTS; part++) {
            for (int what = 0; what < PART_PROPERTIES; what++) {
                hash = mixed(hash, partProperty(note, part, what));
            }
        }
        return mixed(mixed(hash, headsOf(note, 0)), headsOf(note, 1));
    }

    private long mixedPhrases(long before) {
        long hash = before;
        for (int phrase = 0; phrase < phrases.size; phrase++) {
            for (int what = 0; what < PHRASE_PROPERTIES; what++) {
                hash = mixed(hash, phraseProperty(phrase, what));
            }
        }
        for (int number = 0; number < order.size; number++) {
            hash = mixed(hash, order.phraseAt(number));
        }
        return hash;
    }

    private long mixedVerse(long before, int verse) {
        long hash = mixed(before, firstMisfit(verse));
        for (int line = 0; line < LINES; line++) {
            for (int what = 0; what < LINE_PROPERTIES; what++) {
                hash = mixed(hash, lineProperty(verse, line, what));
            }
        }
        return hash;
    }

    private long mixedBelow(long before, int verse) {
        long hash = before;
        int places = order.size > 0 ? phrases.notesOf(order.phraseAt(0)) : 0;
        for (int place = 0; place < places; place++) {
            for (int what = 0; what < BELOW_PROPERTIES; what++) {
                hash = mixed(hash, belowProperty(verse, 0, place, what));
            }
        }
        return hash;
    }

    private long mixedBook(long before) {
        long hash = before;
        for (int metre = 0; metre < book.size; metre++) {
            hash = mixed(hash, distanceOf(metre));
            for (int i = 0; i < book.sizeOf(metre); i++) {
                hash = mixed(hash, book.numberAt(metre, i));
            }
        }
        return hash;
    }

    /**
     * What Double.doubleToLongBits answers, which LANGUAGE.md does not list. A mean width is 0.0
     * or at least that of a column, so no number below 1 comes here but 0.0.
     */
    private static long bitsOf(double value) {
        if (value < 1.0) {
            return 0L;
        }
        double rest = value;
        long exponent = 1023L;
        while (rest >= 2.0 && exponent < 2046L) {
            rest = rest / 2.0;
            exponent++;
        }
        long fraction = (long) ((rest - 1.0) * (double) (1L << 52));
        return (exponent << 52) + fraction;
    }

    /** The notes with their marks, and the tonic. */
    private static final class Tune {

        private final int[] lengths = new int[MOST_NOTES];
        private final int[] pitches = new int[MOST_NOTES * PARTS];
        private long slurMarks = 0L;
        private long endMarks = 0L;
        private int size = 0;
        private int tonic = 0;

        private void restart(int newTonic) {
            size = 0;
            slurMarks = 0L;
            endMarks = 0L;
            tonic = newTonic;
        }

        private void push(int length, int soprano, int alto, int tenor, int bass) {
            put(lengths, size, length);
            changePitch(size, 0, soprano);
            changePitch(size, 1, alto);
            changePitch(size, 2, tenor);
            changePitch(size, 3, bass);
            size++;
        }

        private void pop() {
            size--;
            slurMarks = withBit(slurMarks, size, false);
            endMarks = withBit(endMarks, size, false);
        }

        private int lengthOf(int note) {
            return at(lengths, note);
        }

        private int pitchOf(int note, int part) {
            return at(pitches, note * PARTS + part);
        }

        private void changePitch(int note, int part, int pitch) {
            put(pitches, note * PARTS + part, pitch);
        }

        private int startOf(int note) {
            int units = 0;
            for (int before = 0; before < note; before++) {
                units += lengthOf(before);
            }
            return units;
        }

        private boolean canMove(int by) {
            for (int i = 0; i < size * PARTS; i++) {
                int pitch = at(pitches, i) + by;
                if (pitch < LOWEST_PITCH || pitch > HIGHEST_PITCH) {
                    return false;
                }
            }
            return true;
        }

        private void move(int by) {
            for (int i = 0; i < size * PARTS; i++) {
                put(pitches, i, at(pitches, i) + by);
            }
            tonic = Math.floorMod(tonic + by, 12);
        }

        private int parallelsTo(int note) {
            int mask = 0;
            int pair = 0;
            for (int upper = 0; upper < PARTS; upper++) {
                for (int lower = upper + 1; lower < PARTS; lower++) {
                    if (goParallel(note, upper, lower)) {
                        mask |= 1 << pair;
                    }
                    pair++;
                }
            }
            return mask;
        }

        private boolean goParallel(int note, int upper, int lower) {
            if (note < 1) {
                return false;
            }
            int upperNow = pitchOf(note, upper);
            int lowerNow = pitchOf(note, lower);
            int upperBefore = pitchOf(note - 1, upper);
            int lowerBefore = pitchOf(note - 1, lower);
            boolean bothUp = upperNow > upperBefore && lowerNow > lowerBefore;
            boolean bothDown = upperNow < upperBefore && lowerNow < lowerBefore;
            int apart = Math.floorMod(upperNow - lowerNow, 12);
            return (bothUp || bothDown) && (apart == 0 || apart == 7)
                    && apart == Math.floorMod(upperBefore - lowerBefore, 12);
        }

        private int notesWithParallels() {
            int found = 0;
            for (int note = 0; note < size; note++) {
                found += flag(parallelsTo(note) != 0);
            }
            return found;
        }
    }

    /** How pitches are written in the key of a tonic. */
    private static final class Key {

        private static final int LETTERS = 7;
        /** Both the pitch classes of the letters and the distances of the degrees from the tonic. */
        private static final int[] MAJOR = {0, 2, 4, 5, 7, 9, 11};
        private static final int[] TONIC_LETTERS = {0, 1, 1, 2, 2, 3, 4, 4, 5, 5, 6, 6};
        private static final int[] SHAPES = {0, 1, 2, 0, 1, 2, 3};
        private static final int[] BOTTOM_LINES = {37, 25};

        private static boolean isRaised(int tonic, int pitch) {
            return degreeInKey(tonic, pitch) == NONE;
        }

        /** Next below a pitch that is not in the key there is always one that is. */
        private static int written(int tonic, int pitch) {
            return degreeInKey(tonic, pitch) == NONE ? pitch - 1 : pitch;
        }

        private static int degreeOf(int tonic, int pitch) {
            int degree = degreeInKey(tonic, pitch);
            return degree != NONE ? degree : degreeInKey(tonic, pitch - 1);
        }

        private static int degreeInKey(int tonic, int pitch) {
            int apart = Math.floorMod(pitch - tonic, 12);
            for (int degree = 0; degree < LETTERS; degree++) {
                if (at(MAJOR, degree) == apart) {
                    return degree;
                }
            }
            return NONE;
        }

        /** A pitch may lie below its letter, in another octave than it: hence the 2 added. */
        private static int stepOf(int tonic, int pitch) {
            int letter = (at(TONIC_LETTERS, tonic) + degreeOf(tonic, pitch)) % LETTERS;
            int octave = Math.floorDiv(written(tonic, pitch) - at(MAJOR, letter) + 2, 12);
            return LETTERS * octave + letter;
        }

        private static int shapeOf(int tonic, int pitch) {
            return at(SHAPES, degreeOf(tonic, pitch));
        }

        private static int ledgerLines(int step, int staff) {
            int bottom = at(BOTTOM_LINES, staff);
            int top = bottom + 8;
            if (step > top) {
                return (step - top) / 2;
            }
            return step < bottom ? (bottom - step) / 2 : 0;
        }
    }

    /** The length of bars and the upbeat; a place in the tune is told by the units before it. */
    private static final class Bars {

        private int length = FIRST_BAR_LENGTH;
        private int upbeat = 0;

        private void change(int newLength, int newUpbeat) {
            length = newLength;
            upbeat = newUpbeat;
        }

        private int numberAt(int start) {
            if (start < upbeat || length <= 0) {
                return 0;
            }
            return 1 + (start - upbeat) / length;
        }

        private int unitsBefore(int start) {
            if (start < upbeat || length <= 0) {
                return start;
            }
            return (start - upbeat) % length;
        }

        private int unitsFrom(int start) {
            return (start < upbeat ? upbeat : length) - unitsBefore(start);
        }

        private boolean divide(int units) {
            return length > 0 && units % length == 0;
        }
    }

    /** The repeats, told by numbers of phrases. */
    private static final class Repeats {

        private final int[] firsts = new int[MOST_REPEATS];
        private final int[] lasts = new int[MOST_REPEATS];
        private final int[] skips = new int[MOST_REPEATS];
        private int size = 0;

        private void push(int first, int last, int skipped) {
            put(firsts, size, first);
            put(lasts, size, last);
            put(skips, size, skipped);
            size++;
        }

        private boolean touch(int first, int last) {
            for (int i = 0; i < size; i++) {
                if (first <= at(lasts, i) && at(firsts, i) <= last) {
                    return true;
                }
            }
            return false;
        }

        private void keepWithin(int phrases) {
            int all = size;
            size = 0;
            for (int i = 0; i < all; i++) {
                if (at(lasts, i) < phrases) {
                    push(at(firsts, i), at(lasts, i), at(skips, i));
                }
            }
        }

        private int endingWith(int phrase) {
            for (int i = 0; i < size; i++) {
                if (at(lasts, i) == phrase) {
                    return i;
                }
            }
            return NONE;
        }

        private int firstOf(int repeat) {
            return at(firsts, repeat);
        }

        private int lastAgainOf(int repeat) {
            return at(lasts, repeat) - at(skips, repeat);
        }
    }

    /** Where the phrases begin and end, and which syllable of its phrase each note is sung to. */
    private static final class Phrases {

        private final int[] phraseOfNotes = new int[MOST_NOTES];
        private final int[] syllableOfNotes = new int[MOST_NOTES];
        private final int[] firsts = new int[MOST_NOTES];
        private final int[] lasts = new int[MOST_NOTES];
        private final int[] syllables = new int[MOST_NOTES];
        private int size = 0;

        private void find(Tune tune) {
            size = 0;
            boolean starts = true;
            for (int note = 0; note < tune.size; note++) {
                if (starts) {
                    open(note);
                }
                take(note, !starts && hasBit(tune.slurMarks, note));
                starts = hasBit(tune.endMarks, note);
            }
        }

        private void open(int note) {
            put(firsts, size, note);
            put(syllables, size, 0);
            size++;
        }

        private void take(int note, boolean slurred) {
            int phrase = size - 1;
            put(lasts, phrase, note);
            put(phraseOfNotes, note, phrase);
            put(syllableOfNotes, note, slurred ? NONE : syllablesOf(phrase));
            put(syllables, phrase, syllablesOf(phrase) + flag(!slurred));
        }

        private int phraseOf(int note) {
            return at(phraseOfNotes, note);
        }

        /** NONE for a slurred note. */
        private int syllableOf(int note) {
            return at(syllableOfNotes, note);
        }

        private int firstOf(int phrase) {
            return at(firsts, phrase);
        }

        private int lastOf(int phrase) {
            return at(lasts, phrase);
        }

        private int notesOf(int phrase) {
            return lastOf(phrase) - firstOf(phrase) + 1;
        }

        private int syllablesOf(int phrase) {
            return at(syllables, phrase);
        }
    }

    /** The sung phrases. */
    private static final class Order {

        /** Repeats have no phrases in common, so that no phrase is sung more than twice. */
        private final int[] sungPhrases = new int[2 * MOST_NOTES];
        private final int[] times = new int[MOST_NOTES];
        private int size = 0;

        private void find(int phrases, Repeats repeats) {
            size = 0;
            for (int phrase = 0; phrase < phrases; phrase++) {
                put(times, phrase, 0);
            }
            for (int phrase = 0; phrase < phrases; phrase++) {
                push(phrase);
                int ended = repeats.endingWith(phrase);
                if (ended != NONE) {
                    pushAgain(repeats.firstOf(ended), repeats.lastAgainOf(ended));
                }
            }
        }

        private void pushAgain(int first, int last) {
            for (int phrase = first; phrase <= last; phrase++) {
                push(phrase);
            }
        }

        private void push(int phrase) {
            put(sungPhrases, size, phrase);
            put(times, phrase, timesOf(phrase) + 1);
            size++;
        }

        private int phraseAt(int number) {
            return at(sungPhrases, number);
        }

        private int timesOf(int phrase) {
            return at(times, phrase);
        }
    }

    /** The widths of the columns, and the systems that they fill. */
    private static final class Columns {

        private final int[] widths = new int[MOST_NOTES];
        private final int[] phraseWidths = new int[MOST_NOTES];
        private final int[] systemOfPhrases = new int[MOST_NOTES];
        private int systems = 0;
        private int total = 0;

        private void findWidths(Phrases phrases, Order order, Verses verses) {
            for (int note = 0; note < MOST_NOTES; note++) {
                put(widths, note, LEAST_COLUMN);
            }
            for (int number = 0; number < order.size && number < LINES; number++) {
                int phrase = order.phraseAt(number);
                for (int note = phrases.firstOf(phrase); note <= phrases.lastOf(phrase); note++) {
                    widen(note, verses.widestBelow(number, phrases.syllableOf(note)) + 1);
                }
            }
        }

        private void widen(int note, int width) {
            put(widths, note, Math.max(widthOf(note), width));
        }

        private void findSystems(Phrases phrases, int pageWidth) {
            int system = 0;
            int used = 0;
            total = 0;
            for (int phrase = 0; phrase < phrases.size; phrase++) {
                int width = sumOf(phrases.firstOf(phrase), phrases.lastOf(phrase));
                if (phrase > 0 && used + width > pageWidth) {
                    system++;
                    used = 0;
                }
                used += width;
                total += width;
                put(phraseWidths, phrase, width);
                put(systemOfPhrases, phrase, system);
            }
            systems = phrases.size > 0 ? system + 1 : 0;
        }

        private int sumOf(int first, int last) {
            int sum = 0;
            for (int note = first; note <= last; note++) {
                sum += widthOf(note);
            }
            return sum;
        }

        private int widthOf(int note) {
            return at(widths, note);
        }

        private int widthOfPhrase(int phrase) {
            return at(phraseWidths, phrase);
        }

        private int systemOf(int phrase) {
            return at(systemOfPhrases, phrase);
        }
    }

    /** The lines of all verses; a line that is missing has no syllables. */
    private static final class Verses {

        private static final int LENGTH_SHIFT = 7;
        private static final int LINK_SHIFT = 11;

        private final int[] sizes = new int[VERSES * LINES];
        /** One number holds a syllable's first sign, its length, and whether "-" follows it. */
        private final int[] syllables = new int[VERSES * LINES * MOST_SYLLABLES];

        private void take(int verse, int line, Input input) {
            int row = rowOf(verse, line);
            int sign = 0;
            int length = 0;
            put(sizes, row, 0);
            for (int i = 0; i < input.size; i++) {
                int code = input.codeAt(i);
                if (!Input.isOfSyllable(code)) {
                    push(row, sign, length, code == '-');
                    length = 0;
                } else {
                    sign = length == 0 ? code : sign;
                    length++;
                }
            }
            push(row, sign, length, false);
        }

        private void push(int row, int sign, int length, boolean linked) {
            int size = at(sizes, row);
            int packed = sign + (length << LENGTH_SHIFT) + (flag(linked) << LINK_SHIFT);
            put(syllables, row * MOST_SYLLABLES + size, packed);
            put(sizes, row, size + 1);
        }

        private int removeLines(int verse) {
            int removed = 0;
            for (int line = 0; line < LINES; line++) {
                removed += flag(syllablesOf(verse, line) > 0);
                put(sizes, rowOf(verse, line), 0);
            }
            return removed;
        }

        private int rowOf(int verse, int line) {
            return verse * LINES + line;
        }

        private int syllablesOf(int verse, int line) {
            return at(sizes, rowOf(verse, line));
        }

        private int wordsOf(int verse, int line) {
            int words = 0;
            for (int i = 0; i < syllablesOf(verse, line); i++) {
                words += flag(!isLinked(verse, line, i));
            }
            return words;
        }

        private int longestOf(int verse, int line) {
            int longest = 0;
            for (int i = 0; i < syllablesOf(verse, line); i++) {
                longest = Math.max(longest, lengthAt(verse, line, i));
            }
            return longest;
        }

        /** Also asked for sung phrases without a line, and for slurred notes (index NONE). */
        private boolean hasSyllable(int verse, int line, int index) {
            return line < LINES && index >= 0 && index < syllablesOf(verse, line);
        }

        private int lengthAt(int verse, int line, int index) {
            return (packedAt(verse, line, index) >> LENGTH_SHIFT) & 15;
        }

        private int signAt(int verse, int line, int index) {
            return packedAt(verse, line, index) & 127;
        }

        private boolean isLinked(int verse, int line, int index) {
            return (packedAt(verse, line, index) >> LINK_SHIFT) != 0;
        }

        private int packedAt(int verse, int line, int index) {
            return at(syllables, rowOf(verse, line) * MOST_SYLLABLES + index);
        }

        private int widestBelow(int line, int index) {
            int widest = 0;
            for (int verse = 0; verse < VERSES; verse++) {
                if (hasSyllable(verse, line, index)) {
                    widest = Math.max(widest, lengthAt(verse, line, index));
                }
            }
            return widest;
        }
    }

    /** The metres that were added. */
    private static final class Book {

        private final int[] numbers = new int[MOST_METRES * MOST_NUMBERS];
        private final int[] sizes = new int[MOST_METRES];
        private int size = 0;

        private void take(Input input) {
            put(sizes, size, 0);
            int value = 0;
            for (int i = 0; i < input.size; i++) {
                int code = input.codeAt(i);
                if (Input.isDigit(code)) {
                    value = 10 * value + (code - '0');
                } else if (code == '.') {
                    push(value);
                    value = 0;
                }
            }
            if (value > 0) {
                push(value);
            } else {
                pushAllAgain();
            }
            size++;
        }

        /** The present metre is the one behind the last: it counts when it is whole. */
        private void push(int number) {
            int length = sizeOf(size);
            put(numbers, size * MOST_NUMBERS + length, number);
            put(sizes, size, length + 1);
        }

        private void pushAllAgain() {
            int length = sizeOf(size);
            for (int i = 0; i < length; i++) {
                push(numberAt(size, i));
            }
        }

        private void remove(int metre) {
            size--;
            for (int i = metre; i < size; i++) {
                put(sizes, i, sizeOf(i + 1));
                for (int j = 0; j < sizeOf(i + 1); j++) {
                    put(numbers, i * MOST_NUMBERS + j, numberAt(i + 1, j));
                }
            }
        }

        private int sizeOf(int metre) {
            return at(sizes, metre);
        }

        private int numberAt(int metre, int index) {
            return at(numbers, metre * MOST_NUMBERS + index);
        }
    }

    /** The input buffer, and what it is read as. */
    private static final class Input {

        private final int[] codes = new int[MOST_INPUT];
        private int size = 0;

        private void push(int code) {
            put(codes, size, code);
            size++;
        }

        private int codeAt(int index) {
            return at(codes, index);
        }

        private static boolean isOfSyllable(int code) {
            return code >= 'a' && code <= 'z' || code >= 'A' && code <= 'Z' || code == '\'';
        }

        private static boolean isDigit(int code) {
            return code >= '0' && code <= '9';
        }

        private int errorAsLine() {
            int length = 0;
            for (int i = 0; i < size; i++) {
                int code = codeAt(i);
                if (isOfSyllable(code) && length < LONGEST_SYLLABLE) {
                    length++;
                } else if ((code == '-' || code == ' ') && length > 0) {
                    length = 0;
                } else {
                    return i;
                }
            }
            return size;
        }

        /** The value is 0 where a number or the "D" must begin. */
        private int errorAsMetre() {
            int numbers = 0;
            int value = 0;
            boolean doubled = false;
            for (int i = 0; i < size; i++) {
                int code = codeAt(i);
                if (isDigit(code) && !doubled && goesOn(value, code)) {
                    numbers += flag(value == 0);
                    value = 10 * value + (code - '0');
                } else if (code == '.' && value > 0 && numbers < MOST_NUMBERS) {
                    value = 0;
                } else if (code == 'D' && !doubled && value == 0 && canDouble(numbers)) {
                    doubled = true;
                } else {
                    return i;
                }
            }
            return size;
        }

        private static boolean goesOn(int value, int digit) {
            int next = 10 * value + (digit - '0');
            return next > 0 && next <= GREATEST_NUMBER;
        }

        private static boolean canDouble(int numbers) {
            return numbers > 0 && 2 * numbers <= MOST_NUMBERS;
        }

        private boolean isLine() {
            return size > 0 && errorAsLine() == size && isOfSyllable(codeAt(size - 1));
        }

        private boolean isMetre() {
            int last = codeAt(size - 1);
            return size > 0 && errorAsMetre() == size && (isDigit(last) || last == 'D');
        }
    }
}

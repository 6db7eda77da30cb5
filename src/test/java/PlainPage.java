import java.util.ArrayList;
import java.util.List;

/**
 * The document read a second time, in the plainest way: texts are kept as they were typed, and each
 * answer is found from the notes and texts alone. Answers are those of HymnPage; a call that must
 * throw answers INDEX, ARGUMENT or STATE.
 */
final class PlainPage {

    static final long INDEX = Long.MIN_VALUE;
    static final long ARGUMENT = Long.MIN_VALUE + 1;
    static final long STATE = Long.MIN_VALUE + 2;

    private static final String LETTERS = "c d ef g a b";
    private static final String[] SCALES = {
        "c d e f g a b", "d e f g a b c", "d e f g a b c", "e f g a b c d", "e f g a b c d",
        "f g a b c d e", "g a b c d e f", "g a b c d e f", "a b c d e f g", "a b c d e f g",
        "b c d e f g a", "b c d e f g a"};

    private static final class Note {
        int length;
        int[] pitches;
        boolean slur;
        boolean end;
    }

    private final List<Note> notes = new ArrayList<>();
    private final List<int[]> repeats = new ArrayList<>();
    private final List<List<Integer>> book = new ArrayList<>();
    private final String[][] lines = new String[4][24];
    private int tonic = 0;
    private int barLength = 4;
    private int upbeat = 0;
    private int width = 80;
    private String buffer = "";
    /** Found once between two changes, else the runs would take hours. */
    private List<List<Integer>> phrasesNow;
    private List<Integer> sungNow;
    private int[] columnsNow;
    private List<List<Integer>> systemsNow;

    private void changed() {
        phrasesNow = null;
        sungNow = null;
        columnsNow = null;
        systemsNow = null;
    }

    // ---- the tune

    long begin(int newTonic) {
        if (newTonic < 0 || newTonic > 11) {
            return ARGUMENT;
        }
        long before = notes.size();
        notes.clear();
        repeats.clear();
        for (int verse = 0; verse < 4; verse++) {
            lines[verse] = new String[24];
        }
        tonic = newTonic;
        barLength = 4;
        upbeat = 0;
        width = 80;
        changed();
        return before;
    }

    long addNote(int length, int... pitches) {
        boolean fine = length >= 1 && length <= 8;
        for (int pitch : pitches) {
            fine &= pitch >= 36 && pitch <= 84;
        }
        if (!fine) {
            return ARGUMENT;
        }
        if (notes.size() == 40) {
            return STATE;
        }
        Note note = new Note();
        note.length = length;
        note.pitches = pitches;
        notes.add(note);
        changed();
        return notes.size() - 1;
    }

    long dropNote() {
        if (notes.isEmpty()) {
            return STATE;
        }
        notes.remove(notes.size() - 1);
        removeRepeats();
        return notes.size();
    }

    private void removeRepeats() {
        changed();
        int phrases = phrases().size();
        repeats.removeIf(repeat -> repeat[1] >= phrases);
        changed();
    }

    long setPitch(int note, int part, int pitch) {
        if (note < 0 || note >= notes.size() || part < 0 || part > 3) {
            return INDEX;
        }
        if (pitch < 36 || pitch > 84) {
            return ARGUMENT;
        }
        int before = notes.get(note).pitches[part];
        notes.get(note).pitches[part] = pitch;
        return before;
    }

    long mark(int note, boolean end, boolean on) {
        if (note < 0 || note >= notes.size()) {
            return INDEX;
        }
        if (end) {
            notes.get(note).end = on;
        } else {
            notes.get(note).slur = on;
        }
        removeRepeats();
        return phrases().size();
    }

    long setBars(int length, int newUpbeat) {
        if (length < 2 || length > 24 || newUpbeat < 0 || newUpbeat >= length) {
            return ARGUMENT;
        }
        int before = barLength;
        barLength = length;
        upbeat = newUpbeat;
        return before;
    }

    long repeat(int first, int last, int skipped) {
        int phrases = phrases().size();
        if (first < 0 || first >= phrases || last < 0 || last >= phrases) {
            return INDEX;
        }
        if (last < first || skipped < 0 || skipped > last - first) {
            return ARGUMENT;
        }
        boolean common = false;
        for (int[] other : repeats) {
            for (int phrase = first; phrase <= last; phrase++) {
                common |= phrase >= other[0] && phrase <= other[1];
            }
        }
        if (repeats.size() == 3 || common) {
            return STATE;
        }
        repeats.add(new int[] {first, last, skipped});
        changed();
        return sung().size();
    }

    long clearRepeats() {
        int before = repeats.size();
        repeats.clear();
        changed();
        return before;
    }

    long transpose(int by) {
        if (by < -24 || by > 24) {
            return ARGUMENT;
        }
        for (Note note : notes) {
            for (int pitch : note.pitches) {
                if (pitch + by < 36 || pitch + by > 84) {
                    return STATE;
                }
            }
        }
        for (Note note : notes) {
            for (int part = 0; part < 4; part++) {
                note.pitches[part] += by;
            }
        }
        tonic = (tonic + by + 24) % 12;
        return tonic;
    }

    long setWidth(int newWidth) {
        if (newWidth < 20 || newWidth > 200) {
            return ARGUMENT;
        }
        width = newWidth;
        changed();
        return systems().size();
    }

    // ---- input

    long append(int code) {
        if (code < 32 || code > 126) {
            return ARGUMENT;
        }
        if (buffer.length() == 60) {
            return STATE;
        }
        buffer += (char) code;
        return buffer.length();
    }

    long clearInput() {
        int before = buffer.length();
        buffer = "";
        return before;
    }

    private static boolean isBeginOfLine(String text) {
        return text.matches("(([A-Za-z']{1,12})[- ])*[A-Za-z']{0,12}");
    }

    private static boolean isBeginOfMetre(String text) {
        if (!text.matches("((20|1[0-9]|[1-9])\\.)*(20|1[0-9]|[1-9]|D)?") || text.equals("D")) {
            return false;
        }
        int dots = text.length() - text.replace(".", "").length();
        return dots <= (text.endsWith("D") ? 12 : 23);
    }

    long firstError(boolean metre) {
        for (int i = 0; i < buffer.length(); i++) {
            String text = buffer.substring(0, i + 1);
            if (!(metre ? isBeginOfMetre(text) : isBeginOfLine(text))) {
                return i;
            }
        }
        return buffer.length();
    }

    private boolean isComplete(boolean metre) {
        return !buffer.isEmpty() && firstError(metre) == buffer.length()
                && buffer.matches(metre ? ".*[0-9D]" : ".*[A-Za-z']");
    }

    long setLine(int verse, int line) {
        if (verse < 0 || verse > 3 || line < 0 || line > 23) {
            return INDEX;
        }
        if (!isComplete(false)) {
            return ARGUMENT;
        }
        lines[verse][line] = buffer;
        changed();
        buffer = "";
        return syllables(verse, line).length;
    }

    long clearVerse(int verse) {
        if (verse < 0 || verse > 3) {
            return INDEX;
        }
        int before = 0;
        for (String line : lines[verse]) {
            before += line == null ? 0 : 1;
        }
        lines[verse] = new String[24];
        changed();
        return before;
    }

    long addMetre() {
        if (!isComplete(true)) {
            return ARGUMENT;
        }
        if (book.size() == 8) {
            return STATE;
        }
        List<Integer> metre = new ArrayList<>();
        for (String number : buffer.replace(".D", "").split("\\.")) {
            metre.add(Integer.valueOf(number));
        }
        if (buffer.endsWith("D")) {
            metre.addAll(new ArrayList<>(metre));
        }
        book.add(metre);
        buffer = "";
        return book.size() - 1;
    }

    long dropMetre(int metre) {
        if (metre < 0 || metre >= book.size()) {
            return INDEX;
        }
        book.remove(metre);
        return book.size();
    }

    // ---- what the answers are found from

    private List<List<Integer>> phrases() {
        phrasesNow = phrasesNow == null ? phrasesAnew() : phrasesNow;
        return phrasesNow;
    }

    private List<List<Integer>> phrasesAnew() {
        List<List<Integer>> found = new ArrayList<>();
        List<Integer> phrase = new ArrayList<>();
        for (int i = 0; i < notes.size(); i++) {
            phrase.add(i);
            if (notes.get(i).end || i == notes.size() - 1) {
                found.add(phrase);
                phrase = new ArrayList<>();
            }
        }
        return found;
    }

    /** The notes of a phrase that have syllables. */
    private List<Integer> heads(List<Integer> phrase) {
        List<Integer> found = new ArrayList<>();
        for (int note : phrase) {
            if (note == phrase.get(0) || !notes.get(note).slur) {
                found.add(note);
            }
        }
        return found;
    }

    private List<Integer> sung() {
        sungNow = sungNow == null ? sungAnew() : sungNow;
        return sungNow;
    }

    private List<Integer> sungAnew() {
        List<Integer> found = new ArrayList<>();
        int phrases = phrases().size();
        int phrase = 0;
        while (phrase < phrases) {
            int[] begun = null;
            for (int[] repeat : repeats) {
                begun = repeat[0] == phrase ? repeat : begun;
            }
            if (begun == null) {
                found.add(phrase);
                phrase++;
                continue;
            }
            for (; phrase <= begun[1]; phrase++) {
                found.add(phrase);
            }
            for (int again = begun[0]; again <= begun[1] - begun[2]; again++) {
                found.add(again);
            }
        }
        return found;
    }

    private List<Integer> metreOfTune() {
        List<Integer> found = new ArrayList<>();
        for (int phrase : sung()) {
            found.add(heads(phrases().get(phrase)).size());
        }
        return found;
    }

    private String[] syllables(int verse, int line) {
        String text = lines[verse][line];
        return text == null ? new String[0] : text.split("[- ]");
    }

    private String syllableBelow(int verse, int number, int note) {
        List<Integer> heads = heads(phrases().get(sung().get(number)));
        int index = heads.indexOf(note);
        if (number >= 24 || index < 0 || index >= syllables(verse, number).length) {
            return null;
        }
        return syllables(verse, number)[index];
    }

    private int column(int note) {
        int longest = 0;
        List<Integer> sung = sung();
        for (int number = 0; number < sung.size(); number++) {
            for (int verse = 0; verse < 4; verse++) {
                String syllable = syllableBelow(verse, number, note);
                longest = syllable == null ? longest : Math.max(longest, syllable.length());
            }
        }
        return Math.max(3, longest + 1);
    }

    private int[] columns() {
        columnsNow = columnsNow == null ? columnsAnew() : columnsNow;
        return columnsNow;
    }

    private int[] columnsAnew() {
        int[] widths = new int[notes.size()];
        for (int note = 0; note < widths.length; note++) {
            widths[note] = column(note);
        }
        return widths;
    }

    private static int sum(int[] widths, List<Integer> phrase) {
        int sum = 0;
        for (int note : phrase) {
            sum += widths[note];
        }
        return sum;
    }

    /** The phrases of each system. */
    private List<List<Integer>> systems() {
        systemsNow = systemsNow == null ? systemsAnew() : systemsNow;
        return systemsNow;
    }

    private List<List<Integer>> systemsAnew() {
        List<List<Integer>> found = new ArrayList<>();
        int[] widths = columns();
        int used = 0;
        List<List<Integer>> phrases = phrases();
        for (int phrase = 0; phrase < phrases.size(); phrase++) {
            int here = sum(widths, phrases.get(phrase));
            if (phrase == 0 || used + here > width) {
                found.add(new ArrayList<>());
                used = 0;
            }
            used += here;
            found.get(found.size() - 1).add(phrase);
        }
        return found;
    }

    private boolean inKey(int pitch) {
        int above = (pitch - tonic + 12) % 12;
        return "024579".indexOf((char) ('0' + above)) >= 0 && above < 10 || above == 11;
    }

    private int degree(int pitch) {
        if (!inKey(pitch)) {
            return degree(pitch - 1);
        }
        int above = (pitch - tonic + 12) % 12;
        int degree = 0;
        for (int lower = 0; lower < above; lower++) {
            degree += inKey(tonic + 12 + lower) ? 1 : 0;
        }
        return degree;
    }

    private int step(int pitch) {
        if (!inKey(pitch)) {
            return step(pitch - 1);
        }
        char letter = SCALES[tonic].charAt(2 * degree(pitch));
        int number = "cdefgab".indexOf(letter);
        int place = LETTERS.indexOf(letter) == 5 ? 5 : new int[] {0, 2, 4, 5, 7, 9, 11}[number];
        for (int octave = 0; octave < 10; octave++) {
            if (Math.abs(place + 12 * octave - pitch) <= 2) {
                return 7 * octave + number;
            }
        }
        throw new AssertionError("no octave");
    }

    private int ledgers(int step, int staff) {
        int found = 0;
        int bottom = staff == 0 ? 37 : 25;
        for (int line = bottom + 10; line <= step; line += 2) {
            found++;
        }
        for (int line = bottom - 2; line >= step; line -= 2) {
            found++;
        }
        return found;
    }

    private int parallels(int note) {
        int mask = 0;
        String[] pairs = {"01", "02", "03", "12", "13", "23"};
        for (int pair = 0; note > 0 && pair < 6; pair++) {
            int a = pairs[pair].charAt(0) - '0';
            int b = pairs[pair].charAt(1) - '0';
            int[] old = notes.get(note - 1).pitches;
            int[] now = notes.get(note).pitches;
            int apart = (old[a] - old[b] + 120) % 12;
            boolean same = apart == (now[a] - now[b] + 120) % 12 && (apart == 0 || apart == 7);
            if (same && Integer.signum(now[a] - old[a]) * Integer.signum(now[b] - old[b]) == 1) {
                mask |= 1 << pair;
            }
        }
        return mask;
    }

    // ---- questions

    long note(int note, int what) {
        if (note < 0 || note >= notes.size()) {
            return INDEX;
        }
        if (what < 0 || what > 8) {
            return ARGUMENT;
        }
        int phrase = 0;
        while (!phrases().get(phrase).contains(note)) {
            phrase++;
        }
        if (what >= 4 && what <= 6) {
            return bar(note, what);
        }
        switch (what) {
            case 0: return notes.get(note).length;
            case 1: return heads(phrases().get(phrase)).contains(note) ? 0 : 1;
            case 2: return phrase;
            case 3: return phrases().get(phrase).indexOf(note);
            case 7: return columns()[note];
            default: return parallels(note);
        }
    }

    /** The bars are counted off unit by unit. */
    private long bar(int note, int what) {
        int bar = upbeat > 0 ? 0 : 1;
        int before = 0;
        int left = upbeat > 0 ? upbeat : barLength;
        for (int i = 0; i < note; i++) {
            for (int unit = 0; unit < notes.get(i).length; unit++) {
                before++;
                left--;
                if (left == 0) {
                    bar++;
                    before = 0;
                    left = barLength;
                }
            }
        }
        return what == 4 ? bar : what == 5 ? before : notes.get(note).length > left ? 1 : 0;
    }

    long part(int note, int part, int what) {
        if (note < 0 || note >= notes.size() || part < 0 || part > 3) {
            return INDEX;
        }
        if (what < 0 || what > 5) {
            return ARGUMENT;
        }
        int pitch = notes.get(note).pitches[part];
        switch (what) {
            case 0: return pitch;
            case 1: return degree(pitch);
            case 2: return step(pitch);
            case 3: return inKey(pitch) ? 0 : 1;
            case 4: return inKey(pitch) ? "0120123".charAt(degree(pitch)) - '0' : -1;
            default: return ledgers(step(pitch), part < 2 ? 0 : 1);
        }
    }

    long heads(int note, int staff) {
        if (note < 0 || note >= notes.size() || staff < 0 || staff > 1) {
            return INDEX;
        }
        int upper = notes.get(note).pitches[staff == 0 ? 0 : 2];
        int lower = notes.get(note).pitches[staff == 0 ? 1 : 3];
        if (upper == lower) {
            return 1;
        }
        return (Math.abs(step(upper) - step(lower)) <= 1 ? 2 : 0) + (lower > upper ? 4 : 0);
    }

    long phrase(int phrase, int what) {
        List<List<Integer>> phrases = phrases();
        if (phrase < 0 || phrase >= phrases.size()) {
            return INDEX;
        }
        List<Integer> its = phrases.get(phrase);
        switch (what) {
            case 0: return its.get(0);
            case 1: return its.get(its.size() - 1);
            case 2: return heads(its).size();
            case 3: return sum(columns(), its);
            case 4: return systemOf(phrase);
            case 5: return sung().stream().filter(other -> other == phrase).count();
            default: return ARGUMENT;
        }
    }

    private int systemOf(int phrase) {
        int system = 0;
        while (!systems().get(system).contains(phrase)) {
            system++;
        }
        return system;
    }

    long sung(int number) {
        return number < 0 || number >= sung().size() ? INDEX : sung().get(number);
    }

    long fit(int verse) {
        if (verse < 0 || verse > 3) {
            return INDEX;
        }
        List<Integer> metre = metreOfTune();
        for (int line = 0; line < 24; line++) {
            boolean missing = lines[verse][line] == null;
            if (line >= metre.size() ? !missing
                    : missing || syllables(verse, line).length != metre.get(line)) {
                return line;
            }
        }
        return metre.size() > 24 ? 24 : -1;
    }

    long line(int verse, int line, int what) {
        if (verse < 0 || verse > 3 || line < 0 || line > 23) {
            return INDEX;
        }
        if (what < 0 || what > 2) {
            return ARGUMENT;
        }
        if (lines[verse][line] == null) {
            return 0;
        }
        int longest = 0;
        for (String syllable : syllables(verse, line)) {
            longest = Math.max(longest, syllable.length());
        }
        return what == 0 ? syllables(verse, line).length
                : what == 1 ? lines[verse][line].split(" ").length : longest;
    }

    long below(int verse, int number, int place, int what) {
        if (verse < 0 || verse > 3 || number < 0 || number >= sung().size()) {
            return INDEX;
        }
        List<Integer> phrase = phrases().get(sung().get(number));
        if (place < 0 || place >= phrase.size()) {
            return INDEX;
        }
        if (what < 0 || what > 3) {
            return ARGUMENT;
        }
        String syllable = syllableBelow(verse, number, phrase.get(place));
        if (syllable == null) {
            return -1;
        }
        int index = heads(phrase).indexOf(phrase.get(place));
        switch (what) {
            case 0: return index;
            case 1: return syllable.length();
            case 2: return syllable.charAt(0);
            default: return signBehind(lines[verse][number], index) == '-' ? 1 : 0;
        }
    }

    private static char signBehind(String line, int index) {
        String separators = line.replaceAll("[^- ]", "");
        return index < separators.length() ? separators.charAt(index) : ' ';
    }

    long distance(int metre) {
        if (metre < 0 || metre >= book.size()) {
            return INDEX;
        }
        List<Integer> tune = metreOfTune();
        if (tune.size() != book.get(metre).size()) {
            return -1;
        }
        long sum = 0;
        for (int i = 0; i < tune.size(); i++) {
            sum += Math.abs(tune.get(i) - book.get(metre).get(i));
        }
        return sum;
    }

    long nearest() {
        for (long distance = 0; distance < 2000; distance++) {
            for (int metre = 0; metre < book.size(); metre++) {
                if (distance(metre) == distance) {
                    return metre;
                }
            }
        }
        return -1;
    }

    long metre(int metre, int index) {
        if (metre < 0 || metre >= book.size()) {
            return INDEX;
        }
        return index < 0 || index >= book.get(metre).size() ? -1 : book.get(metre).get(index);
    }

    long count(int what) {
        int units = 0;
        int parallel = 0;
        int fitting = 0;
        for (int i = 0; i < notes.size(); i++) {
            units += notes.get(i).length;
            parallel += parallels(i) == 0 ? 0 : 1;
        }
        for (int verse = 0; verse < 4; verse++) {
            fitting += fit(verse) == -1 ? 1 << verse : 0;
        }
        long[] answers = {notes.size(), tonic, phrases().size(), sung().size(), repeats.size(),
            barLength, upbeat, units, units % barLength == 0 ? 1 : 0, width, systems().size(),
            book.size(), fitting, parallel};
        return what < 0 || what > 13 ? ARGUMENT : answers[what];
    }

    double meanWidth() {
        double sum = 0.0;
        for (int width : columns()) {
            sum += width;
        }
        return notes.isEmpty() ? 0.0 : sum / systems().size();
    }

    private long hash;

    private void mix(long value) {
        hash = 31 * hash + value;
    }

    long digest() {
        hash = 2063;
        for (int what = 0; what <= 13; what++) {
            mix(count(what));
        }
        for (int note = 0; note < notes.size(); note++) {
            mixNote(note);
        }
        for (int phrase = 0; phrase < phrases().size(); phrase++) {
            for (int what = 0; what <= 5; what++) {
                mix(phrase(phrase, what));
            }
        }
        for (int phrase : sung()) {
            mix(phrase);
        }
        mixVerses();
        for (int metre = 0; metre < book.size(); metre++) {
            mix(distance(metre));
            for (int number : book.get(metre)) {
                mix(number);
            }
        }
        mix(nearest());
        mix(Double.doubleToLongBits(meanWidth()));
        mix(buffer.length());
        for (char code : buffer.toCharArray()) {
            mix(code);
        }
        return hash;
    }

    private void mixNote(int note) {
        for (int what = 0; what <= 8; what++) {
            mix(note(note, what));
        }
        for (int part = 0; part < 4; part++) {
            for (int what = 0; what <= 5; what++) {
                mix(part(note, part, what));
            }
        }
        mix(heads(note, 0));
        mix(heads(note, 1));
    }

    private void mixVerses() {
        for (int verse = 0; verse < 4; verse++) {
            mix(fit(verse));
            for (int line = 0; line < 24; line++) {
                for (int what = 0; what <= 2; what++) {
                    mix(line(verse, line, what));
                }
            }
        }
        int places = notes.isEmpty() ? 0 : phrases().get(0).size();
        for (int verse = 0; verse < 4; verse++) {
            for (int place = 0; place < places; place++) {
                for (int what = 0; what <= 3; what++) {
                    mix(below(verse, 0, place, what));
                }
            }
        }
    }
}

/** Promises 1 to 11: a new object and the tune. */
public final class TuneTest {

    public static void main(String[] args) {
        newObject();
        begin();
        addNote();
        dropNote();
        setPitch();
        mark();
        setBars();
        repeat();
        repeatsThatVanish();
        clearRepeats();
        transpose();
        setWidth();
        Check.end("TuneTest");
    }

    private static void newObject() {
        HymnPage page = new HymnPage();
        Check.same("NONE", -1, HymnPage.NONE);
        // An empty verse fits the empty tune.
        Check.row("new count", new long[] {0, 0, 0, 0, 0, 4, 0, 0, 1, 80, 0, 0, 15, 0}, page::count);
        for (int verse = 0; verse < 4; verse++) {
            for (int line = 0; line < 24; line++) {
                Check.same("new line", 0, page.line(verse, line, 0));
            }
        }
        Check.same("new buffer", 0, page.clearInput());
        Check.same("new nearest", HymnPage.NONE, page.nearest());
    }

    private static void begin() {
        HymnPage page = Check.withPhrases(2, 3);
        page.repeat(0, 1, 1);
        page.setBars(6, 5);
        page.setWidth(33);
        page.transpose(3);
        for (int verse = 0; verse < 4; verse++) {
            Check.setLine(page, verse, 7, "a-men");
        }
        Check.addMetre(page, "8.6.8.6");
        Check.type(page, "xy");
        Check.fails("begin(-1)", page, Check.ARGUMENT, () -> page.begin(-1));
        Check.fails("begin(12)", page, Check.ARGUMENT, () -> page.begin(12));
        Check.same("begin(11)", 5, page.begin(11));
        Check.row("count begun", new long[] {0, 11, 0, 0, 0, 4, 0, 0, 1, 80, 0, 1, 15, 0}, page::count);
        Check.row("line gone", new long[4], verse -> page.line(verse, 7, 0));
        Check.same("metre stays", 6, page.metre(0, 3));
        Check.same("buffer stays", 2, page.clearInput());
        Check.same("begin(0)", 0, page.begin(0));
        page.addNote(1, 60, 60, 60, 60);
        page.addNote(1, 60, 60, 60, 60);
        Check.same("marks gone", 1, page.count(2));
        Check.same("repeats gone", 1, page.count(3));
    }

    private static void addNote() {
        HymnPage page = new HymnPage();
        Check.fails("length 0", page, Check.ARGUMENT, () -> page.addNote(0, 60, 60, 60, 60));
        Check.fails("length 9", page, Check.ARGUMENT, () -> page.addNote(9, 60, 60, 60, 60));
        Check.fails("soprano 35", page, Check.ARGUMENT, () -> page.addNote(1, 35, 60, 60, 60));
        Check.fails("alto 85", page, Check.ARGUMENT, () -> page.addNote(1, 60, 85, 60, 60));
        Check.fails("tenor 35", page, Check.ARGUMENT, () -> page.addNote(1, 60, 60, 35, 60));
        Check.fails("bass 85", page, Check.ARGUMENT, () -> page.addNote(1, 60, 60, 60, 85));
        Check.same("addNote", 0, page.addNote(8, 84, 70, 50, 36));
        Check.same("length", 8, page.note(0, 0));
        Check.row("pitch", new long[] {84, 70, 50, 36}, part -> page.part(0, part, 0));
        for (int i = 1; i < 40; i++) {
            Check.same("addNote", i, page.addNote(1, 60, 61, 62, 36 + i));
        }
        Check.row("last pitches", new long[] {60, 61, 62, 75}, part -> page.part(39, part, 0));
        Check.fails("a 41st note", page, Check.STATE, () -> page.addNote(1, 60, 60, 60, 60));
        Check.fails("a bad 41st", page, Check.ARGUMENT, () -> page.addNote(1, 60, 60, 60, 0));
        Check.same("40 notes", 40, page.count(0));
    }

    private static void dropNote() {
        HymnPage page = new HymnPage();
        Check.fails("dropNote of none", page, Check.STATE, page::dropNote);
        page.addNote(1, 60, 60, 60, 60);
        page.addNote(2, 60, 60, 60, 60);
        page.addNote(3, 60, 60, 60, 60);
        page.mark(1, true, true);
        page.mark(2, true, true);
        page.mark(2, false, true);
        Check.same("dropNote", 2, page.dropNote());
        Check.same("one phrase", 1, page.count(2));
        page.mark(1, true, false);
        page.addNote(1, 60, 60, 60, 60);
        Check.same("no slur mark", 0, page.note(2, 1));
        page.addNote(1, 60, 60, 60, 60);
        Check.same("no end mark", 1, page.count(2));
        Check.same("dropNote", 3, page.dropNote());
        Check.same("dropNote", 2, page.dropNote());
        Check.same("dropNote", 1, page.dropNote());
        Check.same("dropNote", 0, page.dropNote());
        Check.fails("dropNote of none", page, Check.STATE, page::dropNote);
    }

    private static void setPitch() {
        HymnPage page = new HymnPage();
        Check.fails("no note", page, Check.INDEX, () -> page.setPitch(0, 0, 60));
        page.addNote(1, 60, 61, 62, 63);
        Check.same("setPitch", 61, page.setPitch(0, 1, 84));
        Check.same("setPitch", 84, page.setPitch(0, 1, 36));
        Check.row("pitch", new long[] {60, 36, 62, 63}, part -> page.part(0, part, 0));
        Check.fails("note -1", page, Check.INDEX, () -> page.setPitch(-1, 0, 60));
        Check.fails("note 1", page, Check.INDEX, () -> page.setPitch(1, 0, 0));
        Check.fails("part -1", page, Check.INDEX, () -> page.setPitch(0, -1, 0));
        Check.fails("part 4", page, Check.INDEX, () -> page.setPitch(0, 4, 60));
        Check.fails("pitch 35", page, Check.ARGUMENT, () -> page.setPitch(0, 0, 35));
        Check.fails("pitch 85", page, Check.ARGUMENT, () -> page.setPitch(0, 0, 85));
    }

    private static void mark() {
        HymnPage page = new HymnPage();
        Check.fails("no note", page, Check.INDEX, () -> page.mark(0, true, true));
        for (int i = 0; i < 5; i++) {
            page.addNote(1, 60, 60, 60, 60);
        }
        Check.same("end 1", 2, page.mark(1, true, true));
        Check.same("end 1 again", 2, page.mark(1, true, true));
        Check.same("end of the last one", 2, page.mark(4, true, true));
        Check.same("end 2", 3, page.mark(2, true, true));
        Check.same("slur 1", 3, page.mark(1, false, true));
        Check.same("slur 3", 3, page.mark(3, false, true));
        Check.row("slurred", new long[] {0, 1, 0, 0, 0}, note -> page.note(note, 1));
        Check.same("end 2 off", 2, page.mark(2, true, false));
        Check.row("slurred", new long[] {0, 1, 0, 1, 0}, note -> page.note(note, 1));
        Check.same("slur 1 off", 2, page.mark(1, false, false));
        Check.same("not slurred", 0, page.note(1, 1));
        Check.same("slur 0", 2, page.mark(0, false, true));
        Check.same("first is not slurred", 0, page.note(0, 1));
        Check.fails("note -1", page, Check.INDEX, () -> page.mark(-1, true, true));
        Check.fails("note 5", page, Check.INDEX, () -> page.mark(5, false, true));
        Check.same("sixth note begins a phrase", 5, page.addNote(1, 60, 60, 60, 60));
        Check.same("phrases", 3, page.count(2));
    }

    private static void setBars() {
        HymnPage page = new HymnPage();
        Check.same("setBars", 4, page.setBars(24, 23));
        Check.same("length", 24, page.count(5));
        Check.same("upbeat", 23, page.count(6));
        Check.same("setBars", 24, page.setBars(2, 0));
        Check.same("setBars", 2, page.setBars(2, 1));
        Check.fails("length 1", page, Check.ARGUMENT, () -> page.setBars(1, 0));
        Check.fails("length 25", page, Check.ARGUMENT, () -> page.setBars(25, 0));
        Check.fails("upbeat -1", page, Check.ARGUMENT, () -> page.setBars(4, -1));
        Check.fails("upbeat 4", page, Check.ARGUMENT, () -> page.setBars(4, 4));
        Check.fails("far length", page, Check.ARGUMENT, () -> page.setBars(Integer.MIN_VALUE, 0));
    }

    private static void repeat() {
        HymnPage page = Check.withPhrases(1, 1, 1, 1, 1, 1, 1, 1);
        Check.fails("first -1", page, Check.INDEX, () -> page.repeat(-1, 0, 0));
        Check.fails("first 8", page, Check.INDEX, () -> page.repeat(8, 7, 0));
        Check.fails("last 8", page, Check.INDEX, () -> page.repeat(7, 8, -1));
        Check.fails("last -1", page, Check.INDEX, () -> page.repeat(0, -1, 0));
        Check.fails("last < first", page, Check.ARGUMENT, () -> page.repeat(2, 1, 0));
        Check.fails("last < first", page, Check.ARGUMENT, () -> page.repeat(3, 1, -2));
        Check.fails("skipped -1", page, Check.ARGUMENT, () -> page.repeat(1, 2, -1));
        Check.fails("skipped 2", page, Check.ARGUMENT, () -> page.repeat(1, 2, 2));
        Check.same("4 to 6", 10, page.repeat(4, 6, 1));
        Check.same("1 to 2", 12, page.repeat(1, 2, 0));
        Check.row("sung", new long[] {0, 1, 2, 1, 2, 3, 4, 5, 6, 4, 5, 7}, page::sung);
        Check.fails("touches 4", page, Check.STATE, () -> page.repeat(3, 4, 0));
        Check.fails("touches 6", page, Check.STATE, () -> page.repeat(6, 7, 0));
        Check.fails("around", page, Check.STATE, () -> page.repeat(0, 3, 0));
        Check.fails("within", page, Check.STATE, () -> page.repeat(5, 5, 0));
        Check.same("3 alone", 13, page.repeat(3, 3, 0));
        Check.fails("a fourth one", page, Check.STATE, () -> page.repeat(7, 7, 0));
        Check.fails("a bad fourth one", page, Check.ARGUMENT, () -> page.repeat(7, 7, 1));
        Check.row("sung", new long[] {0, 1, 2, 1, 2, 3, 3, 4, 5, 6, 4, 5, 7}, page::sung);
        HymnPage empty = new HymnPage();
        Check.fails("no phrases", empty, Check.INDEX, () -> empty.repeat(0, 0, 0));
    }

    private static void repeatsThatVanish() {
        HymnPage page = Check.withPhrases(1, 1, 1, 1);
        page.repeat(2, 3, 1);
        page.repeat(0, 1, 0);
        Check.same("sung", 7, page.count(3));
        page.dropNote();
        Check.same("one is left", 1, page.count(4));
        Check.row("sung", new long[] {0, 1, 0, 1, 2}, page::sung);
        page.addNote(1, 60, 60, 60, 60);
        Check.same("it does not come back", 1, page.count(4));
        Check.same("phrases", 4, page.count(2));
        // The repeat of 0 to 1 stays on these numbers when the phrases get other ones.
        page.mark(0, true, false);
        Check.row("sung", new long[] {0, 1, 0, 1, 2}, page::sung);
        page.mark(1, true, false);
        Check.same("two phrases", 2, page.count(2));
        Check.same("still there", 1, page.count(4));
        page.mark(2, true, false);
        Check.same("one phrase", 1, page.count(2));
        Check.same("gone", 0, page.count(4));
    }

    private static void clearRepeats() {
        HymnPage page = Check.withPhrases(1, 2, 1);
        Check.same("clearRepeats", 0, page.clearRepeats());
        page.repeat(0, 0, 0);
        page.repeat(1, 1, 0);
        Check.same("clearRepeats", 2, page.clearRepeats());
        Check.same("repeats", 0, page.count(4));
        Check.row("sung", new long[] {0, 1, 2}, page::sung);
        Check.same("repeat again", 5, page.repeat(0, 2, 1));
    }

    private static void transpose() {
        HymnPage page = new HymnPage();
        Check.same("an empty tune", 10, page.transpose(-2));
        Check.same("an empty tune", 10, page.transpose(24));
        Check.same("an empty tune", 10, page.transpose(-24));
        page.addNote(1, 83, 60, 60, 38);
        page.addNote(1, 60, 70, 37, 50);
        Check.fails("by -25", page, Check.ARGUMENT, () -> page.transpose(-25));
        Check.fails("by 25", page, Check.ARGUMENT, () -> page.transpose(25));
        Check.fails("by 2", page, Check.STATE, () -> page.transpose(2));
        Check.fails("by -2", page, Check.STATE, () -> page.transpose(-2));
        Check.same("by 0", 10, page.transpose(0));
        Check.same("by 1", 11, page.transpose(1));
        Check.row("pitch", new long[] {84, 61, 61, 39}, part -> page.part(0, part, 0));
        Check.row("pitch", new long[] {61, 71, 38, 51}, part -> page.part(1, part, 0));
        Check.same("by -2", 9, page.transpose(-2));
        Check.same("tonic", 9, page.count(1));
    }

    private static void setWidth() {
        HymnPage page = new HymnPage();
        Check.same("no systems", 0, page.setWidth(20));
        for (int i = 0; i < 6; i++) {
            for (int j = 0; j < 3; j++) {
                page.addNote(1, 60, 60, 60, 60);
            }
            page.mark(3 * i + 2, true, true);
        }
        Check.same("systems", 3, page.count(10));
        Check.same("width 200", 1, page.setWidth(200));
        Check.same("width 54", 1, page.setWidth(54));
        Check.same("width 53", 2, page.setWidth(53));
        Check.same("width 26", 3, page.setWidth(26));
        Check.same("width", 26, page.count(9));
        Check.fails("width 19", page, Check.ARGUMENT, () -> page.setWidth(19));
        Check.fails("width 201", page, Check.ARGUMENT, () -> page.setWidth(201));
    }
}

/**
 * Long runs of calls, drawn by a fixed sequence of numbers: HymnPage must answer as PlainPage does.
 * A run ends with the 512th call on its page; what later ones answer is free.
 */
public final class RunsTest {

    private static final int RUNS = 600;
    private static final int CALLS = 512;
    private static final int BELOWS = 20;

    private long seed;
    private int calls = 0;
    private final HymnPage page = new HymnPage();
    private final PlainPage plain = new PlainPage();

    private RunsTest(int run) {
        seed = 977L * run + 5;
    }

    public static void main(String[] args) {
        for (int run = 0; run < RUNS; run++) {
            RunsTest test = new RunsTest(run);
            test.begin(run);
            for (int i = 0; test.calls < CALLS; i++) {
                test.oneCall(run, i);
            }
        }
        Check.end("RunsTest");
    }

    private int draw(int bound) {
        seed = seed * 6364136223846793005L + 1442695040888963407L;
        return (int) ((seed >>> 33) % bound);
    }

    /** Mostly within 0 to size - 1, sometimes at an edge beyond it or far away. */
    private int index(int size) {
        int kind = draw(60);
        if (kind == 0) {
            return -1;
        }
        if (kind == 1) {
            return size;
        }
        if (kind == 2) {
            return new int[] {Integer.MAX_VALUE, Integer.MIN_VALUE, size + 1, -7, 1 << 30}[draw(5)];
        }
        return size > 0 ? draw(size) : 0;
    }

    private int between(int least, int most) {
        return least + index(most - least + 1);
    }

    private int size(int what) {
        return (int) plain.count(what);
    }

    /** Some runs begin with many notes and marks, so that full tunes come up in them as well. */
    private void begin(int run) {
        String call = "run " + run + ", at first, ";
        for (int notes = draw(45); notes > 0; notes--) {
            addNote(call);
        }
        for (int marks = draw(60); marks > 0; marks--) {
            mark(call);
        }
    }

    private void same(String call, long due, Check.Call got) {
        if (calls == CALLS) {
            return;
        }
        calls++;
        long answer;
        try {
            answer = got.answer();
        } catch (IndexOutOfBoundsException e) {
            answer = e.getClass() == Check.INDEX ? PlainPage.INDEX : PlainPage.INDEX - 1;
        } catch (IllegalArgumentException e) {
            answer = PlainPage.ARGUMENT;
        } catch (IllegalStateException e) {
            answer = PlainPage.STATE;
        }
        Check.same(call, due, answer);
    }

    private void oneCall(int run, int number) {
        String call = "run " + run + ", call " + number + ", ";
        int kind = draw(100);
        if (kind < 45) {
            changeTune(call);
        } else if (kind < 75) {
            input(call);
        } else if (kind < 96) {
            ask(call);
        } else {
            same(call + "digest", plain.digest(), page::digest);
        }
    }

    private void changeTune(String call) {
        int kind = draw(200);
        if (kind < 90) {
            addNote(call);
        } else if (kind < 100) {
            same(call + "dropNote", plain.dropNote(), page::dropNote);
        } else if (kind < 130) {
            mark(call);
        } else if (kind < 160) {
            int first = index(size(2));
            int last = draw(3) == 0 ? index(size(2)) : first + draw(3);
            int skipped = between(0, Math.max(0, last - first));
            same(call + "repeat", plain.repeat(first, last, skipped), () -> page.repeat(first, last, skipped));
        } else {
            changeMore(call, kind - 160);
        }
    }

    private void mark(String call) {
        int note = index(size(0));
        boolean end = draw(3) > 0;
        boolean on = draw(4) > 0;
        same(call + "mark", plain.mark(note, end, on), () -> page.mark(note, end, on));
    }

    private void addNote(String call) {
        int length = between(1, 8);
        int s = between(48, 84);
        int a = draw(4) == 0 ? s - draw(3) : between(44, 80);
        int t = between(40, 72);
        int b = draw(4) == 0 ? t + draw(3) : between(36, 68);
        int kind = draw(3);
        int by = draw(9) - 4;
        if (kind == 0 && size(0) > 0) {
            int last = size(0) - 1;
            int[] p = new int[4];
            for (int part = 0; part < 4; part++) {
                p[part] = (int) plain.part(last, part, 0) + (draw(3) == 0 ? 0 : by);
            }
            same(call + "addNote", plain.addNote(length, p.clone()), () -> page.addNote(length, p[0], p[1], p[2], p[3]));
        } else if (kind == 1) {
            same(call + "addNote", plain.addNote(length, s, s - 7, s - 12, s - 19),
                    () -> page.addNote(length, s, s - 7, s - 12, s - 19));
        } else {
            same(call + "addNote", plain.addNote(length, s, a, t, b), () -> page.addNote(length, s, a, t, b));
        }
    }

    private void changeMore(String call, int kind) {
        if (kind < 10) {
            int note = index(size(0));
            int part = index(4);
            int pitch = between(36, 84);
            same(call + "setPitch", plain.setPitch(note, part, pitch), () -> page.setPitch(note, part, pitch));
        } else if (kind < 18) {
            int length = between(2, 24);
            int upbeat = between(0, Math.max(0, Math.min(length, 24) - 1));
            same(call + "setBars", plain.setBars(length, upbeat), () -> page.setBars(length, upbeat));
        } else if (kind < 28) {
            int by = draw(2) == 0 ? between(-3, 3) : between(-24, 24);
            same(call + "transpose", plain.transpose(by), () -> page.transpose(by));
        } else if (kind < 37) {
            int width = draw(2) == 0 ? between(20, 40) : between(20, 200);
            same(call + "setWidth", plain.setWidth(width), () -> page.setWidth(width));
        } else if (kind < 39) {
            same(call + "clearRepeats", plain.clearRepeats(), page::clearRepeats);
        } else if (draw(4) == 0) {
            int tonic = between(0, 11);
            same(call + "begin", plain.begin(tonic), () -> page.begin(tonic));
        }
    }

    private void input(String call) {
        int kind = draw(40);
        if (kind < 13) {
            typeAll(call, drawLine(true));
            int verse = index(4);
            int line = draw(4) == 0 ? index(24) : index(Math.min(24, size(3)));
            same(call + "setLine", plain.setLine(verse, line), () -> page.setLine(verse, line));
        } else if (kind < 20) {
            typeAll(call, drawMetre());
            same(call + "addMetre", plain.addMetre(), page::addMetre);
        } else if (kind < 26) {
            String signs = draw(2) == 0 ? "aZz'- -b" : "12.0.D89.";
            for (int i = draw(30); i >= 0; i--) {
                append(call, draw(30) == 0 ? between(32, 126) : signs.charAt(draw(signs.length())));
            }
        } else if (kind < 32) {
            same(call + "clearInput", plain.clearInput(), page::clearInput);
        } else if (kind < 34) {
            int metre = index(size(11));
            same(call + "dropMetre", plain.dropMetre(metre), () -> page.dropMetre(metre));
        } else if (kind < 35) {
            int verse = index(4);
            same(call + "clearVerse", plain.clearVerse(verse), () -> page.clearVerse(verse));
        }
        same(call + "firstError", plain.firstError(false), () -> page.firstError(false));
        same(call + "firstError", plain.firstError(true), () -> page.firstError(true));
    }

    private void append(String call, int code) {
        same(call + "append", plain.append(code), () -> page.append(code));
    }

    private void typeAll(String call, String text) {
        if (draw(8) > 0) {
            same(call + "clearInput", plain.clearInput(), page::clearInput);
        }
        for (int i = 0; i < text.length(); i++) {
            append(call, text.charAt(i));
        }
    }

    private String drawLine(boolean small) {
        StringBuilder text = new StringBuilder();
        for (int syllables = draw(small ? 6 : 20); syllables >= 0; syllables--) {
            for (int length = draw(5) == 0 ? draw(13) : draw(5); length >= 0; length--) {
                text.append("abYz'QmL".charAt(draw(8)));
            }
            text.append(syllables == 0 && draw(15) > 0 ? "" : draw(2) == 0 ? "-" : " ");
        }
        return text.toString();
    }

    private String drawMetre() {
        StringBuilder text = new StringBuilder();
        int numbers = draw(5) == 0 ? 11 + draw(15) : Math.max(1, size(3) + draw(2));
        for (int i = 1; i <= numbers; i++) {
            text.append(draw(60) == 0 ? draw(22) : 1 + draw(6)).append(i < numbers ? "." : "");
        }
        return text.append(draw(3) == 0 ? ".D" : "").toString();
    }

    private void ask(String call) {
        int kind = draw(12);
        int note = index(size(0));
        int what = index(9);
        int part = index(4);
        int verse = index(4);
        int number = index(size(3));
        int metre = index(size(11));
        int far = index(24);
        switch (kind) {
            case 0: same(call + "note", plain.note(note, what), () -> page.note(note, what)); break;
            case 1: same(call + "part", plain.part(note, part, what), () -> page.part(note, part, what)); break;
            case 2: same(call + "heads", plain.heads(note, part), () -> page.heads(note, part)); break;
            case 3: same(call + "phrase", plain.phrase(number, what), () -> page.phrase(number, what)); break;
            case 4: same(call + "sung", plain.sung(number), () -> page.sung(number)); break;
            case 5: same(call + "fit", plain.fit(verse), () -> page.fit(verse)); break;
            case 6: same(call + "line", plain.line(verse, far, part), () -> page.line(verse, far, part)); break;
            case 7: same(call + "distance", plain.distance(metre), () -> page.distance(metre)); break;
            case 8: same(call + "nearest", plain.nearest(), page::nearest); break;
            case 9: same(call + "metre", plain.metre(metre, far), () -> page.metre(metre, far)); break;
            case 10: same(call + "count", plain.count(far), () -> page.count(far)); break;
            default: someBelow(call);
        }
        same(call + "meanWidth", Double.doubleToLongBits(plain.meanWidth()),
                () -> Double.doubleToLongBits(page.meanWidth()));
    }

    private void someBelow(String call) {
        int number = index(size(3));
        for (int i = 0; i < BELOWS; i++) {
            int verse = draw(40) == 0 ? index(4) : draw(4);
            int place = draw(7) - 1;
            int what = draw(40) == 0 ? index(4) : draw(4);
            same(call + "below " + verse + " " + number + " " + place + " " + what,
                    plain.below(verse, number, place, what), () -> page.below(verse, number, place, what));
        }
    }
}

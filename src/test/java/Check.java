/** What the tests have in common: each fault is printed, and the end of a test tells if there was one. */
final class Check {

    interface Call {
        long answer();
    }

    static final Class<IndexOutOfBoundsException> INDEX = IndexOutOfBoundsException.class;
    static final Class<IllegalArgumentException> ARGUMENT = IllegalArgumentException.class;
    static final Class<IllegalStateException> STATE = IllegalStateException.class;

    private static int wrong = 0;

    private Check() {
    }

    static void same(String what, long due, long got) {
        if (due != got) {
            fault(what + " answered " + got + ", due is " + due);
        }
    }

    static void same(String what, double due, double got) {
        if (due != got) {
            fault(what + " answered " + got + ", due is " + due);
        }
    }

    /** Answers are told in a row, from the first what on. */
    static void row(String what, long[] due, Answers got) {
        for (int i = 0; i < due.length; i++) {
            same(what + " " + i, due[i], got.at(i));
        }
    }

    interface Answers {
        long at(int index);
    }

    /** The call must throw just this exception, and leave the page as it was. */
    static void fails(String what, HymnPage page, Class<? extends RuntimeException> due, Call call) {
        long before = page.digest();
        try {
            long got = call.answer();
            fault(what + " answered " + got + ", due is " + due.getName());
        } catch (RuntimeException e) {
            if (e.getClass() != due) {
                fault(what + " threw " + e + ", due is " + due.getName());
            }
        }
        if (page.digest() != before) {
            fault(what + " changed the page");
        }
    }

    /** How a page is brought to where a test needs it; each page that it makes is a new one. */
    interface Recipe {
        HymnPage page();
    }

    interface Use {
        long of(HymnPage page);
    }

    /**
     * The call must throw just this exception on such a page, and the page must answer all that
     * may be asked as one does that the call was never made on.
     */
    static void refused(String what, Class<? extends RuntimeException> due, Recipe recipe, Use call) {
        HymnPage page = recipe.page();
        try {
            long got = call.of(page);
            fault(what + " answered " + got + ", due is " + due.getName());
        } catch (RuntimeException e) {
            if (e.getClass() != due) {
                fault(what + " threw " + e + ", due is " + due.getName());
            }
        }
        if (!Whole.of(page).equals(Whole.of(recipe.page()))) {
            fault(what + " changed the page");
        }
    }

    static void fault(String text) {
        wrong++;
        System.out.println(text);
    }

    static void end(String test) {
        System.out.println(test + ": " + (wrong == 0 ? "all as due" : wrong + " faults"));
        if (wrong != 0) {
            System.exit(1);
        }
    }

    static void type(HymnPage page, String text) {
        for (int i = 0; i < text.length(); i++) {
            page.append(text.charAt(i));
        }
    }

    static int setLine(HymnPage page, int verse, int line, String text) {
        type(page, text);
        return page.setLine(verse, line);
    }

    static int addMetre(HymnPage page, String text) {
        type(page, text);
        return page.addMetre();
    }

    /** As many notes of one unit as each number says, each number a phrase. */
    static HymnPage withPhrases(int... notes) {
        HymnPage page = new HymnPage();
        for (int size : notes) {
            int last = -1;
            for (int i = 0; i < size; i++) {
                last = page.addNote(1, 72, 67, 60, 48);
            }
            page.mark(last, true, true);
        }
        return page;
    }
}

import java.util.List;

/** "An object is used for at most 512 calls": each kind of call may be the last of them. */
public final class CallsTest {

    private static final int MOST_CALLS = 512;

    public static void main(String[] args) {
        lastCallOfEachKind();
        allCallsChangeThePage();
        refusedCallsCountAsWell();
        Check.end("CallsTest");
    }

    private static List<Check.Use> eachKind() {
        return List.of(p -> p.begin(3), p -> p.addNote(1, 60, 60, 60, 60), HymnPage::dropNote,
                p -> p.setPitch(0, 0, 60), p -> p.mark(1, true, false), p -> p.setBars(3, 1),
                p -> p.repeat(2, 2, 0), HymnPage::clearRepeats, p -> p.transpose(-7), p -> p.setWidth(200),
                p -> p.append('a'), HymnPage::clearInput, p -> p.firstError(false), p -> p.firstError(true),
                p -> p.setLine(3, 23), p -> p.clearVerse(0), p -> p.dropMetre(0), p -> p.note(5, 7),
                p -> p.part(5, 3, 5), p -> p.heads(5, 1), p -> p.phrase(2, 4), p -> p.sung(3), p -> p.fit(0),
                p -> p.line(0, 0, 2), p -> p.below(0, 0, 1, 2), p -> p.distance(0), HymnPage::nearest,
                p -> p.metre(1, 3), p -> p.count(12), p -> (long) p.meanWidth(), HymnPage::digest);
    }

    /** The ordinary page takes less than 80 calls; some hundred that leave it as it was follow. */
    private static HymnPage usedUpTo(int calls) {
        HymnPage page = Pages.ordinary();
        for (int call = 80; call < calls; call++) {
            page.count(call % 14);
        }
        return page;
    }

    private static void lastCallOfEachKind() {
        for (Check.Use call : eachKind()) {
            Check.same("the 512th call", call.of(Pages.ordinary()), call.of(usedUpTo(MOST_CALLS - 1)));
        }
        Check.Use[] changes = {p -> p.append(' '), p -> p.addNote(1, 60, 60, 60, 60), p -> p.setWidth(20)};
        for (Check.Use change : changes) {
            HymnPage page = usedUpTo(MOST_CALLS - 2);
            change.of(page);
            HymnPage twin = Pages.ordinary();
            change.of(twin);
            Check.same("the digest as the 512th call", twin.digest(), page.digest());
        }
    }

    /** 512 calls that all change the page: 40 notes come and go, more than six times. */
    private static void allCallsChangeThePage() {
        HymnPage page = new HymnPage();
        for (int call = 1; call <= MOST_CALLS; call++) {
            int place = (call - 1) % 80;
            if (place < 40) {
                Check.same("addNote", place, page.addNote(1 + place % 8, 60, 60, 60, 60));
            } else {
                Check.same("dropNote", 79 - place, page.dropNote());
            }
        }
    }

    private static void refusedCallsCountAsWell() {
        HymnPage page = Pages.ordinary();
        for (int call = 80; call < MOST_CALLS; call++) {
            boolean refused = false;
            try {
                page.setBars(call, 0);
            } catch (IllegalArgumentException e) {
                refused = true;
            }
            Check.same("refused", 1, refused ? 1 : 0);
        }
        Check.same("digest", Pages.ordinary().digest(), page.digest());
    }
}

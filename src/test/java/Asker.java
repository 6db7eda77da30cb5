/**
 * Asks as much as is to be asked of pages of one recipe: after some questions the page is made anew,
 * so that no page gets more than the 512 calls that the document speaks of.
 */
final class Asker {

    private static final int QUESTIONS = 100;

    private final Check.Recipe recipe;
    private HymnPage page;
    private int left = 0;

    Asker(Check.Recipe recipe) {
        this.recipe = recipe;
    }

    long ask(Check.Use question) {
        if (left == 0) {
            page = recipe.page();
            left = QUESTIONS;
        }
        left--;
        return question.of(page);
    }
}

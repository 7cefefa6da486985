/**
 * All that can be asked of an object, as one text. What is asked by calls that change it (undo, back, text, by) is
 * asked of objects of their own, made by the same recipe, so that none is used for more than 512 calls.
 */
final class Photo {
    /** Makes an object, always the same one. */
    interface Recipe {
        ClownsMourn make();
    }

    private final StringBuilder seen = new StringBuilder();

    private Photo() {
    }

    static String of(Recipe recipe) {
        Photo photo = new Photo();
        photo.state(recipe.make());
        photo.told(recipe.make());
        photo.laws(recipe.make());
        photo.steps(recipe.make());
        photo.tape(recipe.make());
        ClownsMourn x = recipe.make();
        photo.add("back", x.back());
        photo.state(x);
        return photo.seen.toString();
    }

    private void add(String name, int answer) {
        seen.append(name).append('=').append(answer).append(' ');
    }

    private void state(ClownsMourn x) {
        for (int what = 0; what < 8; what++) {
            add("about" + what, x.about(what));
        }
        add("day", x.is(0));
        add("X", x.is(1));
        add("fault", x.fault(0));
        add("place", x.fault(1));
        for (int house = 0; house < x.about(0); house++) {
            for (int what = 0; what < 7; what++) {
                add("of" + house + what, x.of(house, what));
            }
        }
        for (int clown = 0; clown < x.about(1); clown++) {
            for (int what = 0; what < 5; what++) {
                add("ofClown" + clown + what, x.ofClown(clown, what));
            }
        }
        int laughs = x.book(-1, 0);
        add("book", laughs);
        for (int i = 0; i < laughs; i++) {
            add("book" + i, x.book(i, 0) * 100 + x.book(i, 1) * 10 + x.book(i, 2));
        }
    }

    private void told(ClownsMourn x) {
        for (int fall = 0; fall < 5; fall++) {
            for (int mood = 0; mood < 10; mood++) {
                add("told" + fall + mood, x.told(fall, mood));
            }
        }
        for (int of = 1; of <= 4; of++) {
            for (int clown = 0; clown < of; clown++) {
                add("share" + clown + of, x.share(clown, of, false));
                add("lower" + clown + of, x.share(clown, of, true));
            }
        }
        for (int what = 0; what < 3; what++) {
            add("bears" + what, x.bears(what));
        }
        for (int high = 9; high < 100; high += 10) {
            add("next" + high, x.next(high));
        }
        for (int i = -1; i < 5; i++) {
            add("lessons" + i, x.lessons(i));
            add("matched" + i, x.matched(i));
        }
        add("whose", x.whose());
    }

    private void laws(ClownsMourn x) {
        for (int text = 0; text < x.about(2); text++) {
            x.by(text);
            for (int house = 0; house < x.about(0); house++) {
                add("grows" + text + house, x.of(house, 5));
            }
            for (int clown = 0; clown < x.about(1); clown++) {
                for (int fall = 0; fall < 5; fall += 2) {
                    add("eases" + text + clown + fall, x.eased(clown, fall));
                    add("laughs" + text + clown + fall, x.laughs(clown, fall));
                }
            }
        }
    }

    private void steps(ClownsMourn x) {
        for (int i = 0; i < 30; i++) {
            add("undo", x.undo());
            add("day", x.is(0));
            add("X", x.is(1));
            add("grief", x.of(0, 1) * 100 + x.of(1, 1));
            add("mood", x.of(0, 2) * 10 + x.of(1, 2));
            add("tired", x.ofClown(0, 2) * 10 + x.ofClown(1, 2));
            add("at", x.ofClown(0, 3));
        }
    }

    private void tape(ClownsMourn x) {
        if (x.about(2) == 4) {
            // so that the tape can be read: the image has fewer texts
            x.back();
        }
        int text = x.text();
        add("text", text);
        add("fault", x.fault(0));
        add("place", x.fault(1));
        add("played", x.played(text));
        state(x);
    }
}

/** Promise 14: erase takes the key away and answers whether there was one. */
public final class EraseTest {
    public static void main(String[] args) {
        for (int t = 2; t <= 3; t++) {
            GoppaLockbox box = new GoppaLockbox(25, t);
            Model model = new Model(25, t);
            Check.due("erase(), new", false, box::erase);
            Check.due("search(3)", model.search(3), () -> box.search(3));
            Check.due("seal(2)", model.seal(2), () -> box.seal(2));
            Check.due("erase()", true, box::erase);
            model.erase();
            Keys.same("after erase", box, model);
            Check.due("hide, erased", IllegalStateException.class, () -> box.hide(3));
            Check.due("find, erased", IllegalStateException.class, () -> box.find(3));
            Check.due("seal, erased", IllegalStateException.class, () -> box.seal(2));
            Check.due("open, erased", IllegalStateException.class, () -> box.open(3));
            Check.due("times, erased", 5, () -> box.times(2, 16));
            Check.due("erase() again", false, box::erase);
            failedAttemptBringsNothingBack(box, model);
            Check.due("search(3) again", model.search(3), () -> box.search(3));
            Keys.same("a key again", box, model);
            Check.due("erase(), a key again", true, box::erase);
        }
        Check.finish();
    }

    private static void failedAttemptBringsNothingBack(GoppaLockbox box, Model model) {
        long coins = 0;
        while (model.attempt(coins) == 0) {
            model.erase();
            coins++;
        }
        long failing = coins;
        Check.due("a failing attempt", model.attempt(failing), () -> box.attempt(failing));
        Keys.same("after a failing attempt", box, model);
    }
}

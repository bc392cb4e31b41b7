/** Compares all that can be seen of a box's key with the model's. */
final class Keys {
    static final int CALLS = 107;

    private Keys() {
    }

    static void same(String name, GoppaLockbox box, Model model) {
        for (int k = -1; k <= 33; k++) {
            int i = k;
            Check.due(name + ": coefficient(" + i + ")", model.coefficient(i), () -> box.coefficient(i));
            Check.due(name + ": support(" + i + ")", model.support(i), () -> box.support(i));
            Check.due(name + ": row(" + i + ")", Check.outcome(() -> model.row(i)), () -> box.row(i));
        }
        // A syndrome without a pattern shows the secret; 1 is one, being that of bit 0 alone.
        Check.due(name + ": open(1)", Check.outcome(() -> model.open(1)), () -> box.open(1));
        Check.due(name + ": shared()", model.shared, box::shared);
    }
}

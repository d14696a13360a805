import java.util.function.Consumer;

/** Promises 35 and 36, and what a change is. */
public final class HistoryTest {
    private static final Class<IllegalStateException> STATE = IllegalStateException.class;

    public static void main(String[] args) {
        promise35();
        promise36();
        everyChangeIsUndone();
        noChange();
        undoKeepsTextAndSnapshot();
        Due.end();
    }

    private static void promise35() {
        DivisorLockers x = new DivisorLockers();
        for (int times = 1; times <= 7; times++) {
            x.pass(times);
            Due.same(times + " changes: states()", x.states(), Math.min(times, 4));
        }
    }

    private static void promise36() {
        Due.refused("undo() of nothing", STATE, Made::fresh, DivisorLockers::undo);
        Due.refused("undo() of nothing", STATE, () -> {
            DivisorLockers x = Made.withText("p2;");
            x.pass(1);
            x.keep();
            x.undo();
            return x;
        }, DivisorLockers::undo);
        DivisorLockers x = new DivisorLockers();
        for (int door = 1; door <= 6; door++) {
            x.turnDoor(door);
        }
        for (int left = 3; left >= 0; left--) {
            Due.same("undo()", x.undo(), left);
            Due.same("undo(): openDoors()", x.openDoors(), 2 + left);
            Due.same("undo(): states()", x.states(), left);
        }
        Due.throwing("undo() of the dropped one", STATE, x::undo);
        Due.same("undo() refused: openSet()", x.openSet(), Made.set(1, 2));
        x.turnDoor(7);
        Due.same("undo() again", x.undo(), 0);
        Due.same("undo() again: openSet()", x.openSet(), Made.set(1, 2));
        x.turnDoor(8);
        x.turnDoor(9);
        x.undo();
        x.turnDoor(10);
        Due.same("change behind undo(): openSet()", x.openSet(), Made.set(1, 2, 8, 10));
        Due.same("undo() of the change behind undo()", x.undo(), 1);
        Due.same("undo() of the change behind undo(): openSet()", x.openSet(), Made.set(1, 2, 8));
    }

    private static void undone(String call, Consumer<DivisorLockers> change) {
        String before = Seen.row(Made.used());
        DivisorLockers changed = Made.used();
        change.accept(changed);
        Due.same(call + ": changes something", Seen.row(changed).equals(before), false);
        Due.same(call + ", undone", changed.undo(), 3);
        Due.same(call + ", undone: everything", Seen.row(changed), before);

        DivisorLockers again = Made.used();
        change.accept(again);
        again.undo();
        DivisorLockers other = Made.used();
        other.turnSkip(48);
        other.undo();
        Due.same(call + ", undone: everything as if another was", Seen.of(again), Seen.of(other));
    }

    private static void everyChangeIsUndone() {
        undone("pass(7)", x -> x.pass(7));
        undone("passRow(1, 48)", x -> x.passRow(1, 48));
        undone("turnDoor(25)", x -> x.turnDoor(25));
        undone("turnLock(25)", x -> x.turnLock(25));
        undone("turnSkip(25)", x -> x.turnSkip(25));
        undone("store(1, 0)", x -> x.store(1, 0));
        undone("store(35, 1)", x -> x.store(35, 1));
        undone("takeOut(40)", x -> x.takeOut(40));
        undone("goBack()", DivisorLockers::goBack);
        undone("play()", DivisorLockers::play);
    }

    private static void noChange() {
        DivisorLockers x = new DivisorLockers();
        x.keep();
        x.type('p');
        x.clearText();
        x.wouldBeOpen(1, 48);
        Due.same("no change: states()", x.states(), 0);
        x.play();
        Due.same("play() of nothing: states()", x.states(), 1);
        x.turnSkip(5);
        x.passRow(5, 5);
        Due.same("passRow() of no pass: states()", x.states(), 3);
    }

    private static void undoKeepsTextAndSnapshot() {
        DivisorLockers x = new DivisorLockers();
        x.pass(1);
        Made.text(x, "p2;");
        x.keep();
        x.pass(3);
        x.undo();
        x.undo();
        Due.same("undo(): openDoors()", x.openDoors(), 0);
        Due.same("undo() leaves the snapshot: goBack()", x.goBack(), 48);
        Due.same("undo() leaves the text: play()", x.play(), 1);
        Due.same("undo() leaves the text: openDoors()", x.openDoors(), 24);
        x.undo();
        Due.same("undo() of play() leaves the text", x.clearText(), 3);
        x.pass(1);
        x.undo();
        Due.same("undo() doesn't bring the text back", x.clearText(), 0);
    }
}

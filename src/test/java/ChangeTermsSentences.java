import java.util.LinkedHashMap;
import java.util.Map;
import java.util.function.Consumer;

/** The sentences of "Changes and exceptions" in the terms. */
final class ChangeTermsSentences {
    private ChangeTermsSentences() {
    }

    /** 3 states; all changes are possible: 1 and 48 are open, a hat is behind 48, there are a snapshot and a text. */
    private static DivisorLockers ready() {
        DivisorLockers x = Made.open(1);
        x.keep();
        x.turnDoor(48);
        x.store(48, 1);
        return Made.text(x, "l5;");
    }

    private static Map<String, Consumer<DivisorLockers>> changes() {
        Map<String, Consumer<DivisorLockers>> changes = new LinkedHashMap<>();
        changes.put("pass(48)", x -> x.pass(48));
        changes.put("passRow(1, 48)", x -> x.passRow(1, 48));
        changes.put("turnDoor(1)", x -> x.turnDoor(1));
        changes.put("turnLock(1)", x -> x.turnLock(1));
        changes.put("turnSkip(1)", x -> x.turnSkip(1));
        changes.put("store(1, 0)", x -> x.store(1, 0));
        changes.put("takeOut(48)", x -> x.takeOut(48));
        changes.put("goBack()", DivisorLockers::goBack);
        changes.put("play()", DivisorLockers::play);
        return changes;
    }

    private static Map<String, Consumer<DivisorLockers>> otherCalls() {
        Map<String, Consumer<DivisorLockers>> calls = new LinkedHashMap<>();
        calls.put("isOpen(1)", x -> x.isOpen(1));
        calls.put("isLocked(1)", x -> x.isLocked(1));
        calls.put("turnsOf(1)", x -> x.turnsOf(1));
        calls.put("isSkipped(1)", x -> x.isSkipped(1));
        calls.put("timesOf(1)", x -> x.timesOf(1));
        calls.put("divisorsOf(1)", x -> x.divisorsOf(1));
        calls.put("openDoors()", DivisorLockers::openDoors);
        calls.put("openByTurns()", DivisorLockers::openByTurns);
        calls.put("openSet()", DivisorLockers::openSet);
        calls.put("nextOpen(1)", x -> x.nextOpen(1));
        calls.put("closingPasses()", DivisorLockers::closingPasses);
        calls.put("closingByDivisors()", DivisorLockers::closingByDivisors);
        calls.put("passesToClose()", DivisorLockers::passesToClose);
        calls.put("wouldBeOpen(1, 48)", x -> x.wouldBeOpen(1, 48));
        calls.put("bestPass()", DivisorLockers::bestPass);
        calls.put("whyNot(1, 0)", x -> x.whyNot(1, 0));
        calls.put("thingAt(48)", x -> x.thingAt(48));
        calls.put("thingsOf(0)", x -> x.thingsOf(0));
        calls.put("shutAway()", DivisorLockers::shutAway);
        calls.put("share()", DivisorLockers::share);
        calls.put("shareBits()", DivisorLockers::shareBits);
        calls.put("sumOfParts()", DivisorLockers::sumOfParts);
        calls.put("sumBits()", DivisorLockers::sumBits);
        calls.put("turnsInAll()", DivisorLockers::turnsInAll);
        calls.put("keep()", DivisorLockers::keep);
        calls.put("states()", DivisorLockers::states);
        calls.put("type('p')", x -> x.type('p'));
        calls.put("clearText()", DivisorLockers::clearText);
        return calls;
    }

    @Sentence(of = "Changes and exceptions", says = "The changes are the calls of pass, passRow, turnDoor, turnLock, "
            + "turnSkip, store, takeOut, goBack and play")
    static void eachChangeMakesAState() {
        changes().forEach((call, change) -> {
            DivisorLockers x = ready();
            change.accept(x);
            Due.same(call + ": states()", x.states(), 4);
            Due.same(call + ", undone: undo()", x.undo(), 3);
            Due.same(call + ", undone: everything", Seen.row(x), Seen.row(ready()));
        });
    }

    @Sentence(of = "Changes and exceptions", says = "The changes are the calls of")
    static void noOtherCallMakesAState() {
        otherCalls().forEach((call, other) -> {
            DivisorLockers x = ready();
            other.accept(x);
            Due.same(call + ": states()", x.states(), 3);
            x.undo();
            Due.same(call + ", then undo(): openSet()", x.openSet(), Made.set(1, 48));
            Due.same(call + ", then undo(): thingsOf(1)", x.thingsOf(1), 0);
        });
        DivisorLockers x = ready();
        x.undo();
        Due.same("undo(): states()", x.states(), 2);
    }

    @Sentence(of = "Changes and exceptions", says = "The changes are the calls of pass, passRow")
    static void aChangeThatChangesNothingMakesAState() {
        DivisorLockers x = new DivisorLockers();
        x.play();
        Due.same("play() of no order: states()", x.states(), 1);
        x.keep();
        x.goBack();
        Due.same("goBack() to the same: states()", x.states(), 2);
        x.turnSkip(48);
        x.passRow(48, 48);
        Due.same("passRow() of no pass: states()", x.states(), 4);
        Due.same("undo() of passRow()", x.undo(), 3);
        Due.same("undo() of passRow(): isSkipped(48)", x.isSkipped(48), true);
        Due.same("undo() of turnSkip()", x.undo(), 2);
        Due.same("undo() of turnSkip(): isSkipped(48)", x.isSkipped(48), false);
    }

    @Sentence(of = "Changes and exceptions", says = "that throw nothing.")
    static void aRefusedChangeMakesNoState() {
        DivisorLockers x = new DivisorLockers();
        x.turnLock(2);
        Due.throwing("pass(49)", Due.ARGUMENT, () -> x.pass(49));
        Due.throwing("passRow(2, 1)", Due.ARGUMENT, () -> x.passRow(2, 1));
        Due.throwing("turnDoor(2)", Due.STATE, () -> x.turnDoor(2));
        Due.throwing("turnDoor(0)", Due.ARGUMENT, () -> x.turnDoor(0));
        Due.throwing("turnLock(0)", Due.ARGUMENT, () -> x.turnLock(0));
        Due.throwing("turnSkip(0)", Due.ARGUMENT, () -> x.turnSkip(0));
        Due.throwing("store(1, 0)", Due.STATE, () -> x.store(1, 0));
        Due.throwing("store(1, 2)", Due.ARGUMENT, () -> x.store(1, 2));
        Due.throwing("takeOut(1)", Due.STATE, () -> x.takeOut(1));
        Due.throwing("takeOut(0)", Due.ARGUMENT, () -> x.takeOut(0));
        Due.throwing("goBack()", Due.STATE, x::goBack);
        Made.text(x, "p1;d2;");
        Due.throwing("play()", Due.STATE, x::play);
        Due.same("all refused: states()", x.states(), 1);
        Due.same("all refused: undo()", x.undo(), 0);
        Due.same("all refused, undone: isLocked(2)", x.isLocked(2), false);
    }

    @Sentence(of = "Changes and exceptions", says = "A history of at most 4 states is kept:")
    static void atMost4States() {
        DivisorLockers x = new DivisorLockers();
        for (int changes = 1; changes <= 12; changes++) {
            x.turnDoor(changes);
            Due.same(changes + " changes: states()", x.states(), changes < 4 ? changes : 4);
        }
        for (int left = 3; left >= 0; left--) {
            Due.same("undo()", x.undo(), left);
        }
        Due.throwing("undo() beyond 4 states", Due.STATE, x::undo);
        Due.same("4 of 12 undone: openSet()", x.openSet(), Made.set(1, 2, 3, 4, 5, 6, 7, 8));
    }

    @Sentence(of = "Changes and exceptions", says = "each change records everything before it")
    static void aStateIsEverything() {
        fourUndone("passes, locks, skips, a coat", x -> {
            x.pass(1);
            x.turnLock(1);
            x.turnSkip(1);
            x.store(2, 0);
        });
        fourUndone("a hat out, a coat in its place, by hand, a row", x -> {
            x.takeOut(40);
            x.store(40, 0);
            x.turnDoor(1);
            x.passRow(1, 48);
        });
        fourUndone("not locked, not skipped, a hat, back to the snapshot", x -> {
            x.turnLock(9);
            x.turnSkip(2);
            x.store(20, 1);
            x.goBack();
        });
        fourUndone("orders", x -> {
            x.play();
            x.takeOut(25);
            x.turnDoor(25);
            x.turnLock(25);
        });
    }

    private static void fourUndone(String changes, Consumer<DivisorLockers> action) {
        DivisorLockers x = Made.text(Made.used(), "d3;d2;l3;l3;");
        action.accept(x);
        for (int left = 3; left >= 0; left--) {
            x.undo();
        }
        Due.same(changes + ", undone: everything", Seen.row(x), Seen.row(Made.used()));
    }

    @Sentence(of = "Changes and exceptions", says = "but the text")
    static void aStateIsNotTheText() {
        DivisorLockers x = Made.withText("p1;");
        x.pass(48);
        Made.text(x, "p2;");
        x.undo();
        Due.same("typed behind the change, undone: play()", x.play(), 2);
        x.clearText();
        x.undo();
        Due.same("cleared behind the change, undone: clearText()", x.clearText(), 0);
    }

    @Sentence(of = "Changes and exceptions", says = "and the snapshot,")
    static void aStateIsNotTheSnapshot() {
        DivisorLockers x = new DivisorLockers();
        x.pass(48);
        x.keep();
        x.undo();
        Due.same("kept behind the change, undone: goBack()", x.goBack(), 1);
        x.pass(24);
        x.keep();
        x.undo();
        Due.same("undone: openSet()", x.openSet(), Made.set(48));
        x.goBack();
        Due.same("kept again, undone, goBack(): openSet()", x.openSet(), Made.set(24));
        x.undo();
        x.undo();
        Due.same("goBack() undone: openSet()", x.openSet(), 0L);
        Due.same("goBack() undone, the snapshot stays: goBack()", x.goBack(), 1);
    }

    @Sentence(of = "Changes and exceptions", says = "and if there are 5 states then, the oldest one is dropped.")
    static void theOldestOf5StatesIsDropped() {
        DivisorLockers four = Made.open(1, 2, 3, 4);
        undoAll(four, 4);
        Due.same("4 changes undone: openSet()", four.openSet(), 0L);
        DivisorLockers five = Made.open(1, 2, 3, 4, 5);
        Due.same("5 changes: states()", five.states(), 4);
        five.undo();
        Due.same("the latest of 5 undone: openSet()", five.openSet(), Made.set(1, 2, 3, 4));
        five.turnDoor(6);
        five.turnDoor(7);
        Due.same("the latest two behind it: states()", five.states(), 4);
        undoAll(five, 4);
        Due.same("4 undone: openSet()", five.openSet(), Made.set(1, 2));
        DivisorLockers others = Made.open(1);
        others.keep();
        others.turnLock(1);
        others.turnSkip(1);
        others.goBack();
        others.play();
        undoAll(others, 4);
        Due.same("the states before goBack() and play(): openSet()", others.openSet(), Made.set(1));
        Due.same("the states before goBack() and play(): turnsOf(1)", others.turnsOf(1), 1);
    }

    private static void undoAll(DivisorLockers x, int states) {
        for (int left = states - 1; left >= 0; left--) {
            Due.same("undo()", x.undo(), left);
        }
        Due.throwing("undo() of no state", Due.STATE, x::undo);
    }

    @Sentence(of = "Changes and exceptions", says = "If several exceptions apply to a call, "
            + "the one that its throws clause names first is thrown.")
    static void theFirstOfTwoExceptions() {
        Due.refused("closed, no such kind: store(1, 2)", Due.ARGUMENT, Made::fresh, x -> x.store(1, 2));
        Due.refused("filled, no such kind: store(1, -1)", Due.ARGUMENT, Made::full, x -> x.store(1, -1));
        Due.refused("no such door, no such kind: store(49, 2)", Due.ARGUMENT, Made::fresh, x -> x.store(49, 2));
        Due.refused("no such door: store(0, 0)", Due.ARGUMENT, Made::fresh, x -> x.store(0, 0));
        Due.refused("no such door: takeOut(0)", Due.ARGUMENT, Made::fresh, x -> x.takeOut(0));
        Due.refused("no such door: takeOut(49)", Due.ARGUMENT, Made::fresh, x -> x.takeOut(49));
        Due.refused("none is open: nextOpen(0)", Due.ARGUMENT, Made::fresh, x -> x.nextOpen(0));
        Due.refused("none is open: nextOpen(49)", Due.ARGUMENT, Made::fresh, x -> x.nextOpen(49));
        Due.refused("nothing there: thingAt(0)", Due.ARGUMENT, Made::fresh, x -> x.thingAt(0));
        Due.refused("nothing there: thingAt(49)", Due.ARGUMENT, Made::fresh, x -> x.thingAt(49));
        Due.refused("60 characters: type(31)", Due.ARGUMENT, Made::full, x -> x.type(31));
        Due.refused("60 characters: type(127)", Due.ARGUMENT, Made::full, x -> x.type(127));
        DivisorLockers locked = new DivisorLockers();
        for (int door = 1; door <= 48; door++) {
            locked.turnLock(door);
        }
        Due.throwing("all locked: turnDoor(0)", Due.ARGUMENT, () -> locked.turnDoor(0));
        Due.throwing("all locked: turnDoor(49)", Due.ARGUMENT, () -> locked.turnDoor(49));
    }

    @Sentence(of = "Changes and exceptions", says = "A call that throws an exception changes nothing.")
    static void aCallThatThrowsChangesNothing() {
        Due.refusedAnywhere("pass(0)", Due.ARGUMENT, x -> x.pass(0));
        Due.refusedAnywhere("passRow(2, 1)", Due.ARGUMENT, x -> x.passRow(2, 1));
        Due.refusedAnywhere("passRow(47, 49)", Due.ARGUMENT, x -> x.passRow(47, 49));
        Due.refusedAnywhere("turnDoor(49)", Due.ARGUMENT, x -> x.turnDoor(49));
        Due.refused("turnDoor(9)", Due.STATE, Made::used, x -> x.turnDoor(9));
        Due.refusedAnywhere("turnLock(49)", Due.ARGUMENT, x -> x.turnLock(49));
        Due.refusedAnywhere("turnSkip(49)", Due.ARGUMENT, x -> x.turnSkip(49));
        Due.refusedAnywhere("store(49, 0)", Due.ARGUMENT, x -> x.store(49, 0));
        Due.refusedAnywhere("store(9, 0)", Due.STATE, x -> x.store(9, 0));
        Due.refusedAnywhere("takeOut(49)", Due.ARGUMENT, x -> x.takeOut(49));
        Due.refused("takeOut(25), closed", Due.STATE, Made::used, x -> x.takeOut(25));
        Due.refused("takeOut(1), nothing there", Due.STATE, Made::used, x -> x.takeOut(1));
        Due.refusedAnywhere("nextOpen(0)", Due.ARGUMENT, x -> x.nextOpen(0));
        Due.refused("nextOpen(1)", Due.NO_ELEMENT, Made::fresh, x -> x.nextOpen(1));
        Due.refusedAnywhere("wouldBeOpen(1, 49)", Due.ARGUMENT, x -> x.wouldBeOpen(1, 49));
        Due.refused("thingAt(1)", Due.NO_ELEMENT, Made::used, x -> x.thingAt(1));
        Due.refused("goBack()", Due.STATE, () -> Made.withText("p1;"), DivisorLockers::goBack);
        Due.refused("undo()", Due.STATE, () -> Made.withText("p1;"), DivisorLockers::undo);
        Due.refusedAnywhere("type(127)", Due.ARGUMENT, x -> x.type(127));
        Due.refused("type(112)", Due.STATE, Made::full, x -> x.type(112));
        Due.refused("faultPosition()", Due.NO_ELEMENT, Made::used, DivisorLockers::faultPosition);
        Due.refused("faultReason()", Due.NO_ELEMENT, Made::used, DivisorLockers::faultReason);
        Due.refused("faultCause()", Due.NO_ELEMENT, Made::used, DivisorLockers::faultCause);
        Due.refused("play() of a fault behind orders", Due.STATE, () -> Made.text(Made.used(), "r1,48;l1;p2;d9;"),
                DivisorLockers::play);
    }
}

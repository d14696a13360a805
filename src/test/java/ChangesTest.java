import java.util.NoSuchElementException;

/** Promises 1 to 8. */
public final class ChangesTest {
    private static final Class<IllegalArgumentException> ARGUMENT = IllegalArgumentException.class;
    private static final Class<IllegalStateException> STATE = IllegalStateException.class;
    private static final int[] OUTSIDE = {0, 49, -1, 64, 65, -63, Integer.MIN_VALUE, Integer.MAX_VALUE};

    public static void main(String[] args) {
        promise1();
        promise2();
        promise2Locks();
        promise3();
        promise4();
        promise5();
        promise6();
        promise7();
        promise7Kinds();
        promise8();
        Due.end();
    }

    private static void promise1() {
        DivisorLockers x = new DivisorLockers();
        for (int door = 1; door <= 48; door++) {
            int place = door;
            Due.same("new: isOpen(" + door + ")", x.isOpen(door), false);
            Due.same("new: isLocked(" + door + ")", x.isLocked(door), false);
            Due.same("new: isSkipped(" + door + ")", x.isSkipped(door), false);
            Due.same("new: turnsOf(" + door + ")", x.turnsOf(door), 0);
            Due.same("new: timesOf(" + door + ")", x.timesOf(door), 0);
            Due.throwing("new: thingAt(" + door + ")", NoSuchElementException.class, () -> x.thingAt(place));
        }
        Due.throwing("new: goBack()", STATE, x::goBack);
        Due.throwing("new: undo()", STATE, x::undo);
        Due.same("new: states()", x.states(), 0);
        Due.same("new: clearText()", x.clearText(), 0);
        new DivisorLockers().pass(1);
        Due.same("new: openSet() beside another object", x.openSet(), 0L);
    }

    private static void promise2() {
        for (int number = 1; number <= 48; number++) {
            DivisorLockers x = new DivisorLockers();
            long turned = 0;
            for (int door = 1; door <= 48; door++) {
                turned |= door % number == 0 ? 1L << door : 0L;
            }
            Due.same("pass(" + number + ")", x.pass(number), 48 / number);
            Due.same("pass(" + number + "): openSet()", x.openSet(), turned);
            Due.same("pass(" + number + "): turnsInAll()", x.turnsInAll(), 48 / number);
            Due.same("pass(" + number + "): timesOf", x.timesOf(number), 1);
            Due.same("pass(" + number + ") again", x.pass(number), 0);
            Due.same("pass(" + number + ") again: timesOf", x.timesOf(number), 2);
        }
        for (int number : OUTSIDE) {
            Due.refused("pass(" + number + ")", ARGUMENT, Made::used, x -> x.pass(number));
        }
    }

    private static void promise2Locks() {
        DivisorLockers x = new DivisorLockers();
        x.turnLock(14);
        Due.same("door 14 locked: pass(7)", x.pass(7), 5);
        Due.same("door 14 locked: isOpen(14)", x.isOpen(14), false);
        Due.same("door 14 locked: turnsOf(14)", x.turnsOf(14), 0);
        x.turnLock(48);
        Due.same("door 48 locked: pass(48)", x.pass(48), 5);
        Due.same("door 48 locked: timesOf(48)", x.timesOf(48), 1);
        x.turnSkip(7);
        Due.same("pass 7 skipped: pass(7)", x.pass(7), 0);
        Due.same("pass 7 skipped: timesOf(7)", x.timesOf(7), 2);
        x.turnLock(14);
        Due.same("door 14 unlocked: pass(7)", x.pass(7), 6);
    }

    private static void promise3() {
        DivisorLockers x = new DivisorLockers();
        Due.same("passRow(1, 48)", x.passRow(1, 48), 48);
        Due.same("passRow(1, 48): openSet()", x.openSet(), Made.set(1, 4, 9, 16, 25, 36));
        Due.same("passRow(1, 48): timesOf(48)", x.timesOf(48), 1);
        Due.same("passRow(1, 48): states()", x.states(), 1);
        Due.same("passRow(7, 7)", x.passRow(7, 7), 1);
        Due.same("passRow(48, 48)", x.passRow(48, 48), 1);
        Due.same("passRow: timesOf(48)", x.timesOf(48), 2);

        DivisorLockers skipping = new DivisorLockers();
        skipping.turnSkip(2);
        skipping.turnSkip(4);
        Due.same("skipping: passRow(1, 4)", skipping.passRow(1, 4), 2);
        Due.same("skipping: timesOf(2)", skipping.timesOf(2), 0);
        Due.same("skipping: timesOf(3)", skipping.timesOf(3), 1);
        Due.same("skipping: isOpen(3)", skipping.isOpen(3), false);
        Due.same("skipping: isOpen(4)", skipping.isOpen(4), true);
        Due.same("skipping: passRow(2, 2)", skipping.passRow(2, 2), 0);
        Due.same("skipping: states()", skipping.states(), 4);
        Due.same("skipping: undo() of no pass", skipping.undo(), 3);
        Due.same("skipping: undo() of no pass: openDoors()", skipping.openDoors(), 32);

        for (int number : OUTSIDE) {
            Due.refused("passRow(" + number + ", 5)", ARGUMENT, Made::used, y -> y.passRow(number, 5));
            Due.refused("passRow(5, " + number + ")", ARGUMENT, Made::used, y -> y.passRow(5, number));
            Due.refused("passRow(" + number + ", same)", ARGUMENT, Made::used, y -> y.passRow(number, number));
        }
        Due.refused("passRow(5, 4)", ARGUMENT, Made::used, y -> y.passRow(5, 4));
        Due.refused("passRow(48, 1)", ARGUMENT, Made::used, y -> y.passRow(48, 1));
    }

    private static void promise4() {
        DivisorLockers x = new DivisorLockers();
        for (int door = 1; door <= 48; door++) {
            Due.same("turnDoor(" + door + ")", x.turnDoor(door), true);
            Due.same("turnDoor(" + door + "): openSet()", x.openSet(), 1L << door);
            Due.same("turnDoor(" + door + ") again", x.turnDoor(door), false);
            Due.same("turnDoor(" + door + "): turnsOf", x.turnsOf(door), 2);
        }
        x.turnLock(3);
        Due.throwing("turnDoor(3), locked", STATE, () -> x.turnDoor(3));
        x.turnLock(3);
        Due.same("turnDoor(3), unlocked", x.turnDoor(3), true);
        for (int door : OUTSIDE) {
            Due.refused("turnDoor(" + door + ")", ARGUMENT, Made::used, y -> y.turnDoor(door));
        }
        Due.refused("turnDoor(9), locked and open", STATE, Made::used, y -> y.turnDoor(9));
        Due.refused("turnDoor(10), locked", STATE, Made::used, y -> y.turnDoor(10));
    }

    private static void promise5() {
        DivisorLockers x = new DivisorLockers();
        x.turnDoor(20);
        Due.same("turnLock(20)", x.turnLock(20), true);
        Due.same("turnLock(20): isOpen(20)", x.isOpen(20), true);
        Due.same("turnLock(20): turnsOf(20)", x.turnsOf(20), 1);
        Due.same("turnLock(20) again", x.turnLock(20), false);
        Due.same("turnLock(20) again: isOpen(20)", x.isOpen(20), true);
        Due.same("turnLock(1)", x.turnLock(1), true);
        Due.same("turnLock(48)", x.turnLock(48), true);
        Due.same("turnLock(48): isOpen(48)", x.isOpen(48), false);
        Due.same("turnLock(48): states()", x.states(), 4);
        for (int door : OUTSIDE) {
            Due.refused("turnLock(" + door + ")", ARGUMENT, Made::used, y -> y.turnLock(door));
        }
    }

    private static void promise6() {
        DivisorLockers x = new DivisorLockers();
        for (int number = 1; number <= 48; number++) {
            Due.same("turnSkip(" + number + ")", x.turnSkip(number), true);
        }
        Due.same("all skipped: passRow(1, 48)", x.passRow(1, 48), 0);
        Due.same("turnSkip(48) again", x.turnSkip(48), false);
        Due.same("turnSkip(1) again", x.turnSkip(1), false);
        Due.same("two not skipped: passRow(1, 48)", x.passRow(1, 48), 2);
        Due.same("turnSkip: states()", x.states(), 4);
        for (int number : OUTSIDE) {
            Due.refused("turnSkip(" + number + ")", ARGUMENT, Made::used, y -> y.turnSkip(number));
        }
    }

    private static void promise7() {
        DivisorLockers x = new DivisorLockers();
        x.pass(1);
        Due.same("store(1, 0)", x.store(1, 0), 1);
        Due.same("store(17, 1)", x.store(17, 1), 1);
        Due.same("store(40, 0)", x.store(40, 0), 2);
        Due.same("store(48, 1)", x.store(48, 1), 2);
        Due.same("store: states()", x.states(), 4);
        x.turnLock(2);
        Due.same("store(2, 0), locked and open", x.store(2, 0), 3);
        x.takeOut(17);
        Due.same("store(18, 1) behind takeOut(17)", x.store(18, 1), 2);
        x.takeOut(48);
        Due.same("store(48, 0) behind takeOut(48)", x.store(48, 0), 4);
        Due.same("store(48, 0): thingAt(48)", x.thingAt(48), 0);

        for (int number : OUTSIDE) {
            Due.refused("store(" + number + ", 0)", ARGUMENT, Made::used, y -> y.store(number, 0));
        }
        for (int kind : new int[] {-1, 2, 3, Integer.MIN_VALUE, Integer.MAX_VALUE}) {
            Due.refused("store(1, " + kind + "), open", ARGUMENT, Made::used, y -> y.store(1, kind));
            Due.refused("store(2, " + kind + "), closed", ARGUMENT, Made::used, y -> y.store(2, kind));
            Due.refused("store(9, " + kind + "), filled", ARGUMENT, Made::used, y -> y.store(9, kind));
        }
        Due.refused("store(2, 0), closed", STATE, Made::used, y -> y.store(2, 0));
        Due.refused("store(9, 0), filled", STATE, Made::used, y -> y.store(9, 0));
        Due.refused("store(1, 1), hat among coats", STATE, Made::used, y -> y.store(1, 1));
    }

    private static void promise7Kinds() {
        DivisorLockers x = new DivisorLockers();
        x.pass(1);
        for (int door = 1; door <= 48; door++) {
            int place = door;
            boolean forCoats = door <= 16 || door >= 33;
            boolean forHats = door >= 17;
            if (forCoats) {
                Due.same("store(" + door + ", 0): thingAt", x.store(door, 0) > 0 ? x.thingAt(door) : -1, 0);
                x.takeOut(door);
            } else {
                Due.throwing("store(" + door + ", 0)", STATE, () -> x.store(place, 0));
            }
            if (forHats) {
                Due.same("store(" + door + ", 1): thingAt", x.store(door, 1) > 0 ? x.thingAt(door) : -1, 1);
            } else {
                Due.throwing("store(" + door + ", 1)", STATE, () -> x.store(place, 1));
            }
        }
    }

    private static void promise8() {
        DivisorLockers x = new DivisorLockers();
        x.pass(1);
        x.store(3, 0);
        x.store(33, 1);
        x.store(34, 0);
        x.turnLock(34);
        Due.same("takeOut(33)", x.takeOut(33), 1);
        Due.same("takeOut(33): thingsOf(1)", x.thingsOf(1), 0);
        Due.same("takeOut(34), locked and open", x.takeOut(34), 0);
        Due.same("takeOut(34): thingsOf(0)", x.thingsOf(0), 1);
        Due.same("takeOut(34): states()", x.states(), 4);
        Due.throwing("takeOut(33) again", STATE, () -> x.takeOut(33));
        x.turnDoor(3);
        Due.throwing("takeOut(3), closed", STATE, () -> x.takeOut(3));
        x.turnDoor(3);
        Due.same("takeOut(3), open again", x.takeOut(3), 0);
        for (int door : OUTSIDE) {
            Due.refused("takeOut(" + door + ")", ARGUMENT, Made::used, y -> y.takeOut(door));
        }
        Due.refused("takeOut(1), nothing there", STATE, Made::used, y -> y.takeOut(1));
        Due.refused("takeOut(25), closed", STATE, Made::used, y -> y.takeOut(25));
    }
}

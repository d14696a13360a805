import java.util.NoSuchElementException;

/** Promises 9 to 18. */
public final class DoorsTest {
    private static final Class<IllegalArgumentException> ARGUMENT = IllegalArgumentException.class;
    private static final int[] OUTSIDE = {0, 49, -1, 64, 65, -63, Integer.MIN_VALUE, Integer.MAX_VALUE};

    public static void main(String[] args) {
        promises9And10();
        promise11();
        promises12And13();
        promise14();
        promises15To17();
        promise18();
        wrongInputs();
        Due.end();
    }

    private static void promises9And10() {
        DivisorLockers x = new DivisorLockers();
        x.passRow(1, 48);
        for (int door = 1; door <= 48; door++) {
            int root = (int) Math.sqrt(door);
            Due.same("squares: isOpen(" + door + ")", x.isOpen(door), root * root == door);
        }
        x.turnLock(1);
        x.turnLock(48);
        for (int door = 1; door <= 48; door++) {
            Due.same("isLocked(" + door + ")", x.isLocked(door), door == 1 || door == 48);
        }
        x.turnLock(1);
        Due.same("isLocked(1), unlocked", x.isLocked(1), false);
    }

    private static void promise11() {
        DivisorLockers x = new DivisorLockers();
        x.passRow(1, 48);
        x.turnDoor(6);
        x.turnDoor(6);
        x.turnDoor(6);
        x.turnLock(12);
        x.pass(6);
        Due.same("turnsOf(6), by hand, too", x.turnsOf(6), 8);
        Due.same("turnsOf(12), locked", x.turnsOf(12), 6);
        Due.same("turnsOf(18)", x.turnsOf(18), 7);
        Due.same("turnsOf(1)", x.turnsOf(1), 1);
        Due.same("turnsOf(48)", x.turnsOf(48), 11);
    }

    private static void promises12And13() {
        DivisorLockers x = new DivisorLockers();
        x.turnSkip(1);
        x.turnSkip(48);
        for (int number = 1; number <= 48; number++) {
            Due.same("isSkipped(" + number + ")", x.isSkipped(number), number == 1 || number == 48);
        }
        x.turnSkip(48);
        Due.same("isSkipped(48), not any more", x.isSkipped(48), false);
        x.passRow(1, 3);
        x.passRow(2, 2);
        Due.same("timesOf(1), skipped", x.timesOf(1), 0);
        Due.same("timesOf(2)", x.timesOf(2), 2);
        Due.same("timesOf(3)", x.timesOf(3), 1);
        Due.same("timesOf(4)", x.timesOf(4), 0);
        x.wouldBeOpen(1, 48);
        x.bestPass();
        Due.same("timesOf(4), only asked for", x.timesOf(4), 0);
        Due.same("timesOf(48)", x.timesOf(48), 0);
    }

    private static void promise14() {
        int[] divisors = {1, 2, 2, 3, 2, 4, 2, 4, 3, 4, 2, 6, 2, 4, 4, 5, 2, 6, 2, 6, 4, 4, 2, 8,
            3, 4, 4, 6, 2, 8, 2, 6, 4, 4, 4, 9, 2, 4, 4, 8, 2, 8, 2, 6, 6, 4, 2, 10};
        DivisorLockers x = new DivisorLockers();
        x.turnSkip(2);
        x.turnLock(6);
        for (int number = 1; number <= 48; number++) {
            Due.same("divisorsOf(" + number + ")", x.divisorsOf(number), divisors[number - 1]);
        }
    }

    private static void promises15To17() {
        DivisorLockers x = new DivisorLockers();
        Due.same("new: openDoors()", x.openDoors(), 0);
        Due.same("new: openByTurns()", x.openByTurns(), 0);
        Due.same("new: openSet()", x.openSet(), 0L);
        x.pass(1);
        Due.same("pass(1): openDoors()", x.openDoors(), 48);
        Due.same("pass(1): openByTurns()", x.openByTurns(), 48);
        Due.same("pass(1): openSet()", x.openSet(), (1L << 49) - 2);
        x.pass(2);
        x.turnDoor(2);
        x.turnLock(3);
        x.pass(3);
        Due.same("openDoors()", x.openDoors(), 48 - 24 + 1 - 7 + 8);
        Due.same("openByTurns()", x.openByTurns(), 48 - 24 + 1 - 7 + 8);
    }

    private static void promise18() {
        DivisorLockers x = new DivisorLockers();
        Due.throwing("new: nextOpen(1)", NoSuchElementException.class, () -> x.nextOpen(1));
        x.turnDoor(1);
        x.turnDoor(20);
        Due.same("nextOpen(1)", x.nextOpen(1), 1);
        Due.same("nextOpen(2)", x.nextOpen(2), 20);
        Due.same("nextOpen(20)", x.nextOpen(20), 20);
        Due.throwing("nextOpen(21)", NoSuchElementException.class, () -> x.nextOpen(21));
        Due.throwing("nextOpen(48)", NoSuchElementException.class, () -> x.nextOpen(48));
        x.turnDoor(48);
        Due.same("nextOpen(21) with 48", x.nextOpen(21), 48);
        Due.same("nextOpen(48) with 48", x.nextOpen(48), 48);
        Due.refused("nextOpen(46)", NoSuchElementException.class, Made::used, y -> y.nextOpen(46));
    }

    private static void wrongInputs() {
        for (int number : OUTSIDE) {
            Due.refused("isOpen(" + number + ")", ARGUMENT, Made::used, y -> y.isOpen(number));
            Due.refused("isLocked(" + number + ")", ARGUMENT, Made::used, y -> y.isLocked(number));
            Due.refused("turnsOf(" + number + ")", ARGUMENT, Made::used, y -> y.turnsOf(number));
            Due.refused("isSkipped(" + number + ")", ARGUMENT, Made::used, y -> y.isSkipped(number));
            Due.refused("timesOf(" + number + ")", ARGUMENT, Made::used, y -> y.timesOf(number));
            Due.refused("divisorsOf(" + number + ")", ARGUMENT, Made::used, y -> y.divisorsOf(number));
            Due.refused("nextOpen(" + number + ")", ARGUMENT, Made::fresh, y -> y.nextOpen(number));
            Due.refused("nextOpen(" + number + ")", ARGUMENT, Made::used, y -> y.nextOpen(number));
        }
        Due.asking("questions about doors and passes", Made::used, y -> {
            y.isOpen(1);
            y.isLocked(1);
            y.turnsOf(1);
            y.isSkipped(1);
            y.timesOf(1);
            y.divisorsOf(1);
            y.openDoors();
            y.openByTurns();
            y.openSet();
            y.nextOpen(1);
        });
    }
}

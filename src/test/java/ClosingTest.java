/** Promises 19 to 23. */
public final class ClosingTest {
    private static final Class<IllegalArgumentException> ARGUMENT = IllegalArgumentException.class;
    private static final int[] OUTSIDE = {0, 49, -1, 64, 65, -63, Integer.MIN_VALUE, Integer.MAX_VALUE};

    public static void main(String[] args) {
        closingOneDoor();
        closingManyDoors();
        closingLockedDoors();
        promise22();
        promise23();
        wrongInputs();
        Due.end();
    }

    private static void closing(String where, DivisorLockers x, long passes) {
        Due.same(where + ": closingPasses()", x.closingPasses(), passes);
        Due.same(where + ": closingByDivisors()", x.closingByDivisors(), passes);
        Due.same(where + ": passesToClose()", x.passesToClose(), Long.bitCount(passes));
    }

    /** One open door d is closed by the passes d * m, where no square above 1 divides m. */
    private static void closingOneDoor() {
        closing("new", new DivisorLockers(), 0L);
        for (int door = 1; door <= 48; door++) {
            DivisorLockers x = new DivisorLockers();
            x.turnDoor(door);
            long passes = 0;
            for (int times = 1; times * door <= 48; times++) {
                boolean free = true;
                for (int square : new int[] {4, 9, 16, 25, 36}) {
                    free &= times % square != 0;
                }
                passes |= free ? 1L << times * door : 0L;
            }
            closing("door " + door, x, passes);
        }
    }

    private static void closingManyDoors() {
        DivisorLockers x = new DivisorLockers();
        x.pass(3);
        x.pass(10);
        x.pass(48);
        closing("three passes", x, Made.set(3, 10, 48));
        x.pass(10);
        closing("two passes", x, Made.set(3, 48));
        x.turnDoor(7);
        long passes = x.closingPasses();
        for (int number = 1; number <= 48; number++) {
            if ((passes >> number & 1) == 1) {
                x.pass(number);
            }
        }
        Due.same("closing passes made: openDoors()", x.openDoors(), 0);
        closing("closing passes made", x, 0L);
    }

    private static void closingLockedDoors() {
        DivisorLockers x = new DivisorLockers();
        x.pass(6);
        x.turnLock(6);
        x.turnLock(12);
        x.turnSkip(6);
        closing("locked and skipped", x, Made.set(6));
    }

    private static void promise22() {
        DivisorLockers x = new DivisorLockers();
        Due.same("wouldBeOpen(1, 48)", x.wouldBeOpen(1, 48), 6);
        Due.same("wouldBeOpen(1, 1)", x.wouldBeOpen(1, 1), 48);
        Due.same("wouldBeOpen(48, 48)", x.wouldBeOpen(48, 48), 1);
        Due.same("wouldBeOpen(2, 3)", x.wouldBeOpen(2, 3), 24 + 16 - 2 * 8);
        x.turnSkip(2);
        Due.same("2 skipped: wouldBeOpen(2, 3)", x.wouldBeOpen(2, 3), 16);
        Due.same("2 skipped: wouldBeOpen(2, 2)", x.wouldBeOpen(2, 2), 0);
        x.turnLock(3);
        Due.same("3 locked: wouldBeOpen(2, 3)", x.wouldBeOpen(2, 3), 15);
        x.turnDoor(1);
        x.turnDoor(6);
        Due.same("1 and 6 open: wouldBeOpen(2, 3)", x.wouldBeOpen(2, 3), 15);
        x.turnLock(6);
        Due.same("6 open and locked: wouldBeOpen(2, 3)", x.wouldBeOpen(2, 3), 16);
        for (int number = 1; number <= 48; number++) {
            DivisorLockers y = Made.used();
            int would = y.wouldBeOpen(number, 48);
            y.passRow(number, 48);
            Due.same("wouldBeOpen(" + number + ", 48)", would, y.openDoors());
        }
    }

    private static void promise23() {
        DivisorLockers x = new DivisorLockers();
        Due.same("new: bestPass()", x.bestPass(), 25);
        x.turnLock(25);
        Due.same("25 locked: bestPass()", x.bestPass(), 25);
        x.turnLock(25);
        x.turnLock(30);
        Due.same("30 locked: bestPass()", x.bestPass(), 30);
        x.pass(5);
        Due.same("pass 5 made: bestPass()", x.bestPass(), 5);
        x.turnSkip(5);
        Due.same("pass 5 skipped: bestPass()", x.bestPass(), 5);
        DivisorLockers all = new DivisorLockers();
        all.pass(1);
        Due.same("all open: bestPass()", all.bestPass(), 1);
        DivisorLockers last = new DivisorLockers();
        last.pass(48);
        Due.same("48 open: bestPass()", last.bestPass(), 48);
        DivisorLockers allButOne = new DivisorLockers();
        allButOne.pass(2);
        allButOne.turnDoor(2);
        Due.same("4, 6 and so on open: bestPass()", allButOne.bestPass(), 2);
        DivisorLockers two = new DivisorLockers();
        two.turnDoor(40);
        two.turnDoor(33);
        Due.same("40 and 33 open: bestPass()", two.bestPass(), 33);
    }

    private static void wrongInputs() {
        for (int number : OUTSIDE) {
            Due.refused("wouldBeOpen(" + number + ", 5)", ARGUMENT, Made::used, y -> y.wouldBeOpen(number, 5));
            Due.refused("wouldBeOpen(5, " + number + ")", ARGUMENT, Made::used, y -> y.wouldBeOpen(5, number));
            Due.refused("wouldBeOpen(" + number + ", same)", ARGUMENT, Made::used,
                    y -> y.wouldBeOpen(number, number));
        }
        Due.refused("wouldBeOpen(2, 1)", ARGUMENT, Made::used, y -> y.wouldBeOpen(2, 1));
        Due.asking("questions about closing", Made::used, y -> {
            y.closingPasses();
            y.closingByDivisors();
            y.passesToClose();
            y.wouldBeOpen(1, 48);
            y.bestPass();
        });
    }
}

/** The sentences of the promises 19 to 23. */
final class ClosingSentences {
    private static final long ALL = (1L << 49) - 2;

    private ClosingSentences() {
    }

    // Promise 19: closingPasses

    @Sentence(of = "Promise 19", says = "Returns the passes that would close all doors, found by going up the row.")
    static void closingPassesCloseAll() {
        DivisorLockers x = Made.used();
        long passes = x.closingPasses();
        for (int door = 1; door <= 48; door++) {
            if (x.isLocked(door)) {
                x.turnLock(door);
            }
        }
        for (int number = 1; number <= 48; number++) {
            if ((passes >> number & 1L) == 1L) {
                x.pass(number);
            }
        }
        Due.same("closing passes made: openDoors()", x.openDoors(), 0);
        Due.same("closing passes made: closingPasses()", x.closingPasses(), 0L);
    }

    @Sentence(of = "Promise 19", says = "Returns the passes, as a set (bit k for the pass k).")
    static void closingPassesHasBitKForThePassK() {
        Due.same("all closed: closingPasses()", new DivisorLockers().closingPasses(), 0L);
        for (int number = 1; number <= 48; number++) {
            DivisorLockers x = new DivisorLockers();
            x.pass(number);
            Due.same("pass(" + number + "): closingPasses()", x.closingPasses(), 1L << number);
        }
        DivisorLockers row = new DivisorLockers();
        row.passRow(1, 48);
        Due.same("passRow(1, 48): closingPasses()", row.closingPasses(), ALL);
    }

    // Promise 20: closingByDivisors

    @Sentence(of = "Promise 20", says = "Returns the same, found by divisors.")
    static void closingByDivisorsIsTheSame() {
        DivisorLockers x = Made.used();
        for (int door = 1; door <= 48; door++) {
            if (!x.isLocked(door)) {
                x.turnDoor(door);
            }
            Due.same("used, to door " + door + ": closingByDivisors()", x.closingByDivisors(), x.closingPasses());
            DivisorLockers one = Made.open(door);
            Due.same(door + " open: closingByDivisors()", one.closingByDivisors(), one.closingPasses());
        }
    }

    @Sentence(of = "Promise 20", says = "Returns the passes, as a set.")
    static void closingByDivisorsHasBitKForThePassK() {
        Due.same("all closed: closingByDivisors()", new DivisorLockers().closingByDivisors(), 0L);
        for (int number = 1; number <= 48; number++) {
            DivisorLockers x = new DivisorLockers();
            x.pass(number);
            Due.same("pass(" + number + "): closingByDivisors()", x.closingByDivisors(), 1L << number);
        }
        DivisorLockers row = new DivisorLockers();
        row.passRow(1, 48);
        Due.same("passRow(1, 48): closingByDivisors()", row.closingByDivisors(), ALL);
    }

    // Promise 21: passesToClose

    @Sentence(of = "Promise 21", says = "Returns how many passes these are.")
    static void passesToCloseCountsThem() {
        DivisorLockers x = new DivisorLockers();
        for (int number = 1; number <= 48; number++) {
            x.pass(number);
            Due.same("pass(1) to pass(" + number + "): passesToClose()", x.passesToClose(), number);
        }
        Due.same("1 open: passesToClose()", Made.open(1).passesToClose(), 31);
        Due.same("12 open: passesToClose()", Made.open(12).passesToClose(), 3);
        Due.same("48 open: passesToClose()", Made.open(48).passesToClose(), 1);
    }

    @Sentence(of = "Promise 21", says = "Returns how many, 0 if all doors are closed.")
    static void passesToCloseOfClosedDoors() {
        DivisorLockers x = new DivisorLockers();
        Due.same("new: passesToClose()", x.passesToClose(), 0);
        x.pass(1);
        Due.same("pass(1): passesToClose()", x.passesToClose(), 1);
        x.pass(1);
        Due.same("pass(1) again: passesToClose()", x.passesToClose(), 0);
        x.turnLock(48);
        x.pass(48);
        Due.same("48 locked, pass(48): passesToClose()", x.passesToClose(), 0);
    }

    // Promise 22: wouldBeOpen

    @Sentence(of = "Promise 22", says = "Returns how many doors would be open behind passes in a row, made as by passRow().")
    static void wouldBeOpenAsByPassRow() {
        for (int first = 1; first <= 48; first++) {
            for (int last = first; last <= 48; last++) {
                DivisorLockers x = Made.used();
                int would = x.wouldBeOpen(first, last);
                x.passRow(first, last);
                Due.same("wouldBeOpen(" + first + ", " + last + ")", would, x.openDoors());
            }
        }
        DivisorLockers skipping = new DivisorLockers();
        skipping.turnSkip(1);
        skipping.turnSkip(48);
        Due.same("1, 48 skipped: wouldBeOpen(1, 1)", skipping.wouldBeOpen(1, 1), 0);
        Due.same("1, 48 skipped: wouldBeOpen(47, 48)", skipping.wouldBeOpen(47, 48), 1);
        DivisorLockers locked = Made.open(1);
        locked.turnLock(1);
        locked.turnLock(48);
        Due.same("1 open, 1 and 48 locked: wouldBeOpen(1, 1)", locked.wouldBeOpen(1, 1), 47);
        Due.same("1 open, 1 and 48 locked: wouldBeOpen(48, 48)", locked.wouldBeOpen(48, 48), 1);
    }

    @Sentence(of = "Promise 22", says = "`number`: 1 to 48: the first one")
    static void wouldBeOpenFromTheFirst() {
        DivisorLockers x = new DivisorLockers();
        Due.same("wouldBeOpen(1, 48)", x.wouldBeOpen(1, 48), 6);
        Due.same("wouldBeOpen(2, 48)", x.wouldBeOpen(2, 48), 42);
        Due.same("wouldBeOpen(47, 48)", x.wouldBeOpen(47, 48), 2);
        Due.same("wouldBeOpen(48, 48)", x.wouldBeOpen(48, 48), 1);
        Due.throwing("wouldBeOpen(0, 48)", Due.ARGUMENT, () -> x.wouldBeOpen(0, 48));
        Due.throwing("wouldBeOpen(49, 49)", Due.ARGUMENT, () -> x.wouldBeOpen(49, 49));
    }

    @Sentence(of = "Promise 22", says = "`to`: number to 48: the last one")
    static void wouldBeOpenToTheLast() {
        DivisorLockers x = new DivisorLockers();
        Due.same("wouldBeOpen(1, 1)", x.wouldBeOpen(1, 1), 48);
        Due.same("wouldBeOpen(1, 2)", x.wouldBeOpen(1, 2), 24);
        Due.same("wouldBeOpen(25, 25)", x.wouldBeOpen(25, 25), 1);
        Due.same("wouldBeOpen(25, 26)", x.wouldBeOpen(25, 26), 2);
        Due.same("wouldBeOpen(25, 48)", x.wouldBeOpen(25, 48), 24);
        Due.throwing("wouldBeOpen(25, 24)", Due.ARGUMENT, () -> x.wouldBeOpen(25, 24));
        Due.throwing("wouldBeOpen(25, 49)", Due.ARGUMENT, () -> x.wouldBeOpen(25, 49));
    }

    @Sentence(of = "Promise 22", says = "Returns how many.")
    static void wouldBeOpenOnlyTells() {
        DivisorLockers x = Made.allOpen();
        Due.same("all open: wouldBeOpen(1, 1)", x.wouldBeOpen(1, 1), 0);
        Due.same("all open: wouldBeOpen(48, 48)", x.wouldBeOpen(48, 48), 47);
        Due.same("all open, asked only: openDoors()", x.openDoors(), 48);
        Due.same("all open, asked only: timesOf(48)", x.timesOf(48), 0);
        Due.asking("wouldBeOpen(1, 48)", Made::used, y -> y.wouldBeOpen(1, 48));
    }

    @Sentence(of = "Promise 22", says = "Throws `IllegalArgumentException` if number or to is out of range")
    static void wouldBeOpenOutOfRange() {
        for (int number : Outside.NUMBERS) {
            Due.refusedAnywhere("wouldBeOpen(" + number + ", 48)", Due.ARGUMENT, x -> x.wouldBeOpen(number, 48));
            Due.refusedAnywhere("wouldBeOpen(1, " + number + ")", Due.ARGUMENT, x -> x.wouldBeOpen(1, number));
            Due.refusedAnywhere("wouldBeOpen of " + number + " twice", Due.ARGUMENT,
                    x -> x.wouldBeOpen(number, number));
        }
        for (int number = 2; number <= 48; number++) {
            int first = number;
            Due.refused("wouldBeOpen(" + first + ", one less)", Due.ARGUMENT, Made::used,
                    x -> x.wouldBeOpen(first, first - 1));
        }
        Due.refusedAnywhere("wouldBeOpen(0, 49)", Due.ARGUMENT, x -> x.wouldBeOpen(0, 49));
        Due.refusedAnywhere("wouldBeOpen(MIN, MAX)", Due.ARGUMENT,
                x -> x.wouldBeOpen(Integer.MIN_VALUE, Integer.MAX_VALUE));
    }

    // Promise 23: bestPass

    @Sentence(of = "Promise 23", says = "Returns the pass by which the fewest doors would be open,")
    static void bestPassLeavesTheFewestOpen() {
        for (int number = 1; number <= 48; number++) {
            DivisorLockers x = new DivisorLockers();
            x.pass(number);
            Due.same("pass(" + number + "): bestPass()", x.bestPass(), number);
            x.turnSkip(number);
            Due.same("pass(" + number + "), skipped: bestPass()", x.bestPass(), number);
        }
        DivisorLockers locked = new DivisorLockers();
        locked.pass(2);
        locked.pass(3);
        Due.same("pass(2), pass(3): bestPass()", locked.bestPass(), 2);
        for (int door = 4; door <= 48; door += 2) {
            locked.turnLock(door);
        }
        Due.same("pass(2), pass(3), even doors but 2 locked: bestPass()", locked.bestPass(), 3);
    }

    @Sentence(of = "Promise 23", says = "of several the lowest.")
    static void bestPassIsTheLowest() {
        Due.same("none open: bestPass()", new DivisorLockers().bestPass(), 25);
        Due.same("33 and 40 open: bestPass()", Made.open(40, 33).bestPass(), 33);
        DivisorLockers two = Made.open(24, 48);
        two.turnLock(24);
        Due.same("24 and 48 open, 24 locked: bestPass()", two.bestPass(), 24);
        DivisorLockers all = new DivisorLockers();
        for (int door = 1; door <= 48; door++) {
            all.turnLock(door);
        }
        Due.same("all locked: bestPass()", all.bestPass(), 1);
        all.turnLock(1);
        Due.same("all but 1 locked: bestPass()", all.bestPass(), 2);
    }

    @Sentence(of = "Promise 23", says = "Returns the pass.")
    static void bestPassOnlyTells() {
        DivisorLockers x = Made.allOpen();
        Due.same("all open: bestPass()", x.bestPass(), 1);
        Due.same("all open, asked only: openDoors()", x.openDoors(), 48);
        Due.same("all open, asked only: timesOf(1)", x.timesOf(1), 1);
        Due.same("48 open: bestPass()", Made.open(48).bestPass(), 48);
        Due.asking("bestPass()", Made::used, DivisorLockers::bestPass);
    }
}

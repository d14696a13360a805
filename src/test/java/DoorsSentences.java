/** The sentences of the promises 9 to 18. */
final class DoorsSentences {
    private DoorsSentences() {
    }

    // Promise 9: isOpen

    @Sentence(of = "Promise 9", says = "Tells whether a door is open.")
    static void isOpenTellsOpen() {
        DivisorLockers x = Made.open(7);
        Due.same("7 open: isOpen(7)", x.isOpen(7), true);
        Due.same("7 open: isOpen(6)", x.isOpen(6), false);
        Due.same("7 open: isOpen(8)", x.isOpen(8), false);
        x.turnLock(7);
        x.turnLock(8);
        Due.same("locked: isOpen(7)", x.isOpen(7), true);
        Due.same("locked: isOpen(8)", x.isOpen(8), false);
    }

    @Sentence(of = "Promise 9", says = "`door`: 1 to 48")
    static void isOpenFrom1To48() {
        for (int door = 1; door <= 48; door++) {
            Due.same("none open: isOpen(" + door + ")", new DivisorLockers().isOpen(door), false);
            Due.same("all open: isOpen(" + door + ")", Made.allOpen().isOpen(door), true);
            Due.same("it alone open: isOpen(" + door + ")", Made.open(door).isOpen(door), true);
        }
    }

    @Sentence(of = "Promise 9", says = "Returns whether it is.")
    static void isOpenReturnsWhether() {
        DivisorLockers x = new DivisorLockers();
        for (int times = 1; times <= 4; times++) {
            x.turnDoor(48);
            Due.same(times + " turns: isOpen(48)", x.isOpen(48), times % 2 == 1);
        }
    }

    @Sentence(of = "Promise 9", says = "Throws `IllegalArgumentException` if there is no such door")
    static void isOpenOutOfRange() {
        for (int door : Outside.NUMBERS) {
            Due.refusedAnywhere("isOpen(" + door + ")", Due.ARGUMENT, x -> x.isOpen(door));
        }
    }

    // Promise 10: isLocked

    @Sentence(of = "Promise 10", says = "Tells whether a door is locked.")
    static void isLockedTellsLocked() {
        DivisorLockers x = Made.open(7, 8);
        x.turnLock(7);
        x.turnLock(9);
        Due.same("7 open and locked: isLocked(7)", x.isLocked(7), true);
        Due.same("8 open: isLocked(8)", x.isLocked(8), false);
        Due.same("9 locked: isLocked(9)", x.isLocked(9), true);
        Due.same("isLocked(10)", x.isLocked(10), false);
    }

    @Sentence(of = "Promise 10", says = "`door`: 1 to 48")
    static void isLockedFrom1To48() {
        for (int door = 1; door <= 48; door++) {
            DivisorLockers x = new DivisorLockers();
            Due.same("none locked: isLocked(" + door + ")", x.isLocked(door), false);
            x.turnLock(door);
            Due.same("it locked: isLocked(" + door + ")", x.isLocked(door), true);
        }
    }

    @Sentence(of = "Promise 10", says = "Returns whether it is.")
    static void isLockedReturnsWhether() {
        DivisorLockers x = new DivisorLockers();
        for (int times = 1; times <= 4; times++) {
            x.turnLock(48);
            Due.same(times + " times: isLocked(48)", x.isLocked(48), times % 2 == 1);
        }
    }

    @Sentence(of = "Promise 10", says = "Throws `IllegalArgumentException` if there is no such door")
    static void isLockedOutOfRange() {
        for (int door : Outside.NUMBERS) {
            Due.refusedAnywhere("isLocked(" + door + ")", Due.ARGUMENT, x -> x.isLocked(door));
        }
    }

    // Promise 11: turnsOf

    @Sentence(of = "Promise 11", says = "Returns how often a door was turned.")
    static void turnsOfCountsTurns() {
        DivisorLockers x = new DivisorLockers();
        x.passRow(1, 48);
        Due.same("passRow(1, 48): turnsOf(1)", x.turnsOf(1), 1);
        Due.same("passRow(1, 48): turnsOf(47)", x.turnsOf(47), 2);
        Due.same("passRow(1, 48): turnsOf(48)", x.turnsOf(48), 10);
        x.turnLock(48);
        x.pass(48);
        Due.same("48 locked, pass(48): turnsOf(48)", x.turnsOf(48), 10);
        x.turnLock(48);
        Made.text(x, "p48;").play();
        Due.same("48 unlocked, \"p48;\": turnsOf(48)", x.turnsOf(48), 11);
    }

    @Sentence(of = "Promise 11", says = "`door`: 1 to 48")
    static void turnsOfFrom1To48() {
        for (int door = 1; door <= 48; door++) {
            Due.same("none turned: turnsOf(" + door + ")", new DivisorLockers().turnsOf(door), 0);
            Due.same("it alone turned: turnsOf(" + door + ")", Made.open(door).turnsOf(door), 1);
            Due.same("all turned: turnsOf(" + door + ")", Made.allOpen().turnsOf(door), 1);
        }
    }

    @Sentence(of = "Promise 11", says = "Returns how often so far, by hand, too.")
    static void turnsOfByHandToo() {
        DivisorLockers x = new DivisorLockers();
        for (int times = 1; times <= 5; times++) {
            x.turnDoor(9);
            Due.same("turnDoor(9): turnsOf(9)", x.turnsOf(9), 2 * times - 1);
            x.pass(3);
            Due.same("pass(3): turnsOf(9)", x.turnsOf(9), 2 * times);
        }
        Made.text(x, "d9;").play();
        Due.same("\"d9;\": turnsOf(9)", x.turnsOf(9), 11);
        x.undo();
        Due.same("undone: turnsOf(9)", x.turnsOf(9), 10);
    }

    @Sentence(of = "Promise 11", says = "Throws `IllegalArgumentException` if there is no such door")
    static void turnsOfOutOfRange() {
        for (int door : Outside.NUMBERS) {
            Due.refusedAnywhere("turnsOf(" + door + ")", Due.ARGUMENT, x -> x.turnsOf(door));
        }
    }

    // Promise 12: isSkipped

    @Sentence(of = "Promise 12", says = "Tells whether a pass is skipped.")
    static void isSkippedTellsSkipped() {
        DivisorLockers x = new DivisorLockers();
        x.turnSkip(7);
        Due.same("7 skipped: isSkipped(7)", x.isSkipped(7), true);
        Due.same("7 skipped: isSkipped(6)", x.isSkipped(6), false);
        Due.same("7 skipped: isSkipped(14)", x.isSkipped(14), false);
        x.pass(7);
        Due.same("7 skipped, made alone: isSkipped(7)", x.isSkipped(7), true);
    }

    @Sentence(of = "Promise 12", says = "`number`: 1 to 48")
    static void isSkippedFrom1To48() {
        for (int number = 1; number <= 48; number++) {
            DivisorLockers x = new DivisorLockers();
            Due.same("none skipped: isSkipped(" + number + ")", x.isSkipped(number), false);
            x.turnSkip(number);
            Due.same("it skipped: isSkipped(" + number + ")", x.isSkipped(number), true);
        }
    }

    @Sentence(of = "Promise 12", says = "Returns whether it is.")
    static void isSkippedReturnsWhether() {
        DivisorLockers x = new DivisorLockers();
        for (int times = 1; times <= 4; times++) {
            x.turnSkip(48);
            Due.same(times + " times: isSkipped(48)", x.isSkipped(48), times % 2 == 1);
        }
    }

    @Sentence(of = "Promise 12", says = "Throws `IllegalArgumentException` if number is out of range")
    static void isSkippedOutOfRange() {
        for (int number : Outside.NUMBERS) {
            Due.refusedAnywhere("isSkipped(" + number + ")", Due.ARGUMENT, x -> x.isSkipped(number));
        }
    }

    // Promise 13: timesOf

    @Sentence(of = "Promise 13", says = "Returns how often a pass was made.")
    static void timesOfCountsPasses() {
        DivisorLockers x = new DivisorLockers();
        x.pass(5);
        x.passRow(4, 6);
        Due.same("pass(5), passRow(4, 6): timesOf(5)", x.timesOf(5), 2);
        Due.same("pass(5), passRow(4, 6): timesOf(4)", x.timesOf(4), 1);
        Due.same("pass(5), passRow(4, 6): timesOf(3)", x.timesOf(3), 0);
        x.turnSkip(5);
        x.passRow(4, 6);
        x.wouldBeOpen(4, 6);
        Due.same("5 skipped, passRow(4, 6): timesOf(5)", x.timesOf(5), 2);
        Due.same("5 skipped, passRow(4, 6): timesOf(4)", x.timesOf(4), 2);
        x.turnDoor(5);
        Due.same("turnDoor(5): timesOf(5)", x.timesOf(5), 2);
    }

    @Sentence(of = "Promise 13", says = "`number`: 1 to 48")
    static void timesOfFrom1To48() {
        for (int number = 1; number <= 48; number++) {
            DivisorLockers x = new DivisorLockers();
            Due.same("none made: timesOf(" + number + ")", x.timesOf(number), 0);
            x.pass(number);
            Due.same("it made: timesOf(" + number + ")", x.timesOf(number), 1);
        }
    }

    @Sentence(of = "Promise 13", says = "Returns how often so far.")
    static void timesOfSoFar() {
        DivisorLockers x = Made.withText("p48;");
        for (int times = 1; times <= 60; times++) {
            x.pass(48);
            x.passRow(48, 48);
            x.play();
            Due.same("timesOf(48)", x.timesOf(48), 3 * times);
        }
        x.undo();
        Due.same("undone: timesOf(48)", x.timesOf(48), 179);
    }

    @Sentence(of = "Promise 13", says = "Throws `IllegalArgumentException` if number is out of range")
    static void timesOfOutOfRange() {
        for (int number : Outside.NUMBERS) {
            Due.refusedAnywhere("timesOf(" + number + ")", Due.ARGUMENT, x -> x.timesOf(number));
        }
    }

    // Promise 14: divisorsOf

    @Sentence(of = "Promise 14", says = "Returns how many divisors a number has.")
    static void divisorsOfCountsDivisors() {
        DivisorLockers x = new DivisorLockers();
        for (int number = 1; number <= 48; number++) {
            int divisors = 0;
            for (int other = 1; other <= number; other++) {
                divisors += number % other == 0 ? 1 : 0;
            }
            Due.same("divisorsOf(" + number + ")", x.divisorsOf(number), divisors);
        }
    }

    @Sentence(of = "Promise 14", says = "`number`: 1 to 48")
    static void divisorsOfFrom1To48() {
        DivisorLockers x = new DivisorLockers();
        Due.same("divisorsOf(1)", x.divisorsOf(1), 1);
        Due.same("divisorsOf(2)", x.divisorsOf(2), 2);
        Due.same("divisorsOf(47)", x.divisorsOf(47), 2);
        Due.same("divisorsOf(48)", x.divisorsOf(48), 10);
    }

    @Sentence(of = "Promise 14", says = "Returns how many.")
    static void divisorsOfWhateverWasDone() {
        DivisorLockers x = Made.full();
        x.turnLock(36);
        x.turnSkip(6);
        Due.same("used: divisorsOf(36)", x.divisorsOf(36), 9);
        Due.same("used: divisorsOf(48)", x.divisorsOf(48), 10);
        Due.same("used: divisorsOf(1)", x.divisorsOf(1), 1);
    }

    @Sentence(of = "Promise 14", says = "Throws `IllegalArgumentException` if number is out of range")
    static void divisorsOfOutOfRange() {
        for (int number : Outside.NUMBERS) {
            Due.refusedAnywhere("divisorsOf(" + number + ")", Due.ARGUMENT, x -> x.divisorsOf(number));
        }
    }

    // Promise 15: openDoors

    @Sentence(of = "Promise 15", says = "Returns how many doors are open, told one by one.")
    static void openDoorsOneByOne() {
        DivisorLockers x = new DivisorLockers();
        Due.same("none open: openDoors()", x.openDoors(), 0);
        for (int door = 48; door >= 1; door--) {
            x.turnDoor(door);
            Due.same(door + " to 48 open: openDoors()", x.openDoors(), 49 - door);
        }
    }

    @Sentence(of = "Promise 15", says = "Returns how many.")
    static void openDoorsHowMany() {
        Due.same("1 open: openDoors()", Made.open(1).openDoors(), 1);
        Due.same("48 open: openDoors()", Made.open(48).openDoors(), 1);
        Due.same("all open: openDoors()", Made.allOpen().openDoors(), 48);
        DivisorLockers x = Made.open(1, 2);
        x.turnLock(1);
        x.turnLock(3);
        x.pass(1);
        Due.same("1, 2 open, 1 and 3 locked, pass(1): openDoors()", x.openDoors(), 1 + 45);
    }

    // Promise 16: openByTurns

    @Sentence(of = "Promise 16", says = "Returns the same, told by turns:")
    static void openByTurnsIsTheSame() {
        DivisorLockers x = new DivisorLockers();
        Due.same("none open: openByTurns()", x.openByTurns(), 0);
        x.turnLock(30);
        for (int number = 1; number <= 48; number++) {
            x.pass(number);
            Due.same("pass(" + number + "): openByTurns()", x.openByTurns(), Long.bitCount(x.openSet()));
        }
        x.undo();
        Due.same("undone: openByTurns()", x.openByTurns(), x.openDoors());
        Due.same("all open: openByTurns()", Made.allOpen().openByTurns(), 48);
    }

    @Sentence(of = "Promise 16", says = "how many doors were turned an odd number of times.")
    static void openByTurnsCountsOddTurns() {
        DivisorLockers x = new DivisorLockers();
        for (int times = 1; times <= 5; times++) {
            x.turnDoor(1);
            Due.same(times + " turns of 1, one less of 48: openByTurns()", x.openByTurns(), 1);
            x.turnDoor(48);
            Due.same(times + " turns of 1 and 48: openByTurns()", x.openByTurns(), 2 * (times % 2));
        }
    }

    @Sentence(of = "Promise 16", says = "Returns how many.")
    static void openByTurnsHowMany() {
        DivisorLockers x = new DivisorLockers();
        x.passRow(1, 48);
        Due.same("passRow(1, 48): openByTurns()", x.openByTurns(), 6);
        x.keep();
        x.pass(1);
        Due.same("pass(1): openByTurns()", x.openByTurns(), 42);
        x.goBack();
        Due.same("goBack(): openByTurns()", x.openByTurns(), 6);
    }

    // Promise 17: openSet

    @Sentence(of = "Promise 17", says = "Returns the open doors.")
    static void openSetIsTheOpenDoors() {
        DivisorLockers x = new DivisorLockers();
        Due.same("none open: openSet()", x.openSet(), 0L);
        x.passRow(1, 48);
        Due.same("passRow(1, 48): openSet()", x.openSet(), Made.set(1, 4, 9, 16, 25, 36));
        x.turnLock(4);
        Due.same("4 locked: openSet()", x.openSet(), Made.set(1, 4, 9, 16, 25, 36));
    }

    @Sentence(of = "Promise 17", says = "Returns the doors, as a set (bit d for the door d).")
    static void openSetHasBitDForTheDoorD() {
        Due.same("1 open: openSet()", Made.open(1).openSet(), 2L);
        Due.same("31 open: openSet()", Made.open(31).openSet(), 2147483648L);
        Due.same("32 open: openSet()", Made.open(32).openSet(), 4294967296L);
        Due.same("48 open: openSet()", Made.open(48).openSet(), 281474976710656L);
        Due.same("all open: openSet()", Made.allOpen().openSet(), 562949953421310L);
    }

    // Promise 18: nextOpen

    @Sentence(of = "Promise 18", says = "Returns the lowest door from a door on that is open.")
    static void nextOpenIsTheLowest() {
        DivisorLockers x = Made.open(20, 21, 48);
        Due.same("20, 21, 48 open: nextOpen(1)", x.nextOpen(1), 20);
        Due.same("20, 21, 48 open: nextOpen(19)", x.nextOpen(19), 20);
        Due.same("20, 21, 48 open: nextOpen(20)", x.nextOpen(20), 20);
        Due.same("20, 21, 48 open: nextOpen(21)", x.nextOpen(21), 21);
        Due.same("20, 21, 48 open: nextOpen(22)", x.nextOpen(22), 48);
        x.turnLock(20);
        Due.same("20 locked: nextOpen(1)", x.nextOpen(1), 20);
    }

    @Sentence(of = "Promise 18", says = "`door`: 1 to 48")
    static void nextOpenFrom1To48() {
        for (int door = 1; door <= 48; door++) {
            Due.same("all open: nextOpen(" + door + ")", Made.allOpen().nextOpen(door), door);
            Due.same("48 open: nextOpen(" + door + ")", Made.open(48).nextOpen(door), 48);
            Due.same("it alone open: nextOpen(" + door + ")", Made.open(door).nextOpen(door), door);
        }
    }

    @Sentence(of = "Promise 18", says = "Returns the door.")
    static void nextOpenReturnsTheDoor() {
        DivisorLockers x = new DivisorLockers();
        x.passRow(1, 48);
        int[] next = {1, 4, 4, 4, 9, 9, 9, 9, 9, 16};
        for (int door = 1; door <= next.length; door++) {
            Due.same("squares open: nextOpen(" + door + ")", x.nextOpen(door), next[door - 1]);
        }
        Due.same("squares open: nextOpen(36)", x.nextOpen(36), 36);
    }

    @Sentence(of = "Promise 18", says = "Throws `IllegalArgumentException` if there is no such door")
    static void nextOpenOutOfRange() {
        for (int door : Outside.NUMBERS) {
            Due.refusedAnywhere("nextOpen(" + door + ")", Due.ARGUMENT, x -> x.nextOpen(door));
            Due.refused("all open: nextOpen(" + door + ")", Due.ARGUMENT, Made::allOpen, x -> x.nextOpen(door));
        }
    }

    /** The search doesn't begin at the door 1 again. */
    @Sentence(of = "Promise 18", says = "Throws `NoSuchElementException` if none is")
    static void nextOpenOfNone() {
        for (int door = 1; door <= 48; door++) {
            int asked = door;
            Due.refused("none open: nextOpen(" + door + ")", Due.NO_ELEMENT, Made::fresh, x -> x.nextOpen(asked));
        }
        for (int door = 1; door <= 47; door++) {
            int open = door;
            Due.refused(door + " open: nextOpen of the next", Due.NO_ELEMENT, () -> Made.open(open),
                    x -> x.nextOpen(open + 1));
            Due.refused(door + " open: nextOpen(48)", Due.NO_ELEMENT, () -> Made.open(open), x -> x.nextOpen(48));
        }
    }
}

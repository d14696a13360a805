/** The sentences of the promises 1 to 8. */
final class ChangesSentences {
    private ChangesSentences() {
    }

    // Promise 1: a new object

    @Sentence(of = "Promise 1", says = "Begins with closed doors,")
    static void newDoorsAreClosed() {
        DivisorLockers x = new DivisorLockers();
        Due.same("new: openDoors()", x.openDoors(), 0);
        Due.same("new: openSet()", x.openSet(), 0L);
        for (int door = 1; door <= 48; door++) {
            Due.same("new: isOpen(" + door + ")", x.isOpen(door), false);
            Due.same("new: turnsOf(" + door + ")", x.turnsOf(door), 0);
            Due.same("new: timesOf(" + door + ")", x.timesOf(door), 0);
        }
        x.pass(1);
        Due.same("new beside another: openDoors()", new DivisorLockers().openDoors(), 0);
    }

    @Sentence(of = "Promise 1", says = "nothing behind them,")
    static void newDoorsHaveNothingBehind() {
        DivisorLockers x = new DivisorLockers();
        for (int door = 1; door <= 48; door++) {
            int asked = door;
            Due.throwing("new: thingAt(" + door + ")", Due.NO_ELEMENT, () -> x.thingAt(asked));
        }
        Due.same("new: thingsOf(0)", x.thingsOf(0), 0);
        Due.same("new: thingsOf(1)", x.thingsOf(1), 0);
        Due.same("new: shutAway()", x.shutAway(), 0);
    }

    @Sentence(of = "Promise 1", says = "and without a snapshot.")
    static void newWithoutASnapshot() {
        Due.refused("new: goBack()", Due.STATE, Made::fresh, DivisorLockers::goBack);
    }

    // Promise 2: pass

    @Sentence(of = "Promise 2", says = "Makes a pass.")
    static void passMakesAPass() {
        DivisorLockers x = new DivisorLockers();
        x.pass(16);
        Due.same("pass(16): openSet()", x.openSet(), Made.set(16, 32, 48));
        Due.same("pass(16): timesOf(16)", x.timesOf(16), 1);
        Due.same("pass(16): timesOf(15)", x.timesOf(15), 0);
        Due.same("pass(16): timesOf(17)", x.timesOf(17), 0);
        Due.same("pass(16): turnsInAll()", x.turnsInAll(), 3);
        Due.same("pass(16): states()", x.states(), 1);
    }

    @Sentence(of = "Promise 2", says = "`number`: 1 to 48")
    static void passFrom1To48() {
        Due.same("pass(1)", new DivisorLockers().pass(1), 48);
        Due.same("pass(48)", new DivisorLockers().pass(48), 1);
        for (int number = 1; number <= 48; number++) {
            Due.same("pass(" + number + ")", new DivisorLockers().pass(number), 48 / number);
        }
    }

    @Sentence(of = "Promise 2", says = "Returns how many doors are open then.")
    static void passReturnsTheOpenDoors() {
        DivisorLockers x = new DivisorLockers();
        Due.same("pass(1), all", x.pass(1), 48);
        Due.same("pass(1) again, none", x.pass(1), 0);
        x.turnDoor(1);
        Due.same("1 open: pass(48)", x.pass(48), 2);
        Due.same("1, 48 open: pass(24)", x.pass(24), 2);
        x.turnLock(2);
        Due.same("2 locked: pass(2)", x.pass(2), 1 + 24 - 1 - 1);
    }

    @Sentence(of = "Promise 2", says = "Throws `IllegalArgumentException` if number is out of range")
    static void passOutOfRange() {
        for (int number : Outside.NUMBERS) {
            Due.refusedAnywhere("pass(" + number + ")", Due.ARGUMENT, x -> x.pass(number));
        }
    }

    // Promise 3: passRow

    @Sentence(of = "Promise 3", says = "Makes passes in a row, one after the other,")
    static void passRowMakesPasses() {
        DivisorLockers x = new DivisorLockers();
        x.passRow(24, 26);
        Due.same("passRow(24, 26): openSet()", x.openSet(), Made.set(24, 25, 26, 48));
        for (int number = 1; number <= 48; number++) {
            Due.same("passRow(24, 26): timesOf(" + number + ")", x.timesOf(number), number >= 24 && number <= 26 ? 1 : 0);
        }
        Due.same("passRow(24, 26): states()", x.states(), 1);
        x.passRow(1, 48);
        Due.same("passRow(1, 48): openSet()", x.openSet(), Made.set(1, 4, 9, 16, 24, 26, 36, 48));
    }

    @Sentence(of = "Promise 3", says = "but those that are skipped.")
    static void passRowLeavesSkippedOut() {
        DivisorLockers x = new DivisorLockers();
        x.turnSkip(24);
        x.turnSkip(26);
        Due.same("24 and 26 skipped: passRow(24, 26)", x.passRow(24, 26), 1);
        Due.same("24 and 26 skipped: openSet()", x.openSet(), Made.set(25));
        Due.same("24 and 26 skipped: timesOf(24)", x.timesOf(24), 0);
        Due.same("24 and 26 skipped: timesOf(26)", x.timesOf(26), 0);
        x.turnSkip(24);
        Due.same("24 not any more: passRow(24, 26)", x.passRow(24, 26), 2);
        Due.same("24 not any more: openSet()", x.openSet(), Made.set(24, 48));
    }

    @Sentence(of = "Promise 3", says = "`number`: 1 to 48: the first one")
    static void passRowFromTheFirst() {
        DivisorLockers x = new DivisorLockers();
        x.passRow(1, 2);
        Due.same("passRow(1, 2): timesOf(1)", x.timesOf(1), 1);
        x.passRow(2, 3);
        Due.same("passRow(2, 3): timesOf(1)", x.timesOf(1), 1);
        Due.same("passRow(2, 3): timesOf(2)", x.timesOf(2), 2);
        Due.same("passRow(48, 48)", x.passRow(48, 48), 1);
        Due.same("passRow(48, 48): timesOf(48)", x.timesOf(48), 1);
        Due.throwing("passRow(0, 48)", Due.ARGUMENT, () -> x.passRow(0, 48));
        Due.throwing("passRow(49, 49)", Due.ARGUMENT, () -> x.passRow(49, 49));
    }

    @Sentence(of = "Promise 3", says = "`to`: number to 48: the last one")
    static void passRowToTheLast() {
        DivisorLockers x = new DivisorLockers();
        Due.same("passRow(47, 47)", x.passRow(47, 47), 1);
        Due.same("passRow(47, 47): timesOf(48)", x.timesOf(48), 0);
        Due.same("passRow(47, 48)", x.passRow(47, 48), 2);
        Due.same("passRow(47, 48): timesOf(48)", x.timesOf(48), 1);
        Due.same("passRow(1, 1)", x.passRow(1, 1), 1);
        Due.same("passRow(1, 48)", x.passRow(1, 48), 48);
        Due.throwing("passRow(47, 46)", Due.ARGUMENT, () -> x.passRow(47, 46));
        Due.throwing("passRow(47, 49)", Due.ARGUMENT, () -> x.passRow(47, 49));
    }

    @Sentence(of = "Promise 3", says = "Returns how many passes are made.")
    static void passRowReturnsThePasses() {
        DivisorLockers x = new DivisorLockers();
        for (int to = 1; to <= 48; to++) {
            Due.same("passRow(1, " + to + ")", x.passRow(1, to), to);
            Due.same("passRow(" + to + ", 48)", x.passRow(to, 48), 49 - to);
        }
        for (int number = 1; number <= 48; number++) {
            x.turnLock(number);
        }
        Due.same("all locked: passRow(1, 48)", x.passRow(1, 48), 48);
        for (int number = 1; number <= 48; number++) {
            x.turnSkip(number);
            Due.same(number + " skipped: passRow(1, 48)", x.passRow(1, 48), 48 - number);
        }
    }

    @Sentence(of = "Promise 3", says = "Throws `IllegalArgumentException` if number or to is out of range")
    static void passRowOutOfRange() {
        for (int number : Outside.NUMBERS) {
            Due.refusedAnywhere("passRow(" + number + ", 48)", Due.ARGUMENT, x -> x.passRow(number, 48));
            Due.refusedAnywhere("passRow(1, " + number + ")", Due.ARGUMENT, x -> x.passRow(1, number));
            Due.refusedAnywhere("passRow of " + number + " twice", Due.ARGUMENT, x -> x.passRow(number, number));
        }
        for (int number = 2; number <= 48; number++) {
            int first = number;
            Due.refused("passRow(" + first + ", one less)", Due.ARGUMENT, Made::used, x -> x.passRow(first, first - 1));
            Due.refused("passRow(" + first + ", 1)", Due.ARGUMENT, Made::used, x -> x.passRow(first, 1));
        }
        Due.refusedAnywhere("passRow(MIN, MAX)", Due.ARGUMENT, x -> x.passRow(Integer.MIN_VALUE, Integer.MAX_VALUE));
        Due.refusedAnywhere("passRow(0, 49)", Due.ARGUMENT, x -> x.passRow(0, 49));
    }

    // Promise 4: turnDoor

    @Sentence(of = "Promise 4", says = "Turns a door by hand.")
    static void turnDoorTurnsOneDoor() {
        DivisorLockers x = new DivisorLockers();
        x.turnDoor(2);
        Due.same("turnDoor(2): openSet()", x.openSet(), Made.set(2));
        Due.same("turnDoor(2): turnsOf(2)", x.turnsOf(2), 1);
        Due.same("turnDoor(2): turnsInAll()", x.turnsInAll(), 1);
        Due.same("turnDoor(2): timesOf(2)", x.timesOf(2), 0);
        x.turnDoor(2);
        Due.same("turnDoor(2) again: openSet()", x.openSet(), 0L);
        Due.same("turnDoor(2) again: turnsOf(2)", x.turnsOf(2), 2);
    }

    @Sentence(of = "Promise 4", says = "`door`: 1 to 48")
    static void turnDoorFrom1To48() {
        for (int door = 1; door <= 48; door++) {
            Due.same("turnDoor(" + door + "): openSet()", Made.open(door).openSet(), 1L << door);
        }
    }

    @Sentence(of = "Promise 4", says = "Returns whether it is open then.")
    static void turnDoorReturnsOpen() {
        DivisorLockers x = new DivisorLockers();
        for (int door : new int[] {1, 24, 48}) {
            Due.same("turnDoor(" + door + ")", x.turnDoor(door), true);
            Due.same("turnDoor(" + door + ") again", x.turnDoor(door), false);
            Due.same("turnDoor(" + door + ") a third time", x.turnDoor(door), true);
        }
        x.pass(1);
        Due.same("closed by a pass: turnDoor(1)", x.turnDoor(1), true);
        Due.same("opened by a pass: turnDoor(2)", x.turnDoor(2), false);
    }

    @Sentence(of = "Promise 4", says = "Throws `IllegalArgumentException` if there is no such door")
    static void turnDoorOutOfRange() {
        for (int door : Outside.NUMBERS) {
            Due.refusedAnywhere("turnDoor(" + door + ")", Due.ARGUMENT, x -> x.turnDoor(door));
        }
    }

    @Sentence(of = "Promise 4", says = "Throws `IllegalStateException` if it is locked")
    static void turnDoorLocked() {
        for (int door : new int[] {1, 2, 47, 48}) {
            Due.refused("locked: turnDoor(" + door + ")", Due.STATE, () -> {
                DivisorLockers x = new DivisorLockers();
                x.turnLock(door);
                return x;
            }, x -> x.turnDoor(door));
            Due.refused("locked and open: turnDoor(" + door + ")", Due.STATE, () -> {
                DivisorLockers x = Made.full();
                x.turnLock(door);
                return x;
            }, x -> x.turnDoor(door));
        }
        DivisorLockers x = new DivisorLockers();
        x.turnLock(5);
        Due.same("another one locked: turnDoor(4)", x.turnDoor(4), true);
        x.turnLock(5);
        Due.same("unlocked: turnDoor(5)", x.turnDoor(5), true);
    }

    // Promise 5: turnLock

    @Sentence(of = "Promise 5", says = "Locks a door, or unlocks it, if it is locked;")
    static void turnLockLocksAndUnlocks() {
        DivisorLockers x = new DivisorLockers();
        x.turnLock(7);
        Due.same("turnLock(7): isLocked(7)", x.isLocked(7), true);
        Due.same("turnLock(7): isLocked(8)", x.isLocked(8), false);
        x.turnLock(7);
        Due.same("turnLock(7) again: isLocked(7)", x.isLocked(7), false);
        x.turnLock(7);
        Due.same("turnLock(7) a third time: isLocked(7)", x.isLocked(7), true);
    }

    @Sentence(of = "Promise 5", says = "open or closed, it stays so.")
    static void turnLockLeavesItOpenOrClosed() {
        DivisorLockers x = Made.open(7);
        x.turnLock(7);
        x.turnLock(8);
        Due.same("7 open, 7 and 8 locked: openSet()", x.openSet(), Made.set(7));
        Due.same("7 open, 7 and 8 locked: turnsInAll()", x.turnsInAll(), 1);
        x.turnLock(7);
        x.turnLock(8);
        Due.same("7 open, 7 and 8 unlocked: openSet()", x.openSet(), Made.set(7));
        Due.same("7 open, 7 and 8 unlocked: turnsInAll()", x.turnsInAll(), 1);
    }

    @Sentence(of = "Promise 5", says = "`door`: 1 to 48")
    static void turnLockFrom1To48() {
        for (int door = 1; door <= 48; door++) {
            DivisorLockers x = new DivisorLockers();
            Due.same("turnLock(" + door + ")", x.turnLock(door), true);
            for (int other = 1; other <= 48; other++) {
                Due.same("turnLock(" + door + "): isLocked(" + other + ")", x.isLocked(other), other == door);
            }
        }
    }

    @Sentence(of = "Promise 5", says = "Returns whether it is locked then.")
    static void turnLockReturnsLocked() {
        DivisorLockers x = Made.open(1);
        for (int door : new int[] {1, 2, 48}) {
            Due.same("turnLock(" + door + ")", x.turnLock(door), true);
            Due.same("turnLock(" + door + ") again", x.turnLock(door), false);
            Due.same("turnLock(" + door + ") a third time", x.turnLock(door), true);
        }
    }

    @Sentence(of = "Promise 5", says = "Throws `IllegalArgumentException` if there is no such door")
    static void turnLockOutOfRange() {
        for (int door : Outside.NUMBERS) {
            Due.refusedAnywhere("turnLock(" + door + ")", Due.ARGUMENT, x -> x.turnLock(door));
        }
    }

    // Promise 6: turnSkip

    @Sentence(of = "Promise 6", says = "Lets a pass be skipped, or not any more, if it is.")
    static void turnSkipSkipsAndNotAnyMore() {
        DivisorLockers x = new DivisorLockers();
        x.turnSkip(7);
        Due.same("turnSkip(7): passRow(7, 8)", x.passRow(7, 8), 1);
        Due.same("turnSkip(7): isSkipped(7)", x.isSkipped(7), true);
        x.turnSkip(7);
        Due.same("turnSkip(7) again: passRow(7, 8)", x.passRow(7, 8), 2);
        Due.same("turnSkip(7) again: isSkipped(7)", x.isSkipped(7), false);
        Due.same("turnSkip(7): timesOf(7)", x.timesOf(7), 1);
    }

    @Sentence(of = "Promise 6", says = "`number`: 1 to 48")
    static void turnSkipFrom1To48() {
        for (int number = 1; number <= 48; number++) {
            DivisorLockers x = new DivisorLockers();
            Due.same("turnSkip(" + number + ")", x.turnSkip(number), true);
            for (int other = 1; other <= 48; other++) {
                Due.same("turnSkip(" + number + "): isSkipped(" + other + ")", x.isSkipped(other), other == number);
            }
        }
    }

    @Sentence(of = "Promise 6", says = "Returns whether it is skipped then.")
    static void turnSkipReturnsSkipped() {
        DivisorLockers x = new DivisorLockers();
        for (int number : new int[] {1, 2, 48}) {
            Due.same("turnSkip(" + number + ")", x.turnSkip(number), true);
            Due.same("turnSkip(" + number + ") again", x.turnSkip(number), false);
            Due.same("turnSkip(" + number + ") a third time", x.turnSkip(number), true);
        }
    }

    @Sentence(of = "Promise 6", says = "Throws `IllegalArgumentException` if number is out of range")
    static void turnSkipOutOfRange() {
        for (int number : Outside.NUMBERS) {
            Due.refusedAnywhere("turnSkip(" + number + ")", Due.ARGUMENT, x -> x.turnSkip(number));
        }
    }

    // Promise 7: store

    @Sentence(of = "Promise 7", says = "Stores a thing.")
    static void storeStoresAThing() {
        DivisorLockers x = Made.open(33, 34);
        x.store(33, 1);
        x.store(34, 0);
        Due.same("store(33, 1): thingAt(33)", x.thingAt(33), 1);
        Due.same("store(34, 0): thingAt(34)", x.thingAt(34), 0);
        Due.same("store: isOpen(33)", x.isOpen(33), true);
        Due.throwing("store: thingAt(35)", Due.NO_ELEMENT, () -> x.thingAt(35));
        Due.same("store: turnsInAll()", x.turnsInAll(), 2);
    }

    @Sentence(of = "Promise 7", says = "`door`: 1 to 48")
    static void storeFrom1To48() {
        DivisorLockers x = Made.allOpen();
        for (int door = 1; door <= 48; door++) {
            int kind = door <= 16 ? 0 : 1;
            x.store(door, kind);
            Due.same("store(" + door + ", " + kind + "): thingAt(" + door + ")", x.thingAt(door), kind);
        }
        Due.same("all stored: thingsOf(0)", x.thingsOf(0), 16);
        Due.same("all stored: thingsOf(1)", x.thingsOf(1), 32);
    }

    @Sentence(of = "Promise 7", says = "`kind`: 0 or 1")
    static void storeKind0Or1() {
        for (int door : new int[] {33, 48}) {
            Due.same("store(" + door + ", 0)", Made.allOpen().store(door, 0), 1);
            Due.same("store(" + door + ", 1)", Made.allOpen().store(door, 1), 1);
            Due.throwing("store(" + door + ", -1)", Due.ARGUMENT, () -> Made.allOpen().store(door, -1));
            Due.throwing("store(" + door + ", 2)", Due.ARGUMENT, () -> Made.allOpen().store(door, 2));
        }
    }

    @Sentence(of = "Promise 7", says = "Returns how many things of this kind there are then.")
    static void storeReturnsTheThingsOfTheKind() {
        DivisorLockers x = Made.allOpen();
        Due.same("first coat: store(1, 0)", x.store(1, 0), 1);
        Due.same("first hat: store(17, 1)", x.store(17, 1), 1);
        Due.same("second coat: store(48, 0)", x.store(48, 0), 2);
        Due.same("second hat: store(47, 1)", x.store(47, 1), 2);
        x.turnDoor(17);
        Due.same("third hat, one shut away: store(46, 1)", x.store(46, 1), 3);
        x.takeOut(1);
        Due.same("a coat taken out: store(2, 0)", x.store(2, 0), 2);
        DivisorLockers coats = Made.allOpen();
        int stored = 0;
        for (int door = 1; door <= 48; door++) {
            if (door <= 16 || door >= 33) {
                stored++;
                Due.same("only coats: store(" + door + ", 0)", coats.store(door, 0), stored);
            }
        }
    }

    @Sentence(of = "Promise 7", says = "Throws `IllegalArgumentException` if there is no such door, or kind is out of range")
    static void storeOutOfRange() {
        for (int door : Outside.NUMBERS) {
            Due.refusedAnywhere("store(" + door + ", 0)", Due.ARGUMENT, x -> x.store(door, 0));
            Due.refusedAnywhere("store(" + door + ", 1)", Due.ARGUMENT, x -> x.store(door, 1));
        }
        for (int kind : Outside.KINDS) {
            Due.refusedAnywhere("store(1, " + kind + ")", Due.ARGUMENT, x -> x.store(1, kind));
            Due.refused("open: store(48, " + kind + ")", Due.ARGUMENT, Made::allOpen, x -> x.store(48, kind));
            Due.refused("open: store(20, " + kind + ")", Due.ARGUMENT, Made::allOpen, x -> x.store(20, kind));
        }
        Due.refusedAnywhere("store(0, 2)", Due.ARGUMENT, x -> x.store(0, 2));
    }

    @Sentence(of = "Promise 7", says = "Throws `IllegalStateException` for the reasons of whyNot()")
    static void storeForTheReasonsOfWhyNot() {
        Due.refused("closed: store(1, 0)", Due.STATE, Made::fresh, x -> x.store(1, 0));
        Due.refused("closed, wrong kind: store(1, 1)", Due.STATE, Made::fresh, x -> x.store(1, 1));
        Due.refused("a coat there: store(1, 0)", Due.STATE, Made::full, x -> x.store(1, 0));
        Due.refused("a hat there: store(40, 0)", Due.STATE, Made::full, x -> x.store(40, 0));
        Due.refused("wrong kind: store(1, 1)", Due.STATE, Made::allOpen, x -> x.store(1, 1));
        Due.refused("wrong kind: store(32, 0)", Due.STATE, Made::allOpen, x -> x.store(32, 0));
        DivisorLockers used = Made.used();
        for (int door = 1; door <= 48; door++) {
            for (int kind = 0; kind <= 1; kind++) {
                int place = door;
                int thing = kind;
                if (used.whyNot(door, kind) == 0) {
                    Due.same("store(" + door + ", " + kind + ") of none", Made.used().store(door, kind) > 0, true);
                } else {
                    Due.throwing("store(" + door + ", " + kind + ") of a reason", Due.STATE, () -> used.store(place, thing));
                }
            }
        }
    }

    // Promise 8: takeOut

    @Sentence(of = "Promise 8", says = "Takes a thing out.")
    static void takeOutTakesOut() {
        DivisorLockers x = Made.full();
        x.takeOut(40);
        Due.throwing("takeOut(40): thingAt(40)", Due.NO_ELEMENT, () -> x.thingAt(40));
        Due.same("takeOut(40): thingAt(39)", x.thingAt(39), 1);
        Due.same("takeOut(40): thingAt(41)", x.thingAt(41), 0);
        Due.same("takeOut(40): isOpen(40)", x.isOpen(40), true);
        Due.same("takeOut(40): whyNot(40, 0)", x.whyNot(40, 0), 0);
        Due.same("takeOut(40): store(40, 0)", x.store(40, 0), 16 + 8 + 1);
        Due.same("takeOut(40): thingAt(40) then", x.thingAt(40), 0);
    }

    @Sentence(of = "Promise 8", says = "`door`: 1 to 48")
    static void takeOutFrom1To48() {
        DivisorLockers x = Made.full();
        for (int door = 1; door <= 48; door++) {
            int asked = door;
            x.takeOut(door);
            Due.throwing("takeOut(" + door + "): thingAt(" + door + ")", Due.NO_ELEMENT, () -> x.thingAt(asked));
            Due.same("takeOut(" + door + "): thingsOf(0) + thingsOf(1)", x.thingsOf(0) + x.thingsOf(1), 48 - door);
        }
    }

    @Sentence(of = "Promise 8", says = "Returns its kind.")
    static void takeOutReturnsTheKind() {
        DivisorLockers x = Made.full();
        for (int door = 1; door <= 48; door++) {
            Due.same("takeOut(" + door + ")", x.takeOut(door), door >= 17 && door <= 40 ? 1 : 0);
        }
        x.store(48, 1);
        Due.same("a hat now: takeOut(48)", x.takeOut(48), 1);
    }

    @Sentence(of = "Promise 8", says = "Throws `IllegalArgumentException` if there is no such door")
    static void takeOutOutOfRange() {
        for (int door : Outside.NUMBERS) {
            Due.refusedAnywhere("takeOut(" + door + ")", Due.ARGUMENT, x -> x.takeOut(door));
        }
    }

    @Sentence(of = "Promise 8", says = "Throws `IllegalStateException` if the door is closed,")
    static void takeOutBehindAClosedDoor() {
        for (int door : new int[] {1, 17, 48}) {
            Due.refused("closed, a thing there: takeOut(" + door + ")", Due.STATE, () -> {
                DivisorLockers x = Made.full();
                x.turnDoor(door);
                return x;
            }, x -> x.takeOut(door));
        }
        Due.refused("closed, nothing there: takeOut(1)", Due.STATE, Made::fresh, x -> x.takeOut(1));
        DivisorLockers x = Made.full();
        x.turnLock(1);
        Due.same("open and locked: takeOut(1)", x.takeOut(1), 0);
    }

    @Sentence(of = "Promise 8", says = "or there is none")
    static void takeOutNothing() {
        for (int door : new int[] {1, 17, 48}) {
            Due.refused("open, nothing there: takeOut(" + door + ")", Due.STATE, Made::allOpen, x -> x.takeOut(door));
        }
        DivisorLockers x = Made.full();
        x.takeOut(48);
        Due.throwing("taken out: takeOut(48)", Due.STATE, () -> x.takeOut(48));
    }
}

/** The sentences of the promises 24 to 27. */
final class ThingsSentences {
    private ThingsSentences() {
    }

    // Promise 24: whyNot

    @Sentence(of = "Promise 24", says = "Tells why a thing is not stored.")
    static void whyNotTellsWhy() {
        for (int door = 1; door <= 48; door++) {
            for (int kind = 0; kind <= 1; kind++) {
                int asked = door;
                int thing = kind;
                DivisorLockers x = Made.used();
                if (x.whyNot(door, kind) == 0) {
                    x.store(door, kind);
                    Due.same("store(" + door + ", " + kind + "): thingAt", x.thingAt(door), kind);
                    Due.same("store(" + door + ", " + kind + "): whyNot", x.whyNot(door, kind), 2);
                } else {
                    Due.throwing("store(" + door + ", " + kind + ")", Due.STATE, () -> x.store(asked, thing));
                }
            }
        }
        Due.asking("whyNot(1, 0)", Made::used, x -> x.whyNot(1, 0));
    }

    @Sentence(of = "Promise 24", says = "`door`: 1 to 48")
    static void whyNotFrom1To48() {
        for (int door = 1; door <= 48; door++) {
            int kind = door <= 16 ? 0 : 1;
            Due.same("closed: whyNot(" + door + ", " + kind + ")", new DivisorLockers().whyNot(door, kind), 1);
            Due.same("open: whyNot(" + door + ", " + kind + ")", Made.allOpen().whyNot(door, kind), 0);
            Due.same("it alone open: whyNot(" + door + ", " + kind + ")", Made.open(door).whyNot(door, kind), 0);
        }
    }

    @Sentence(of = "Promise 24", says = "`kind`: 0 or 1")
    static void whyNotOfKind0Or1() {
        DivisorLockers x = Made.allOpen();
        Due.same("whyNot(1, 0)", x.whyNot(1, 0), 0);
        Due.same("whyNot(1, 1)", x.whyNot(1, 1), 3);
        Due.same("whyNot(17, 0)", x.whyNot(17, 0), 3);
        Due.same("whyNot(17, 1)", x.whyNot(17, 1), 0);
        Due.throwing("whyNot(33, -1)", Due.ARGUMENT, () -> x.whyNot(33, -1));
        Due.throwing("whyNot(33, 2)", Due.ARGUMENT, () -> x.whyNot(33, 2));
    }

    @Sentence(of = "Promise 24", says = "Returns the reason, 1 to 3;")
    static void whyNotReturns1To3() {
        Due.same("closed: whyNot(1, 0)", new DivisorLockers().whyNot(1, 0), 1);
        Due.same("closed, wrong kind: whyNot(1, 1)", new DivisorLockers().whyNot(1, 1), 1);
        Due.same("there already: whyNot(1, 0)", Made.full().whyNot(1, 0), 2);
        Due.same("there already, wrong kind: whyNot(1, 1)", Made.full().whyNot(1, 1), 2);
        Due.same("wrong kind: whyNot(16, 1)", Made.allOpen().whyNot(16, 1), 3);
        Due.same("wrong kind: whyNot(32, 0)", Made.allOpen().whyNot(32, 0), 3);
        DivisorLockers shut = Made.full();
        shut.pass(1);
        Due.same("closed, there already, wrong kind: whyNot(17, 0)", shut.whyNot(17, 0), 1);
        Due.same("closed, there already: whyNot(48, 0)", shut.whyNot(48, 0), 1);
    }

    @Sentence(of = "Promise 24", says = "0 if it is stored.")
    static void whyNotReturns0() {
        DivisorLockers x = Made.allOpen();
        Due.same("whyNot(16, 0)", x.whyNot(16, 0), 0);
        Due.same("whyNot(17, 1)", x.whyNot(17, 1), 0);
        Due.same("whyNot(32, 1)", x.whyNot(32, 1), 0);
        Due.same("whyNot(33, 0)", x.whyNot(33, 0), 0);
        Due.same("whyNot(48, 1)", x.whyNot(48, 1), 0);
        x.turnLock(33);
        Due.same("locked and open: whyNot(33, 1)", x.whyNot(33, 1), 0);
        x.store(33, 1);
        x.takeOut(33);
        Due.same("taken out: whyNot(33, 0)", x.whyNot(33, 0), 0);
    }

    @Sentence(of = "Promise 24", says = "Throws `IllegalArgumentException` if there is no such door, or kind is out of range")
    static void whyNotOutOfRange() {
        for (int door : Outside.NUMBERS) {
            Due.refusedAnywhere("whyNot(" + door + ", 0)", Due.ARGUMENT, x -> x.whyNot(door, 0));
            Due.refusedAnywhere("whyNot(" + door + ", 1)", Due.ARGUMENT, x -> x.whyNot(door, 1));
        }
        for (int kind : Outside.KINDS) {
            Due.refusedAnywhere("whyNot(1, " + kind + ")", Due.ARGUMENT, x -> x.whyNot(1, kind));
            Due.refusedAnywhere("whyNot(20, " + kind + ")", Due.ARGUMENT, x -> x.whyNot(20, kind));
            Due.refused("open: whyNot(48, " + kind + ")", Due.ARGUMENT, Made::allOpen, x -> x.whyNot(48, kind));
        }
    }

    // Promise 25: thingAt

    @Sentence(of = "Promise 25", says = "Returns the kind of the thing behind a door, open or closed.")
    static void thingAtOpenOrClosed() {
        DivisorLockers x = Made.full();
        for (int turned = 0; turned <= 1; turned++) {
            for (int door = 1; door <= 48; door++) {
                Due.same(turned + " turned: thingAt(" + door + ")", x.thingAt(door), door >= 17 && door <= 40 ? 1 : 0);
            }
            x.pass(1);
        }
        x.turnLock(40);
        Due.same("locked: thingAt(40)", x.thingAt(40), 1);
    }

    @Sentence(of = "Promise 25", says = "`door`: 1 to 48")
    static void thingAtFrom1To48() {
        for (int door = 1; door <= 48; door++) {
            DivisorLockers x = Made.open(door);
            int kind = door <= 16 ? 0 : 1;
            x.store(door, kind);
            for (int other = 1; other <= 48; other++) {
                int asked = other;
                if (other == door) {
                    Due.same("thingAt(" + door + ")", x.thingAt(door), kind);
                } else {
                    Due.throwing("thingAt(" + other + ")", Due.NO_ELEMENT, () -> x.thingAt(asked));
                }
            }
        }
    }

    @Sentence(of = "Promise 25", says = "Returns the kind.")
    static void thingAtReturnsTheKind() {
        DivisorLockers x = Made.open(33, 34);
        x.store(33, 0);
        x.store(34, 1);
        Due.same("a coat: thingAt(33)", x.thingAt(33), 0);
        Due.same("a hat: thingAt(34)", x.thingAt(34), 1);
        x.takeOut(34);
        x.store(34, 0);
        Due.same("a coat in its place: thingAt(34)", x.thingAt(34), 0);
        Due.asking("thingAt(9)", Made::used, y -> y.thingAt(9));
    }

    @Sentence(of = "Promise 25", says = "Throws `IllegalArgumentException` if there is no such door")
    static void thingAtOutOfRange() {
        for (int door : Outside.NUMBERS) {
            Due.refusedAnywhere("thingAt(" + door + ")", Due.ARGUMENT, x -> x.thingAt(door));
        }
    }

    @Sentence(of = "Promise 25", says = "Throws `NoSuchElementException` if there is none")
    static void thingAtNothing() {
        for (int door : new int[] {1, 16, 17, 32, 33, 48}) {
            Due.refused("closed: thingAt(" + door + ")", Due.NO_ELEMENT, Made::fresh, x -> x.thingAt(door));
            Due.refused("open: thingAt(" + door + ")", Due.NO_ELEMENT, Made::allOpen, x -> x.thingAt(door));
            Due.refused("taken out: thingAt(" + door + ")", Due.NO_ELEMENT, () -> {
                DivisorLockers x = Made.full();
                x.takeOut(door);
                return x;
            }, x -> x.thingAt(door));
        }
    }

    // Promise 26: thingsOf

    @Sentence(of = "Promise 26", says = "Returns how many things of a kind there are.")
    static void thingsOfCountsThings() {
        DivisorLockers x = Made.allOpen();
        x.store(1, 0);
        x.store(48, 0);
        x.store(17, 1);
        Due.same("two coats, a hat: thingsOf(0)", x.thingsOf(0), 2);
        Due.same("two coats, a hat: thingsOf(1)", x.thingsOf(1), 1);
        x.pass(1);
        Due.same("all closed: thingsOf(0)", x.thingsOf(0), 2);
        Due.same("all closed: thingsOf(1)", x.thingsOf(1), 1);
        x.pass(1);
        x.takeOut(48);
        Due.same("a coat taken out: thingsOf(0)", x.thingsOf(0), 1);
        Due.same("a coat taken out: thingsOf(1)", x.thingsOf(1), 1);
    }

    @Sentence(of = "Promise 26", says = "`kind`: 0 or 1")
    static void thingsOfKind0Or1() {
        Due.same("full: thingsOf(0)", Made.full().thingsOf(0), 24);
        Due.same("full: thingsOf(1)", Made.full().thingsOf(1), 24);
    }

    @Sentence(of = "Promise 26", says = "Returns how many.")
    static void thingsOfFromNoneOn() {
        DivisorLockers x = Made.allOpen();
        Due.same("none: thingsOf(0)", x.thingsOf(0), 0);
        Due.same("none: thingsOf(1)", x.thingsOf(1), 0);
        for (int door = 17; door <= 48; door++) {
            x.store(door, 1);
            Due.same("hats to " + door + ": thingsOf(1)", x.thingsOf(1), door - 16);
            Due.same("hats to " + door + ": thingsOf(0)", x.thingsOf(0), 0);
        }
    }

    @Sentence(of = "Promise 26", says = "Throws `IllegalArgumentException` if kind is out of range")
    static void thingsOfOutOfRange() {
        for (int kind : Outside.KINDS) {
            Due.refusedAnywhere("thingsOf(" + kind + ")", Due.ARGUMENT, x -> x.thingsOf(kind));
        }
    }

    // Promise 27: shutAway

    @Sentence(of = "Promise 27", says = "Returns how many things are behind closed doors.")
    static void shutAwayCountsThingsBehindClosedDoors() {
        DivisorLockers x = Made.full();
        for (int door = 1; door <= 48; door++) {
            x.turnDoor(door);
            Due.same("full, closed to " + door + ": shutAway()", x.shutAway(), door);
        }
        x.turnLock(48);
        Due.same("full, closed, one locked: shutAway()", x.shutAway(), 48);
    }

    @Sentence(of = "Promise 27", says = "Returns how many.")
    static void shutAwayOfNone() {
        Due.same("closed, nothing there: shutAway()", new DivisorLockers().shutAway(), 0);
        Due.same("open, nothing there: shutAway()", Made.allOpen().shutAway(), 0);
        Due.same("open, things there: shutAway()", Made.full().shutAway(), 0);
        DivisorLockers x = Made.full();
        x.turnLock(3);
        Due.same("open and locked, a coat there: shutAway()", x.shutAway(), 0);
        x.takeOut(1);
        x.turnDoor(1);
        Due.same("one closed, nothing there: shutAway()", x.shutAway(), 0);
        x.turnDoor(2);
        Due.same("another closed, a coat there: shutAway()", x.shutAway(), 1);
        x.turnDoor(17);
        Due.same("another closed, a hat there: shutAway()", x.shutAway(), 2);
    }
}

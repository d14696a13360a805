/** The sentences of "Things" in the terms. */
final class ThingTermsSentences {
    private ThingTermsSentences() {
    }

    @Sentence(of = "Things", says = "Behind each door there can be a thing,")
    static void behindEachDoorOneThing() {
        DivisorLockers x = Made.full();
        Due.same("a thing behind each: thingsOf(0) + thingsOf(1)", x.thingsOf(0) + x.thingsOf(1), 48);
        for (int door = 1; door <= 48; door++) {
            Due.same("a thing behind each: whyNot(" + door + ", 0)", x.whyNot(door, 0), 2);
            Due.same("a thing behind each: whyNot(" + door + ", 1)", x.whyNot(door, 1), 2);
        }
    }

    @Sentence(of = "Things", says = "a coat (kind 0) or a hat (kind 1).")
    static void kinds0And1() {
        DivisorLockers x = Made.open(1, 17);
        Due.same("a coat: store(1, 0)", x.store(1, 0), 1);
        Due.same("a hat: store(17, 1)", x.store(17, 1), 1);
        Due.same("the coat: thingAt(1)", x.thingAt(1), 0);
        Due.same("the hat: thingAt(17)", x.thingAt(17), 1);
        Due.throwing("kind -1: whyNot(33, -1)", Due.ARGUMENT, () -> x.whyNot(33, -1));
        Due.throwing("kind 2: whyNot(33, 2)", Due.ARGUMENT, () -> x.whyNot(33, 2));
    }

    private static void kindsBehind(int door, int coat, int hat) {
        Due.same("whyNot(" + door + ", 0)", Made.allOpen().whyNot(door, 0), coat);
        Due.same("whyNot(" + door + ", 1)", Made.allOpen().whyNot(door, 1), hat);
        for (int kind = 0; kind <= 1; kind++) {
            String order = "t" + door + "," + kind + ";";
            int asked = kind;
            if ((kind == 0 ? coat : hat) == 0) {
                Due.same("store(" + door + ", " + kind + ")", Made.allOpen().store(door, kind), 1);
                Due.same(order + " play()", Made.text(Made.allOpen(), order).play(), 1);
            } else {
                Due.throwing("store(" + door + ", " + kind + ")", Due.STATE, () -> Made.allOpen().store(door, asked));
                Due.same(order + " faultCause()", Made.text(Made.allOpen(), order).faultCause(), 2);
            }
        }
    }

    @Sentence(of = "Things", says = "Behind the doors 1 to 16 only coats can be,")
    static void coatsBehind1To16() {
        for (int door = 1; door <= 16; door++) {
            kindsBehind(door, 0, 3);
        }
    }

    @Sentence(of = "Things", says = "behind 17 to 32 only hats,")
    static void hatsBehind17To32() {
        for (int door = 17; door <= 32; door++) {
            kindsBehind(door, 3, 0);
        }
    }

    @Sentence(of = "Things", says = "behind the others both.")
    static void bothBehind33To48() {
        for (int door = 33; door <= 48; door++) {
            kindsBehind(door, 0, 0);
        }
    }

    @Sentence(of = "Things", says = "A thing is not stored for the first of these reasons that is so:")
    static void theFirstReasonIsTold() {
        DivisorLockers x = Made.open(16, 32);
        x.store(16, 0);
        Due.same("there, wrong kind: whyNot(16, 1)", x.whyNot(16, 1), 2);
        x.turnDoor(16);
        Due.same("closed, there, wrong kind: whyNot(16, 1)", x.whyNot(16, 1), 1);
        Due.same("closed, there: whyNot(16, 0)", x.whyNot(16, 0), 1);
        x.turnDoor(32);
        Due.same("closed, wrong kind: whyNot(32, 0)", x.whyNot(32, 0), 1);
    }

    @Sentence(of = "Things", says = "1 the door is closed;")
    static void notBehindAClosedDoor() {
        DivisorLockers x = new DivisorLockers();
        for (int door = 1; door <= 48; door++) {
            Due.same("closed: whyNot(" + door + ", 0)", x.whyNot(door, 0), 1);
            Due.same("closed: whyNot(" + door + ", 1)", x.whyNot(door, 1), 1);
        }
        Due.refused("closed: store(33, 0)", Due.STATE, Made::fresh, y -> y.store(33, 0));
        x.turnDoor(33);
        x.turnLock(33);
        Due.same("open and locked: whyNot(33, 0)", x.whyNot(33, 0), 0);
    }

    @Sentence(of = "Things", says = "2 there is a thing already;")
    static void notBesideAThing() {
        DivisorLockers x = Made.open(33);
        Due.same("nothing: whyNot(33, 1)", x.whyNot(33, 1), 0);
        x.store(33, 1);
        Due.same("a hat: whyNot(33, 0)", x.whyNot(33, 0), 2);
        Due.same("a hat: whyNot(33, 1)", x.whyNot(33, 1), 2);
        Due.refused("a thing: store(33, 0)", Due.STATE, Made::full, y -> y.store(33, 0));
        x.takeOut(33);
        Due.same("taken out: whyNot(33, 0)", x.whyNot(33, 0), 0);
    }

    @Sentence(of = "Things", says = "3 it is of a kind that cannot be there.")
    static void notOfAnotherKind() {
        DivisorLockers x = Made.allOpen();
        Due.same("a hat: whyNot(16, 1)", x.whyNot(16, 1), 3);
        Due.same("a coat: whyNot(17, 0)", x.whyNot(17, 0), 3);
        Due.same("a coat: whyNot(32, 0)", x.whyNot(32, 0), 3);
        Due.refused("a hat: store(16, 1)", Due.STATE, Made::allOpen, y -> y.store(16, 1));
        Due.refused("a coat: store(17, 0)", Due.STATE, Made::allOpen, y -> y.store(17, 0));
    }
}

/** The sentences of the promises 35 to 42. */
final class TextsSentences {
    private static final String FULL = "p01;".repeat(15);

    private TextsSentences() {
    }

    // Promise 35: states

    @Sentence(of = "Promise 35", says = "Returns how many states the history has.")
    static void statesCountsThem() {
        DivisorLockers x = Made.open(1, 2);
        Due.same("2 changes: states()", x.states(), 2);
        Due.same("2 changes: states() again", x.states(), 2);
        x.undo();
        Due.same("one undone: states()", x.states(), 1);
        x.undo();
        Due.same("both undone: states()", x.states(), 0);
        x.pass(1);
        Due.same("one more: states()", x.states(), 1);
        Due.asking("states()", Made::used, DivisorLockers::states);
    }

    @Sentence(of = "Promise 35", says = "Returns how many, 0 to 4.")
    static void statesFrom0To4() {
        DivisorLockers x = new DivisorLockers();
        Due.same("new: states()", x.states(), 0);
        for (int changes = 1; changes <= 100; changes++) {
            x.turnLock(1 + changes % 48);
            Due.same(changes + " changes: states()", x.states(), changes < 4 ? changes : 4);
        }
    }

    // Promise 36: undo

    @Sentence(of = "Promise 36", says = "Restores the latest state of the history,")
    static void undoRestoresTheLatest() {
        DivisorLockers x = Made.open(1, 2, 3);
        x.undo();
        Due.same("undo() of 3: openSet()", x.openSet(), Made.set(1, 2));
        x.undo();
        Due.same("undo() of 2: openSet()", x.openSet(), Made.set(1));
        x.turnDoor(4);
        x.undo();
        Due.same("undo() of 4: openSet()", x.openSet(), Made.set(1));
        x.undo();
        Due.same("undo() of 1: openSet()", x.openSet(), 0L);
        Due.same("undo() of 1: turnsInAll()", x.turnsInAll(), 0);
    }

    @Sentence(of = "Promise 36", says = "which is removed from it.")
    static void undoRemovesTheState() {
        DivisorLockers x = Made.open(1, 2, 3, 4, 5);
        for (int left = 3; left >= 0; left--) {
            x.undo();
            Due.same("undo(): states()", x.states(), left);
        }
        Due.same("4 undone: openSet()", x.openSet(), Made.set(1));
        Due.throwing("4 undone: undo()", Due.STATE, x::undo);
        x.turnDoor(2);
        Due.same("one change then: states()", x.states(), 1);
    }

    @Sentence(of = "Promise 36", says = "Returns the number of states that are left.")
    static void undoReturnsTheStatesLeft() {
        DivisorLockers x = Made.open(1, 2, 3, 4, 5, 6);
        Due.same("full: undo()", x.undo(), 3);
        Due.same("undo()", x.undo(), 2);
        Due.same("undo()", x.undo(), 1);
        Due.same("the last: undo()", x.undo(), 0);
        x.pass(1);
        Due.same("the only: undo()", x.undo(), 0);
    }

    @Sentence(of = "Promise 36", says = "Throws `IllegalStateException` if the history is empty")
    static void undoOfAnEmptyHistory() {
        Due.refused("new: undo()", Due.STATE, Made::fresh, DivisorLockers::undo);
        Due.refused("all undone, with a text and a snapshot: undo()", Due.STATE, () -> {
            DivisorLockers x = Made.text(Made.open(1, 2, 3, 4, 5), "p1;");
            x.keep();
            for (int times = 1; times <= 4; times++) {
                x.undo();
            }
            return x;
        }, DivisorLockers::undo);
    }

    // Promise 37: type

    @Sentence(of = "Promise 37", says = "Appends a character to the text.")
    static void typeAppends() {
        DivisorLockers x = new DivisorLockers();
        x.type('d');
        x.type('1');
        x.type('2');
        x.type(';');
        x.play();
        Due.same("\"d12;\": openSet()", x.openSet(), Made.set(12));
        x.type('p');
        Due.same("\"d12;p\": faultPosition()", x.faultPosition(), 4);
        Due.same("typed: states()", x.states(), 1);
    }

    @Sentence(of = "Promise 37", says = "`character`: 32 to 126")
    static void typeFrom32To126() {
        for (int character = 32; character <= 126; character++) {
            Due.same("type(" + character + ")", new DivisorLockers().type(character), 1);
        }
    }

    @Sentence(of = "Promise 37", says = "Returns the length of the text.")
    static void typeReturnsTheLength() {
        DivisorLockers x = new DivisorLockers();
        for (int length = 1; length <= 60; length++) {
            Due.same("type(32)", x.type(32), length);
        }
        x.clearText();
        Due.same("cleared: type(32)", x.type(32), 1);
    }

    @Sentence(of = "Promise 37", says = "Throws `IllegalArgumentException` if character is out of range")
    static void typeOutOfRange() {
        for (int character : Outside.CHARACTERS) {
            Due.refusedAnywhere("type(" + character + ")", Due.ARGUMENT, x -> x.type(character));
        }
    }

    @Sentence(of = "Promise 37", says = "Throws `IllegalStateException` if the text has 60 characters")
    static void typeIntoAFullText() {
        for (int character : new int[] {32, ';', 'p', 126}) {
            Due.refused("60 characters: type(" + character + ")", Due.STATE, () -> Made.withText(FULL),
                    x -> x.type(character));
            Due.refused("60 other characters: type(" + character + ")", Due.STATE, () -> Made.withText("x".repeat(60)),
                    x -> x.type(character));
        }
        Due.same("59 characters: type(126)", Made.withText("x".repeat(59)).type(126), 60);
    }

    // Promise 38: clearText

    @Sentence(of = "Promise 38", says = "Empties the text.")
    static void clearTextEmpties() {
        DivisorLockers x = Made.withText("p1;x");
        x.clearText();
        Due.same("cleared: fault", Seen.fault(x), "none");
        Due.same("cleared: play()", x.play(), 0);
        Due.same("cleared: openDoors()", x.openDoors(), 0);
        Made.text(x, "p48;");
        Due.same("typed again: play()", x.play(), 1);
        Due.same("typed again: openSet()", x.openSet(), Made.set(48));
        Due.same("clearText(): states()", x.states(), 2);
        for (String text : new String[] {"p", "p1", "r1,2", "t48,1"}) {
            DivisorLockers y = Made.withText("t48,1;p123");
            y.clearText();
            Made.text(y, text);
            Due.same("\"" + text + "\" in place of a longer one: fault", Seen.fault(y), "0/1/" + text.length());
        }
    }

    @Sentence(of = "Promise 38", says = "Returns the length that it had.")
    static void clearTextReturnsTheLength() {
        for (int length = 0; length <= 60; length++) {
            DivisorLockers x = Made.withText(";".repeat(length));
            Due.same(length + " characters: clearText()", x.clearText(), length);
            Due.same("none: clearText()", x.clearText(), 0);
        }
    }

    // Promise 39: faultPosition

    @Sentence(of = "Promise 39", says = "Tells the position of the fault of the text.")
    static void faultPositionOfTheFault() {
        Due.same("\"x\": faultPosition()", Made.withText("x").faultPosition(), 0);
        Due.same("\"p1;p49;\": faultPosition()", Made.withText("p1;p49;").faultPosition(), 3);
        Due.same("\"p1;p4\": faultPosition()", Made.withText("p1;p4").faultPosition(), 3);
        Due.asking("faultPosition()", () -> Made.text(Made.used(), "p1;d9;"), DivisorLockers::faultPosition);
    }

    @Sentence(of = "Promise 39", says = "Returns the position.")
    static void faultPositionFrom0To59() {
        for (int orders = 0; orders <= 19; orders++) {
            Due.same(orders + " orders: faultPosition()", Made.withText("p1;".repeat(orders) + "x").faultPosition(),
                    3 * orders);
        }
        Due.same("at 59: faultPosition()", Made.withText("p1;".repeat(17) + "p01;p01;x").faultPosition(), 59);
    }

    @Sentence(of = "Promise 39", says = "Throws `NoSuchElementException` if the text has no fault")
    static void faultPositionOfNone() {
        Due.refused("\"p1;\": faultPosition()", Due.NO_ELEMENT, () -> Made.withText("p1;"), DivisorLockers::faultPosition);
        Due.refused("60 characters: faultPosition()", Due.NO_ELEMENT, () -> Made.withText(FULL),
                DivisorLockers::faultPosition);
        Due.refused("used: faultPosition()", Due.NO_ELEMENT, Made::used, DivisorLockers::faultPosition);
    }

    @Sentence(of = "Promise 39", says = "(also if it is empty)")
    static void faultPositionOfAnEmptyText() {
        Due.refused("empty: faultPosition()", Due.NO_ELEMENT, Made::fresh, DivisorLockers::faultPosition);
        DivisorLockers x = Made.withText("x");
        x.clearText();
        Due.throwing("emptied: faultPosition()", Due.NO_ELEMENT, x::faultPosition);
    }

    // Promise 40: faultReason

    @Sentence(of = "Promise 40", says = "Tells the reason of the fault of the text.")
    static void faultReasonOfTheFault() {
        Due.same("\"p1;x;p0;\": faultReason()", Made.withText("p1;x;p0;").faultReason(), 1);
        Due.same("\"p1;p0;x;\": faultReason()", Made.withText("p1;p0;x;").faultReason(), 2);
        Due.asking("faultReason()", () -> Made.text(Made.used(), "p1;d9;"), DivisorLockers::faultReason);
    }

    @Sentence(of = "Promise 40", says = "Returns 1 or 2.")
    static void faultReason1Or2() {
        Due.same("\"p\": faultReason()", Made.withText("p").faultReason(), 1);
        Due.same("\"p49\": faultReason()", Made.withText("p49").faultReason(), 1);
        Due.same("\"p49;\": faultReason()", Made.withText("p49;").faultReason(), 2);
        Due.same("\"t1,0;\": faultReason()", Made.withText("t1,0;").faultReason(), 2);
    }

    @Sentence(of = "Promise 40", says = "Throws `NoSuchElementException` if the text has no fault")
    static void faultReasonOfNone() {
        Due.refused("empty: faultReason()", Due.NO_ELEMENT, Made::fresh, DivisorLockers::faultReason);
        Due.refused("\"p1;\": faultReason()", Due.NO_ELEMENT, () -> Made.withText("p1;"), DivisorLockers::faultReason);
        Due.refused("60 characters: faultReason()", Due.NO_ELEMENT, () -> Made.withText(FULL),
                DivisorLockers::faultReason);
    }

    // Promise 41: faultCause

    @Sentence(of = "Promise 41", says = "Tells the cause of the fault of the text.")
    static void faultCauseOfTheFault() {
        Due.same("\"p1;p12x\": faultCause()", Made.withText("p1;p12x").faultCause(), 3);
        Due.same("\"p1;r12,34\": faultCause()", Made.withText("p1;r12,34").faultCause(), 6);
        Due.asking("faultCause()", () -> Made.text(Made.used(), "p1;d9;"), DivisorLockers::faultCause);
    }

    @Sentence(of = "Promise 41", says = "Returns the cause, as told.")
    static void faultCauseAsTold() {
        Due.same("\"x\", the first character: faultCause()", Made.withText("x").faultCause(), 0);
        Due.same("\"p\", too early: faultCause()", Made.withText("p").faultCause(), 1);
        Due.same("\"t12,345\", the longest: faultCause()", Made.withText("t12,345").faultCause(), 6);
        Due.same("\"p49;\", an argument: faultCause()", Made.withText("p49;").faultCause(), 1);
        Due.same("\"t1,0;\", a state: faultCause()", Made.withText("t1,0;").faultCause(), 2);
        Due.same("\"t1,2;\", both: faultCause()", Made.withText("t1,2;").faultCause(), 1);
    }

    @Sentence(of = "Promise 41", says = "Throws `NoSuchElementException` if the text has no fault")
    static void faultCauseOfNone() {
        Due.refused("empty: faultCause()", Due.NO_ELEMENT, Made::fresh, DivisorLockers::faultCause);
        Due.refused("\"p1;\": faultCause()", Due.NO_ELEMENT, () -> Made.withText("p1;"), DivisorLockers::faultCause);
        Due.refused("60 characters: faultCause()", Due.NO_ELEMENT, () -> Made.withText(FULL), DivisorLockers::faultCause);
    }

    // Promise 42: play

    @Sentence(of = "Promise 42", says = "Does all orders of the text,")
    static void playDoesAllOrders() {
        DivisorLockers x = Made.withText("l3;r1,3;d5;p48;l4;t1,0;t47,1;");
        Due.same("play()", x.play(), 7);
        DivisorLockers y = new DivisorLockers();
        y.turnLock(3);
        y.passRow(1, 3);
        y.turnDoor(5);
        y.pass(48);
        y.turnLock(4);
        y.store(1, 0);
        y.store(47, 1);
        Due.same("play(): everything", Seen.row(x), Seen.row(y));
        DivisorLockers full = Made.withText("d1;".repeat(19) + "d2;");
        full.play();
        Due.same("20 orders: openSet()", full.openSet(), Made.set(1, 2));
        Due.same("20 orders: turnsOf(1)", full.turnsOf(1), 19);
    }

    @Sentence(of = "Promise 42", says = "which stays.")
    static void playLeavesTheText() {
        DivisorLockers x = Made.withText("p48;d1;");
        for (int times = 1; times <= 3; times++) {
            Due.same("play() again", x.play(), 2);
            Due.same("play() again: timesOf(48)", x.timesOf(48), times);
        }
        Due.same("played: clearText()", x.clearText(), 7);
    }

    @Sentence(of = "Promise 42", says = "They are one change,")
    static void playIsOneChange() {
        DivisorLockers x = Made.text(Made.open(1), "p1;p2;p3;p4;p5;p6;");
        x.play();
        Due.same("6 orders: states()", x.states(), 2);
        Due.same("6 orders, undo()", x.undo(), 1);
        Due.same("6 orders undone: openSet()", x.openSet(), Made.set(1));
        Due.same("6 orders undone: turnsInAll()", x.turnsInAll(), 1);
        Due.same("6 orders undone: timesOf(6)", x.timesOf(6), 0);
        DivisorLockers full = Made.full();
        full.play();
        Due.same("full: states()", full.states(), 4);
        full.undo();
        Due.same("full, undone: isLocked(1)", full.isLocked(1), false);
    }

    @Sentence(of = "Promise 42", says = "also if there are none.")
    static void playOfNoneIsOneChange() {
        DivisorLockers x = new DivisorLockers();
        for (int times = 1; times <= 6; times++) {
            Due.same("empty: play()", x.play(), 0);
            Due.same("empty: states()", x.states(), times < 4 ? times : 4);
        }
        DivisorLockers y = Made.open(1);
        y.play();
        Due.same("empty, undo()", y.undo(), 1);
        Due.same("empty, undone: openSet()", y.openSet(), Made.set(1));
        Due.same("the one before: undo()", y.undo(), 0);
        Due.same("the one before, undone: openSet()", y.openSet(), 0L);
        DivisorLockers dropping = Made.open(1, 2, 3, 4);
        dropping.play();
        for (int times = 1; times <= 4; times++) {
            dropping.undo();
        }
        Due.same("play() of none as the fifth, all undone: openSet()", dropping.openSet(), Made.set(1));
    }

    @Sentence(of = "Promise 42", says = "Returns how many there are in it.")
    static void playReturnsTheOrders() {
        Due.same("empty: play()", new DivisorLockers().play(), 0);
        for (int orders = 1; orders <= 20; orders++) {
            Due.same(orders + " orders: play()", Made.withText("p1;".repeat(orders)).play(), orders);
        }
        Due.same("a row is one order: play()", Made.withText("r1,48;").play(), 1);
        DivisorLockers skipping = Made.withText("r1,1;");
        skipping.turnSkip(1);
        Due.same("a row of no pass is one order: play()", skipping.play(), 1);
    }

    @Sentence(of = "Promise 42", says = "Throws `IllegalStateException` if the text has a fault")
    static void playOfAFault() {
        for (String text : new String[] {"x", "p", "p1", "p49;", "d0;", "r2,1;", "t1,0;", "t1,2;", "l1;d1;", "p1;p2;p3",
            "p1;".repeat(19) + "x", "r1,48;".repeat(9) + "t2,0;;"}) {
            Due.refused("\"" + text + "\": play()", Due.STATE, () -> Made.withText(text), DivisorLockers::play);
        }
        Due.refused("used, \"d9;\": play()", Due.STATE, () -> Made.text(Made.used(), "d1;d9;"), DivisorLockers::play);
    }
}

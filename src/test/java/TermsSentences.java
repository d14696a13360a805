import java.lang.reflect.Method;
import java.lang.reflect.Modifier;
import java.util.Set;
import java.util.TreeSet;

/** The sentences of "What it is" and of "Terms" up to the things. */
final class TermsSentences {
    /** The numbers up to 48 that no square above 1 divides. */
    private static final int[] WITHOUT_SQUARES = {1, 2, 3, 5, 6, 7, 10, 11, 13, 14, 15, 17, 19, 21, 22, 23, 26, 29, 30,
        31, 33, 34, 35, 37, 38, 39, 41, 42, 43, 46, 47};

    private TermsSentences() {
    }

    @Sentence(of = "What it is", says = "An object is used for at most 512 calls after it has been made; "
            + "what later calls answer is free.")
    static void theCall512Answers() {
        DivisorLockers passes = new DivisorLockers();
        for (int call = 1; call <= 511; call++) {
            passes.pass(48);
        }
        Due.same("pass(48) 511 times: timesOf(48)", passes.timesOf(48), 511);
        DivisorLockers doors = new DivisorLockers();
        for (int call = 1; call <= 511; call++) {
            doors.turnDoor(1);
        }
        Due.same("turnDoor(1) 511 times: turnDoor(1)", doors.turnDoor(1), false);
        DivisorLockers rows = new DivisorLockers();
        for (int call = 1; call <= 511; call++) {
            rows.passRow(1, 48);
        }
        Due.same("passRow(1, 48) 511 times: turnsOf(48)", rows.turnsOf(48), 511 * 10);
    }

    @Sentence(of = "What it is", says = "at most 512 calls")
    static void theMostTurnsOf512Calls() {
        int turnsOfARow = 0;
        for (int number = 1; number <= 48; number++) {
            turnsOfARow += 48 / number;
        }
        DivisorLockers x = Made.withText("r1,48;".repeat(10));
        for (int call = 61; call <= 511; call++) {
            x.play();
        }
        Due.same("451 plays of ten rows: turnsInAll()", x.turnsInAll(), 451 * 10 * turnsOfARow);
    }

    @Sentence(of = "Terms", says = "All numbers are whole numbers, but for the share and the sum of parts.")
    static void onlyTheShareAndTheSumAreNotWhole() {
        Set<String> others = new TreeSet<>();
        for (Method method : DivisorLockers.class.getDeclaredMethods()) {
            Class<?> type = method.getReturnType();
            if (Modifier.isPublic(method.getModifiers()) && type != int.class && type != long.class && type != boolean.class) {
                others.add(method.getName());
            }
        }
        Due.same("calls that answer no whole number", others, Set.of("share", "sumOfParts"));
    }

    @Sentence(of = "Terms", says = "There are the doors 1 to 48")
    static void thereAreTheDoors1To48() {
        Due.same("pass(1): openSet()", Made.allOpen().openSet(), Made.set(1, 2, 3, 4, 5, 6, 7, 8, 9, 10, 11, 12, 13, 14,
                15, 16, 17, 18, 19, 20, 21, 22, 23, 24, 25, 26, 27, 28, 29, 30, 31, 32, 33, 34, 35, 36, 37, 38, 39, 40,
                41, 42, 43, 44, 45, 46, 47, 48));
        for (int door : new int[] {1, 48}) {
            Due.same("turnDoor(" + door + ")", new DivisorLockers().turnDoor(door), true);
            Due.same("\"d" + door + ";\": play()", Made.withText("d" + door + ";").play(), 1);
        }
        for (int door : new int[] {0, 49}) {
            Due.throwing("turnDoor(" + door + ")", Due.ARGUMENT, () -> new DivisorLockers().turnDoor(door));
            Due.same("\"d" + door + ";\": faultCause()", Made.withText("d" + door + ";").faultCause(), 1);
        }
    }

    @Sentence(of = "Terms", says = ", each closed (at first) or open")
    static void everyDoorIsClosedAtFirst() {
        for (int door = 1; door <= 48; door++) {
            DivisorLockers x = new DivisorLockers();
            Due.same("at first: isOpen(" + door + ")", x.isOpen(door), false);
            x.turnDoor(door);
            Due.same("turned: isOpen(" + door + ")", x.isOpen(door), true);
        }
    }

    @Sentence(of = "Terms", says = ", and locked or not (not at first).")
    static void noDoorIsLockedAtFirst() {
        for (int door = 1; door <= 48; door++) {
            DivisorLockers x = new DivisorLockers();
            Due.same("at first: isLocked(" + door + ")", x.isLocked(door), false);
            x.turnLock(door);
            Due.same("locked: isLocked(" + door + ")", x.isLocked(door), true);
        }
    }

    @Sentence(of = "Terms", says = "To turn a door means to open it, if it is closed, and to close it, if it is open;")
    static void turningOpensAndCloses() {
        DivisorLockers x = Made.open(12);
        x.pass(12);
        Due.same("12 open, pass(12): openSet()", x.openSet(), Made.set(24, 36, 48));
        x.turnDoor(24);
        x.turnDoor(1);
        Due.same("turnDoor(24), turnDoor(1): openSet()", x.openSet(), Made.set(1, 36, 48));
        Made.text(x, "d1;p36;").play();
        Due.same("\"d1;p36;\": openSet()", x.openSet(), Made.set(48));
    }

    @Sentence(of = "Terms", says = "a door that is locked is not turned.")
    static void lockedDoorsAreNotTurned() {
        DivisorLockers x = Made.open(16);
        x.turnLock(16);
        x.turnLock(32);
        x.pass(16);
        Due.same("16 and 32 locked, pass(16): openSet()", x.openSet(), Made.set(16, 48));
        x.passRow(16, 16);
        Due.same("passRow(16, 16): openSet()", x.openSet(), Made.set(16));
        Made.text(x, "p16;r16,16;p32;").play();
        Due.same("\"p16;r16,16;p32;\": openSet()", x.openSet(), Made.set(16));
        Due.same("turnsOf(16)", x.turnsOf(16), 1);
        Due.same("turnsOf(32)", x.turnsOf(32), 0);
        Due.same("turnsOf(48)", x.turnsOf(48), 4);
        Due.throwing("turnDoor(16)", Due.STATE, () -> x.turnDoor(16));
        Due.throwing("turnDoor(32)", Due.STATE, () -> x.turnDoor(32));
        Due.same("wouldBeOpen(16, 16)", x.wouldBeOpen(16, 16), 2);
    }

    @Sentence(of = "Terms", says = "The pass k, 1 to 48, turns all doors that k divides.")
    static void aPassTurnsTheDoorsThatItDivides() {
        for (int number = 1; number <= 48; number++) {
            DivisorLockers x = new DivisorLockers();
            x.pass(number);
            for (int door = 1; door <= 48; door++) {
                Due.same("pass(" + number + "): isOpen(" + door + ")", x.isOpen(door), door % number == 0);
            }
        }
        DivisorLockers x = new DivisorLockers();
        x.pass(24);
        Due.same("pass(24): openSet()", x.openSet(), Made.set(24, 48));
        x.pass(25);
        Due.same("pass(25): openSet()", x.openSet(), Made.set(24, 25, 48));
    }

    @Sentence(of = "Terms", says = "A pass may be skipped (none is at first):")
    static void noPassIsSkippedAtFirst() {
        for (int number = 1; number <= 48; number++) {
            DivisorLockers x = new DivisorLockers();
            Due.same("at first: isSkipped(" + number + ")", x.isSkipped(number), false);
            x.turnSkip(number);
            Due.same("skipped: isSkipped(" + number + ")", x.isSkipped(number), true);
        }
        Due.same("at first: passRow(1, 48)", new DivisorLockers().passRow(1, 48), 48);
    }

    @Sentence(of = "Terms", says = "passes in a row leave it out;")
    static void rowsLeaveSkippedPassesOut() {
        for (int number : new int[] {1, 24, 48}) {
            DivisorLockers x = new DivisorLockers();
            x.turnSkip(number);
            Due.same(number + " skipped: passRow(1, 48)", x.passRow(1, 48), 47);
            Due.same(number + " skipped: timesOf(" + number + ")", x.timesOf(number), 0);
            Due.same(number + " skipped: turnsOf(48)", x.turnsOf(48), 9);
            Due.same(number + " skipped: passRow of it alone", x.passRow(number, number), 0);
            Made.text(x, "r" + number + "," + number + ";").play();
            Due.same(number + " skipped, play: timesOf(" + number + ")", x.timesOf(number), 0);
            Due.same(number + " skipped: turnsOf(48) still", x.turnsOf(48), 9);
        }
    }

    @Sentence(of = "Terms", says = "a pass that is asked for alone is made all the same.")
    static void aSkippedPassAloneIsMade() {
        for (int number : new int[] {1, 24, 48}) {
            DivisorLockers x = new DivisorLockers();
            x.turnSkip(number);
            Due.same(number + " skipped: pass(" + number + ")", x.pass(number), 48 / number);
            Due.same(number + " skipped: timesOf(" + number + ")", x.timesOf(number), 1);
            Made.text(x, "p" + number + ";").play();
            Due.same(number + " skipped, play: openDoors()", x.openDoors(), 0);
            Due.same(number + " skipped, play: timesOf(" + number + ")", x.timesOf(number), 2);
            Due.same(number + " skipped still", x.isSkipped(number), true);
        }
    }

    @Sentence(of = "Terms", says = "How often a pass was made is counted, whether doors were locked or not.")
    static void passesCountBesideLockedDoors() {
        DivisorLockers x = new DivisorLockers();
        x.turnLock(24);
        x.turnLock(48);
        Due.same("24 and 48 locked: pass(24)", x.pass(24), 0);
        Due.same("pass(24): timesOf(24)", x.timesOf(24), 1);
        Due.same("passRow(24, 24)", x.passRow(24, 24), 1);
        Due.same("passRow(24, 24): timesOf(24)", x.timesOf(24), 2);
        Made.text(x, "p24;r24,24;").play();
        Due.same("\"p24;r24,24;\": timesOf(24)", x.timesOf(24), 4);
        Due.same("turnsInAll()", x.turnsInAll(), 0);
        Due.same("timesOf(23)", x.timesOf(23), 0);
    }

    /** Every set of two passes at most is found again when it was made, so no other set is answered for it. */
    @Sentence(of = "Terms", says = "The passes that would close all doors are the one set of passes by which, "
            + "if each was made once,")
    static void theClosingPassesCloseAll() {
        for (int first = 1; first <= 48; first++) {
            for (int second = first; second <= 48; second++) {
                DivisorLockers x = new DivisorLockers();
                x.pass(first);
                x.passRow(first == second ? 1 : second, second);
                long made = 1L << first ^ (first == second ? (1L << second + 1) - 2 : 1L << second);
                Due.same("closingPasses() of " + first + " and " + second, x.closingPasses(), made);
                Due.same("closingByDivisors() of " + first + " and " + second, x.closingByDivisors(), made);
                for (int number = 1; number <= 48; number++) {
                    if ((made >> number & 1L) == 1L) {
                        x.pass(number);
                    }
                }
                Due.same("passes of " + first + " and " + second + " made: openDoors()", x.openDoors(), 0);
                Due.same("all closed: closingPasses()", x.closingPasses(), 0L);
            }
        }
    }

    @Sentence(of = "Terms", says = "and no door was locked, all doors would be closed.")
    static void theClosingPassesTakeNoDoorForLocked() {
        DivisorLockers x = Made.open(12, 24);
        for (int door = 1; door <= 48; door++) {
            x.turnLock(door);
        }
        Due.same("12, 24 open, all locked: closingPasses()", x.closingPasses(), Made.set(12, 36, 48));
        Due.same("12, 24 open, all locked: closingByDivisors()", x.closingByDivisors(), Made.set(12, 36, 48));
        Due.same("12, 24 open, all locked: passesToClose()", x.passesToClose(), 3);
    }

    @Sentence(of = "Terms", says = "Found by going up the row: from the door 1 on, if a door is open then, "
            + "the pass with its number is one of them, and is made.")
    static void closingFoundByGoingUp() {
        Due.same("none open: closingPasses()", new DivisorLockers().closingPasses(), 0L);
        Due.same("1 open: closingPasses()", Made.open(1).closingPasses(), Made.set(WITHOUT_SQUARES));
        Due.same("48 open: closingPasses()", Made.open(48).closingPasses(), Made.set(48));
        Due.same("24 open: closingPasses()", Made.open(24).closingPasses(), Made.set(24, 48));
        Due.same("25 open: closingPasses()", Made.open(25).closingPasses(), Made.set(25));
        Due.same("12 open: closingPasses()", Made.open(12).closingPasses(), Made.set(12, 24, 36));
        Due.same("2, 4 open: closingPasses()", Made.open(2, 4).closingPasses(),
                Made.set(2, 6, 8, 10, 14, 22, 24, 26, 30, 34, 38, 40, 42, 46));
        Due.same("all open: closingPasses()", Made.allOpen().closingPasses(), Made.set(1));
    }

    @Sentence(of = "Terms", says = "Found by divisors: the pass k is one of them, "
            + "if an odd number of open doors d is such that d divides k,")
    static void closingFoundByAnOddNumberOfDoors() {
        Due.same("none open: closingByDivisors()", new DivisorLockers().closingByDivisors(), 0L);
        Due.same("2 open, pass 6", Made.open(2).closingByDivisors() >> 6 & 1L, 1L);
        Due.same("2, 3 open, pass 6", Made.open(2, 3).closingByDivisors() >> 6 & 1L, 0L);
        Due.same("1, 2, 3 open, pass 6", Made.open(1, 2, 3).closingByDivisors() >> 6 & 1L, 1L);
        Due.same("1, 2, 3, 6 open, pass 6", Made.open(1, 2, 3, 6).closingByDivisors() >> 6 & 1L, 0L);
        Due.same("48 open: closingByDivisors()", Made.open(48).closingByDivisors(), Made.set(48));
        Due.same("24 open: closingByDivisors()", Made.open(24).closingByDivisors(), Made.set(24, 48));
        Due.same("25 open: closingByDivisors()", Made.open(25).closingByDivisors(), Made.set(25));
        Due.same("all open: closingByDivisors()", Made.allOpen().closingByDivisors(), Made.set(1));
    }

    @Sentence(of = "Terms", says = "and no square above 1 divides k / d.")
    static void closingLeavesSquaresOut() {
        Due.same("1 open: closingByDivisors()", Made.open(1).closingByDivisors(), Made.set(WITHOUT_SQUARES));
        long ofOne = Made.open(1).closingByDivisors();
        for (int number : new int[] {4, 8, 9, 16, 18, 25, 27, 32, 36, 45, 48}) {
            Due.same("1 open, pass " + number, ofOne >> number & 1L, 0L);
        }
        Due.same("12 open: closingByDivisors()", Made.open(12).closingByDivisors(), Made.set(12, 24, 36));
        Due.same("3 open, pass 12", Made.open(3).closingByDivisors() >> 12 & 1L, 0L);
        Due.same("5 open, pass 45", Made.open(5).closingByDivisors() >> 45 & 1L, 0L);
        Due.same("16 open, pass 16: the square 1", Made.open(16).closingByDivisors() >> 16 & 1L, 1L);
    }
}

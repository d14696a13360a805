/** The sentences of the promises 28 to 34. */
final class SharesSentences {
    private SharesSentences() {
    }

    // Promise 28: share

    @Sentence(of = "Promise 28", says = "Returns the share of doors that are open: "
            + "how many they are, as a float, divided by 48, as a float.")
    static void shareOfOpenDoors() {
        DivisorLockers x = new DivisorLockers();
        for (int open = 1; open <= 48; open++) {
            x.turnDoor(open);
            Due.same(open + " open: share()", x.share(), (float) open / 48f);
        }
    }

    @Sentence(of = "Promise 28", says = "Returns the share.")
    static void shareFrom0To1() {
        Due.same("none open: share()", new DivisorLockers().share(), 0f);
        Due.same("all open: share()", Made.allOpen().share(), 1f);
        Due.same("48 open: share()", Made.open(48).share(), 0.020833334f);
        DivisorLockers half = Made.allOpen();
        half.pass(2);
        Due.same("half open: share()", half.share(), 0.5f);
    }

    // Promise 29: shareBits

    @Sentence(of = "Promise 29", says = "Returns the bits of this share.")
    static void shareBitsOfTheShare() {
        DivisorLockers x = new DivisorLockers();
        for (int door = 48; door >= 1; door--) {
            x.turnDoor(door);
            Due.same(door + " to 48 open: shareBits()", x.shareBits(), Float.floatToIntBits(x.share()));
        }
    }

    @Sentence(of = "Promise 29", says = "Returns the bits, as Float.floatToIntBits tells them.")
    static void shareBitsFrom0To1() {
        Due.same("none open: shareBits()", new DivisorLockers().shareBits(), 0);
        Due.same("1 open: shareBits()", Made.open(1).shareBits(), 0x3caaaaab);
        Due.same("3 open: shareBits()", Made.open(1, 2, 3).shareBits(), 0x3d800000);
        DivisorLockers half = Made.allOpen();
        half.pass(2);
        Due.same("half open: shareBits()", half.shareBits(), 0x3f000000);
        Due.same("all open: shareBits()", Made.allOpen().shareBits(), 0x3f800000);
    }

    // Promise 30: sumOfParts

    @Sentence(of = "Promise 30", says = "Returns the sum of parts: from 0 as a float on,")
    static void sumOfPartsFrom0() {
        Due.same("none open: sumOfParts()", new DivisorLockers().sumOfParts(), 0f);
        Due.same("none open: 1 / sumOfParts(), so no -0", 1f / new DivisorLockers().sumOfParts(), Float.POSITIVE_INFINITY);
        DivisorLockers x = Made.open(2);
        x.turnDoor(2);
        Due.same("closed again: sumOfParts()", x.sumOfParts(), 0f);
    }

    /** In floats, the sums from the highest door on are other ones, of 1 to 9, say. */
    @Sentence(of = "Promise 30", says = "for each open door, the lowest first,")
    static void sumOfPartsLowestFirst() {
        for (int last = 1; last <= 48; last++) {
            float sum = 0f;
            float fromTheHighest = 0f;
            DivisorLockers x = new DivisorLockers();
            for (int door = 1; door <= last; door++) {
                sum += 1f / (float) door;
                fromTheHighest += 1f / (float) (last + 1 - door);
                x.turnDoor(last + 1 - door);
            }
            Due.same("1 to " + last + " open: sumOfParts()", x.sumOfParts(), sum);
            Due.same("1 to " + last + ": the order tells", last != 9 || sum != fromTheHighest, true);
        }
    }

    @Sentence(of = "Promise 30", says = "1 as a float, divided by the number of the door, as a float, is added.")
    static void sumOfPartsOfEachDoor() {
        for (int door = 1; door <= 48; door++) {
            Due.same(door + " open: sumOfParts()", Made.open(door).sumOfParts(), 1f / (float) door);
            if (door < 48) {
                Due.same(door + ", 48 open: sumOfParts()", Made.open(door, 48).sumOfParts(), 1f / (float) door + 1f / 48f);
            }
        }
    }

    @Sentence(of = "Promise 30", says = "Returns the sum.")
    static void sumOfPartsReturnsTheSum() {
        Due.same("1, 2, 4 open: sumOfParts()", Made.open(1, 2, 4).sumOfParts(), 1.75f);
        DivisorLockers x = Made.open(1, 2, 4);
        x.turnLock(1);
        x.turnLock(2);
        Due.same("1, 2, 4 open, 1 and 2 locked: sumOfParts()", x.sumOfParts(), 1.75f);
        Due.same("3, 7, 48 open: sumOfParts()", Made.open(3, 7, 48).sumOfParts(), 1f / 3f + 1f / 7f + 1f / 48f);
    }

    // Promise 31: sumBits

    /** With doubles all through, not with the float sum made a double. */
    @Sentence(of = "Promise 31", says = "Returns the bits of the sum of parts, told with doubles in place of floats.")
    static void sumBitsOfDoubles() {
        for (int last = 1; last <= 48; last++) {
            double sum = 0d;
            double fromTheHighest = 0d;
            DivisorLockers x = new DivisorLockers();
            for (int door = 1; door <= last; door++) {
                sum += 1d / (double) door;
                fromTheHighest += 1d / (double) (last + 1 - door);
                x.turnDoor(last + 1 - door);
            }
            Due.same("1 to " + last + " open: sumBits()", x.sumBits(), Double.doubleToLongBits(sum));
            Due.same("1 to " + last + ": the order tells", last != 9 || sum != fromTheHighest, true);
            Due.same("1 to " + last + ": floats tell another sum", last < 3
                    || x.sumBits() != Double.doubleToLongBits((double) x.sumOfParts()), true);
        }
        for (int door = 1; door <= 48; door++) {
            Due.same(door + " open: sumBits()", Made.open(door).sumBits(), Double.doubleToLongBits(1d / (double) door));
        }
    }

    @Sentence(of = "Promise 31", says = "Returns the bits, as Double.doubleToLongBits tells them.")
    static void sumBitsFrom0On() {
        Due.same("none open: sumBits()", new DivisorLockers().sumBits(), 0L);
        Due.same("1 open: sumBits()", Made.open(1).sumBits(), 0x3ff0000000000000L);
        Due.same("2 open: sumBits()", Made.open(2).sumBits(), 0x3fe0000000000000L);
        Due.same("3 open: sumBits()", Made.open(3).sumBits(), 0x3fd5555555555555L);
        Due.same("32 open: sumBits()", Made.open(32).sumBits(), 0x3fa0000000000000L);
        Due.same("1, 2, 4 open: sumBits()", Made.open(1, 2, 4).sumBits(), 0x3ffc000000000000L);
        Due.same("2, 3, 6 open: sumBits()", Made.open(2, 3, 6).sumBits(), Double.doubleToLongBits(1d / 2d + 1d / 3d + 1d / 6d));
        Due.same("1, 2, 3, 4 open, above 2: sumBits()", Made.open(1, 2, 3, 4).sumBits(),
                Double.doubleToLongBits(1d + 1d / 2d + 1d / 3d + 1d / 4d));
    }

    // Promise 32: turnsInAll

    @Sentence(of = "Promise 32", says = "Returns how often doors were turned, all together.")
    static void turnsInAllAddsThem() {
        DivisorLockers x = new DivisorLockers();
        Due.same("new: turnsInAll()", x.turnsInAll(), 0);
        x.pass(1);
        Due.same("pass(1): turnsInAll()", x.turnsInAll(), 48);
        x.turnDoor(1);
        x.turnDoor(48);
        Due.same("two by hand: turnsInAll()", x.turnsInAll(), 50);
        x.turnLock(48);
        x.pass(24);
        Due.same("48 locked, pass(24): turnsInAll()", x.turnsInAll(), 51);
        x.turnSkip(1);
        x.passRow(1, 2);
        Due.same("1 skipped, passRow(1, 2): turnsInAll()", x.turnsInAll(), 51 + 23);
    }

    @Sentence(of = "Promise 32", says = "Returns how often so far.")
    static void turnsInAllSoFar() {
        DivisorLockers x = Made.open(1);
        x.keep();
        x.passRow(1, 48);
        int all = 0;
        for (int door = 1; door <= 48; door++) {
            all += x.turnsOf(door);
        }
        Due.same("passRow(1, 48): turnsInAll()", x.turnsInAll(), all);
        x.goBack();
        Due.same("goBack(): turnsInAll()", x.turnsInAll(), 1);
        x.undo();
        Due.same("undone: turnsInAll()", x.turnsInAll(), all);
        x.undo();
        x.undo();
        Due.same("all undone: turnsInAll()", x.turnsInAll(), 0);
    }

    // Promise 33: keep

    @Sentence(of = "Promise 33", says = "Takes a snapshot, in place of the one before:")
    static void keepInPlaceOfTheOneBefore() {
        DivisorLockers x = new DivisorLockers();
        x.keep();
        x.turnDoor(1);
        Due.same("kept when new: goBack()", x.goBack(), 0);
        x.turnDoor(2);
        x.keep();
        x.turnDoor(3);
        x.goBack();
        Due.same("kept again: openSet()", x.openSet(), Made.set(2));
        x.turnDoor(4);
        x.keep();
        x.keep();
        x.turnDoor(5);
        x.goBack();
        Due.same("kept twice more: openSet()", x.openSet(), Made.set(2, 4));
    }

    @Sentence(of = "Promise 33", says = "of everything")
    static void keepOfEverything() {
        DivisorLockers x = Made.used();
        x.keep();
        x.takeOut(40);
        x.store(40, 0);
        x.store(20, 1);
        x.play();
        x.turnDoor(47);
        x.passRow(1, 48);
        for (int door = 1; door <= 48; door++) {
            x.turnLock(door);
            x.turnSkip(door);
        }
        x.goBack();
        Due.same("everything changed, goBack(): everything", Seen.row(x), Seen.row(Made.used()));
    }

    @Sentence(of = "Promise 33", says = "but the text,")
    static void keepNotOfTheText() {
        DivisorLockers x = Made.withText("p1;");
        x.keep();
        Made.text(x, "p2;");
        x.goBack();
        Due.same("typed behind keep(), goBack(): play()", x.play(), 2);
        x.clearText();
        x.goBack();
        Due.same("cleared behind keep(), goBack(): clearText()", x.clearText(), 0);
    }

    @Sentence(of = "Promise 33", says = "the history")
    static void keepNotOfTheHistory() {
        DivisorLockers x = Made.open(1, 2, 3);
        Due.same("keep()", x.keep(), 3);
        Due.same("keep(): states()", x.states(), 3);
        x.undo();
        x.undo();
        x.undo();
        x.goBack();
        Due.same("3 states, none when going back: states()", x.states(), 1);
        x.undo();
        Due.same("goBack() undone: openSet()", x.openSet(), 0L);
        DivisorLockers y = new DivisorLockers();
        y.keep();
        y.turnDoor(1);
        y.turnDoor(2);
        y.goBack();
        Due.same("no state, 2 when going back: states()", y.states(), 3);
        y.undo();
        Due.same("goBack() undone: openSet()", y.openSet(), Made.set(1, 2));
        y.undo();
        Due.same("turnDoor(2) undone: openSet()", y.openSet(), Made.set(1));
    }

    @Sentence(of = "Promise 33", says = "and itself.")
    static void keepNotOfItself() {
        DivisorLockers x = new DivisorLockers();
        x.keep();
        x.turnDoor(1);
        x.keep();
        x.turnDoor(2);
        x.goBack();
        Due.same("the later one: openSet()", x.openSet(), Made.set(1));
        x.goBack();
        Due.same("the later one still: openSet()", x.openSet(), Made.set(1));
    }

    @Sentence(of = "Promise 33", says = "Returns how many doors are open.")
    static void keepReturnsTheOpenDoors() {
        Due.same("none open: keep()", new DivisorLockers().keep(), 0);
        Due.same("48 open: keep()", Made.open(48).keep(), 1);
        Due.same("all open: keep()", Made.allOpen().keep(), 48);
        DivisorLockers x = Made.allOpen();
        x.keep();
        x.pass(2);
        Due.same("half open: keep() again", x.keep(), 24);
    }

    // Promise 34: goBack

    @Sentence(of = "Promise 34", says = "Goes back to the snapshot,")
    static void goBackToTheSnapshot() {
        DivisorLockers x = Made.open(7);
        x.turnLock(7);
        x.keep();
        x.turnLock(7);
        x.pass(1);
        x.goBack();
        Due.same("goBack(): openSet()", x.openSet(), Made.set(7));
        Due.same("goBack(): isLocked(7)", x.isLocked(7), true);
        Due.same("goBack(): timesOf(1)", x.timesOf(1), 0);
        Due.same("goBack(): turnsInAll()", x.turnsInAll(), 1);
        Due.same("goBack(): states()", x.states(), 4);
    }

    @Sentence(of = "Promise 34", says = "which stays.")
    static void goBackLeavesTheSnapshot() {
        DivisorLockers x = Made.open(7);
        x.keep();
        for (int times = 1; times <= 6; times++) {
            x.pass(1);
            x.goBack();
            Due.same("goBack() again: openSet()", x.openSet(), Made.set(7));
            Due.same("goBack() again: turnsInAll()", x.turnsInAll(), 1);
        }
        x.goBack();
        x.turnDoor(8);
        x.undo();
        x.undo();
        x.undo();
        x.undo();
        Due.same("changed and undone: goBack()", x.goBack(), 1);
    }

    @Sentence(of = "Promise 34", says = "Returns how many doors are open then.")
    static void goBackReturnsTheOpenDoors() {
        DivisorLockers x = new DivisorLockers();
        x.keep();
        x.pass(1);
        Due.same("to none open: goBack()", x.goBack(), 0);
        x.pass(1);
        x.keep();
        x.pass(1);
        Due.same("to all open: goBack()", x.goBack(), 48);
        Due.same("to the same: goBack()", x.goBack(), 48);
    }

    @Sentence(of = "Promise 34", says = "Throws `IllegalStateException` if there is none")
    static void goBackToNone() {
        Due.refused("new: goBack()", Due.STATE, Made::fresh, DivisorLockers::goBack);
        Due.refused("all open, never kept: goBack()", Due.STATE, Made::allOpen, DivisorLockers::goBack);
        Due.refused("with a text, never kept: goBack()", Due.STATE, () -> Made.text(Made.open(1, 2, 3, 4, 5), "p1;"),
                DivisorLockers::goBack);
    }
}

/** Promises 28 to 34. */
public final class SharesTest {
    private static final Class<IllegalStateException> STATE = IllegalStateException.class;

    public static void main(String[] args) {
        shares();
        sums();
        promise32();
        promise33();
        promise34();
        snapshotHoldsEverything();
        Due.end();
    }

    private static void shares() {
        DivisorLockers x = new DivisorLockers();
        Due.same("new: share()", x.share(), 0f);
        Due.same("new: shareBits()", x.shareBits(), 0);
        for (int door = 1; door <= 48; door++) {
            x.turnDoor(49 - door);
            Due.same(door + " open: share()", x.share(), (float) door / 48f);
            Due.same(door + " open: shareBits()", x.shareBits(), Float.floatToIntBits((float) door / 48f));
        }
        Due.same("all open: shareBits()", x.shareBits(), 0x3f800000);
    }

    private static void sums() {
        DivisorLockers none = new DivisorLockers();
        Due.same("new: sumOfParts()", none.sumOfParts(), 0f);
        Due.same("new: sumBits()", none.sumBits(), 0L);
        for (int from = 1; from <= 48; from++) {
            DivisorLockers x = new DivisorLockers();
            float sum = 0f;
            double twice = 0d;
            for (int door = from; door <= 48; door++) {
                x.turnDoor(door);
                sum += 1f / (float) door;
                twice += 1d / (double) door;
                Due.same(from + " to " + door + ": sumOfParts()", x.sumOfParts(), sum);
                Due.same(from + " to " + door + ": sumBits()", x.sumBits(), Double.doubleToLongBits(twice));
            }
        }
        DivisorLockers last = new DivisorLockers();
        last.turnDoor(48);
        last.turnDoor(3);
        last.turnDoor(7);
        Due.same("lowest first: sumOfParts()", last.sumOfParts(), 0f + 1f / 3f + 1f / 7f + 1f / 48f);
        Due.same("lowest first: sumBits()", last.sumBits(), Double.doubleToLongBits(1d / 3d + 1d / 7d + 1d / 48d));
    }

    private static void promise32() {
        DivisorLockers x = new DivisorLockers();
        Due.same("new: turnsInAll()", x.turnsInAll(), 0);
        x.pass(1);
        x.turnDoor(1);
        x.turnDoor(48);
        Due.same("turnsInAll()", x.turnsInAll(), 50);
        x.turnLock(24);
        x.pass(24);
        Due.same("24 locked: turnsInAll()", x.turnsInAll(), 51);
        x.undo();
        Due.same("undone: turnsInAll()", x.turnsInAll(), 50);
    }

    private static void promise33() {
        DivisorLockers x = new DivisorLockers();
        x.pass(24);
        Due.same("keep()", x.keep(), 2);
        Due.same("keep(): states()", x.states(), 1);
        x.pass(12);
        Due.same("pass(12): openSet()", x.openSet(), Made.set(12, 36));
        Due.same("goBack()", x.goBack(), 2);
        Due.same("goBack(): openSet()", x.openSet(), Made.set(24, 48));
        x.pass(1);
        Due.same("keep() again", x.keep(), 46);
        x.pass(1);
        Due.same("goBack() to the later one", x.goBack(), 46);
        DivisorLockers none = new DivisorLockers();
        Due.same("new: keep()", none.keep(), 0);
        none.pass(1);
        Due.same("goBack() to new", none.goBack(), 0);
        Due.same("goBack() to new: turnsInAll()", none.turnsInAll(), 0);
        Due.same("goBack() to new: timesOf(1)", none.timesOf(1), 0);
    }

    private static void promise34() {
        Due.refused("goBack() without a snapshot", STATE, Made::fresh, DivisorLockers::goBack);
        Due.refused("goBack() without a snapshot", STATE, () -> {
            DivisorLockers x = Made.withText("p2;");
            x.pass(3);
            return x;
        }, DivisorLockers::goBack);
        DivisorLockers x = new DivisorLockers();
        x.pass(1);
        x.keep();
        x.pass(2);
        x.undo();
        x.undo();
        Due.same("snapshot beyond undo: goBack()", x.goBack(), 48);
        Due.same("goBack() is a change: states()", x.states(), 1);
        x.pass(3);
        Due.same("the snapshot stays: goBack()", x.goBack(), 48);
        Due.same("goBack(): states()", x.states(), 3);
        Due.same("undo() of goBack()", x.undo(), 2);
        Due.same("undo() of goBack(): openDoors()", x.openDoors(), 32);
        Due.same("the snapshot stays beyond undo: goBack()", x.goBack(), 48);
    }

    private static void snapshotHoldsEverything() {
        DivisorLockers x = Made.used();
        x.keep();
        String before = Seen.row(Made.used());
        x.turnLock(1);
        x.turnSkip(3);
        x.pass(1);
        x.turnDoor(3);
        x.store(2, 0);
        x.turnDoor(25);
        x.store(47, 1);
        x.turnDoor(40);
        x.clearText();
        Made.text(x, "p3");
        x.goBack();
        Due.same("goBack(): everything", Seen.row(x), before);
        Due.same("goBack() leaves the text", x.clearText(), 2);
        Due.same("goBack(): states()", x.states(), 4);
    }
}

import java.util.NoSuchElementException;

/** Promises 24 to 27. */
public final class ThingsTest {
    private static final Class<IllegalArgumentException> ARGUMENT = IllegalArgumentException.class;
    private static final int[] OUTSIDE = {0, 49, -1, 64, 65, -63, Integer.MIN_VALUE, Integer.MAX_VALUE};

    public static void main(String[] args) {
        promise24();
        promise25();
        promises26And27();
        wrongInputs();
        Due.end();
    }

    private static void promise24() {
        DivisorLockers x = new DivisorLockers();
        Due.same("closed: whyNot(1, 0)", x.whyNot(1, 0), 1);
        Due.same("closed, wrong kind: whyNot(1, 1)", x.whyNot(1, 1), 1);
        x.pass(1);
        for (int door = 1; door <= 48; door++) {
            Due.same("whyNot(" + door + ", 0)", x.whyNot(door, 0), door >= 17 && door <= 32 ? 3 : 0);
            Due.same("whyNot(" + door + ", 1)", x.whyNot(door, 1), door <= 16 ? 3 : 0);
        }
        x.store(1, 0);
        Due.same("filled: whyNot(1, 0)", x.whyNot(1, 0), 2);
        Due.same("filled, wrong kind: whyNot(1, 1)", x.whyNot(1, 1), 2);
        x.turnDoor(1);
        Due.same("closed, filled: whyNot(1, 0)", x.whyNot(1, 0), 1);
        Due.same("closed, filled, wrong kind: whyNot(1, 1)", x.whyNot(1, 1), 1);
        x.turnLock(2);
        Due.same("locked and open: whyNot(2, 0)", x.whyNot(2, 0), 0);
    }

    private static void promise25() {
        DivisorLockers x = new DivisorLockers();
        x.pass(1);
        x.store(1, 0);
        x.store(33, 1);
        x.store(48, 0);
        x.pass(1);
        Due.same("closed: thingAt(1)", x.thingAt(1), 0);
        Due.same("closed: thingAt(33)", x.thingAt(33), 1);
        x.turnDoor(48);
        Due.same("open: thingAt(48)", x.thingAt(48), 0);
        x.takeOut(48);
        Due.throwing("taken out: thingAt(48)", NoSuchElementException.class, () -> x.thingAt(48));
    }

    private static void promises26And27() {
        DivisorLockers x = new DivisorLockers();
        Due.same("new: thingsOf(0)", x.thingsOf(0), 0);
        Due.same("new: thingsOf(1)", x.thingsOf(1), 0);
        Due.same("new: shutAway()", x.shutAway(), 0);
        x.pass(1);
        x.store(2, 0);
        x.store(20, 1);
        x.store(34, 1);
        x.store(36, 0);
        x.store(37, 1);
        Due.same("thingsOf(0)", x.thingsOf(0), 2);
        Due.same("thingsOf(1)", x.thingsOf(1), 3);
        Due.same("open: shutAway()", x.shutAway(), 0);
        x.pass(2);
        Due.same("pass(2): shutAway()", x.shutAway(), 4);
        Due.same("pass(2): thingsOf(0)", x.thingsOf(0), 2);
        x.takeOut(37);
        Due.same("takeOut(37): thingsOf(1)", x.thingsOf(1), 2);
        Due.same("takeOut(37): shutAway()", x.shutAway(), 4);
        x.turnDoor(34);
        Due.same("turnDoor(34): shutAway()", x.shutAway(), 3);
    }

    private static void wrongInputs() {
        for (int number : OUTSIDE) {
            Due.refused("whyNot(" + number + ", 0)", ARGUMENT, Made::used, y -> y.whyNot(number, 0));
            Due.refused("thingAt(" + number + ")", ARGUMENT, Made::used, y -> y.thingAt(number));
        }
        for (int kind : new int[] {-1, 2, 3, Integer.MIN_VALUE, Integer.MAX_VALUE}) {
            Due.refused("whyNot(1, " + kind + ")", ARGUMENT, Made::used, y -> y.whyNot(1, kind));
            Due.refused("whyNot(2, " + kind + ")", ARGUMENT, Made::used, y -> y.whyNot(2, kind));
            Due.refused("thingsOf(" + kind + ")", ARGUMENT, Made::used, y -> y.thingsOf(kind));
        }
        Due.refused("thingAt(1), nothing there", NoSuchElementException.class, Made::used, y -> y.thingAt(1));
        Due.asking("questions about things", Made::used, y -> {
            y.whyNot(1, 0);
            y.thingAt(9);
            y.thingsOf(0);
            y.thingsOf(1);
            y.shutAway();
        });
    }
}

/** Objects that tests begin with. */
final class Made {
    private Made() {
    }

    static DivisorLockers fresh() {
        return new DivisorLockers();
    }

    /** With something of everything: locks, skips, things, a snapshot, a full history and a text without a fault. */
    static DivisorLockers used() {
        DivisorLockers x = new DivisorLockers();
        x.passRow(1, 48);
        x.store(9, 0);
        x.store(25, 1);
        x.keep();
        x.turnSkip(2);
        x.turnLock(9);
        x.turnLock(10);
        x.pass(5);
        x.turnDoor(36);
        x.store(40, 1);
        return text(x, "p1;t2,00;");
    }

    /** With all doors open, a thing behind each, a snapshot, 4 states and a text of 60 characters without a fault. */
    static DivisorLockers full() {
        DivisorLockers x = new DivisorLockers();
        x.pass(1);
        for (int door = 1; door <= 48; door++) {
            x.store(door, door >= 17 && door <= 40 ? 1 : 0);
        }
        x.keep();
        return text(x, "l01;".repeat(15));
    }

    static DivisorLockers allOpen() {
        DivisorLockers x = new DivisorLockers();
        x.pass(1);
        return x;
    }

    static DivisorLockers open(int... doors) {
        DivisorLockers x = new DivisorLockers();
        for (int door : doors) {
            x.turnDoor(door);
        }
        return x;
    }

    static DivisorLockers text(DivisorLockers x, String text) {
        for (int place = 0; place < text.length(); place++) {
            x.type(text.charAt(place));
        }
        return x;
    }

    static DivisorLockers withText(String text) {
        return text(new DivisorLockers(), text);
    }

    static long set(int... numbers) {
        long set = 0;
        for (int number : numbers) {
            set |= 1L << number;
        }
        return set;
    }
}

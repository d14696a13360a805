/** Objects that tests begin with. */
final class Made {
    private Made() {
    }

    static DivisorLockers fresh() {
        return new DivisorLockers();
    }

    /** With something of everything: locks, skips, things, a snapshot, a full history and a text without a fault. */
    static DivisorLockers used() {
        DivisorLockers x = new DivisorLockers();
        x.passRow(1, 48);
        x.store(9, 0);
        x.store(25, 1);
        x.keep();
        x.turnSkip(2);
        x.turnLock(9);
        x.turnLock(10);
        x.pass(5);
        x.turnDoor(36);
        x.store(40, 1);
        return text(x, "p1;t2,00;");
    }

    static DivisorLockers text(DivisorLockers x, String text) {
        for (int place = 0; place < text.length(); place++) {
            x.type(text.charAt(place));
        }
        return x;
    }

    static DivisorLockers withText(String text) {
        return text(new DivisorLockers(), text);
    }

    static long set(int... numbers) {
        long set = 0;
        for (int number : numbers) {
            set |= 1L << number;
        }
        return set;
    }
}

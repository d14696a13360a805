import java.util.NoSuchElementException;

/** Promises 37 to 42. */
public final class TextTest {
    private static final Class<IllegalArgumentException> ARGUMENT = IllegalArgumentException.class;
    private static final Class<IllegalStateException> STATE = IllegalStateException.class;

    public static void main(String[] args) {
        promise37();
        promise38();
        faultsOfForm();
        faultsOfCalls();
        faultsBehindOthers();
        noFaults();
        promise42();
        playIsOneChange();
        playWithFault();
        Due.end();
    }

    private static void promise37() {
        DivisorLockers x = new DivisorLockers();
        for (int length = 1; length <= 60; length++) {
            Due.same("type", x.type(length % 2 == 0 ? 32 : 126), length);
        }
        Due.throwing("type(32), full", STATE, () -> x.type(32));
        Due.throwing("type(31), full", ARGUMENT, () -> x.type(31));
        Due.throwing("type(127), full", ARGUMENT, () -> x.type(127));
        Due.same("full: clearText()", x.clearText(), 60);
        Due.same("cleared: type(112)", x.type(112), 1);
        for (int character : new int[] {31, 127, 0, -1, 256 + 'p', 65536 + 'p', Integer.MIN_VALUE, Integer.MAX_VALUE}) {
            Due.refused("type(" + character + ")", ARGUMENT, Made::used, y -> y.type(character));
        }
        String full = "p1;".repeat(20);
        Due.refused("type(112), full", STATE, () -> Made.withText(full), y -> y.type(112));
        Due.refused("type(0), full", ARGUMENT, () -> Made.withText(full), y -> y.type(0));
    }

    private static void promise38() {
        DivisorLockers x = Made.withText("p1;p2;");
        Due.same("clearText()", x.clearText(), 6);
        Due.same("clearText() again", x.clearText(), 0);
        Due.same("cleared: play()", x.play(), 0);
        Due.same("cleared: openDoors()", x.openDoors(), 0);
        Made.text(x, "p48;");
        Due.same("typed again: play()", x.play(), 1);
        Due.same("typed again: openDoors()", x.openDoors(), 1);
    }

    private static void fault(String text, int position, int reason, int cause) {
        fault("", new DivisorLockers(), text, position, reason, cause);
        Due.same("\"" + text + "\": faultReason() alone", Made.withText(text).faultReason(), reason);
        Due.same("\"" + text + "\": faultCause() alone", Made.withText(text).faultCause(), cause);
        Due.throwing("\"" + text + "\": play() alone", STATE, () -> Made.withText(text).play());
    }

    private static void fault(String where, DivisorLockers x, String text, int position, int reason, int cause) {
        Made.text(x, text);
        String call = where + "\"" + text + "\": ";
        Due.same(call + "faultPosition()", x.faultPosition(), position);
        Due.same(call + "faultReason()", x.faultReason(), reason);
        Due.same(call + "faultCause()", x.faultCause(), cause);
        Due.throwing(call + "play()", STATE, x::play);
        Due.same(call + "clearText()", x.clearText(), text.length());
    }

    private static void faultsOfForm() {
        for (int character = 32; character <= 126; character++) {
            boolean verb = "pdlrt".indexOf(character) >= 0;
            fault("" + (char) character, 0, 1, verb ? 1 : 0);
            fault((char) character + "x", 0, 1, verb ? 1 : 0);
            if (character < '0' || character > '9') {
                fault("p" + (char) character, 0, 1, 1);
                fault("r1," + (char) character, 0, 1, 3);
                if (character != ';') {
                    fault("p1" + (char) character, 0, 1, 2);
                    fault("t1,1" + (char) character + ";", 0, 1, 4);
                }
                if (character != ',') {
                    fault("r1" + (char) character + "2;", 0, 1, 2);
                    fault("t12" + (char) character, 0, 1, 3);
                }
            }
        }
        fault("p123;", 0, 1, 3);
        fault("p12", 0, 1, 3);
        fault("d001;", 0, 1, 3);
        fault("l", 0, 1, 1);
        fault("l 1;", 0, 1, 1);
        fault("p-1;", 0, 1, 1);
        fault("p1,2;", 0, 1, 2);
        fault("r1;", 0, 1, 2);
        fault("r1,", 0, 1, 3);
        fault("r1,;", 0, 1, 3);
        fault("r01,02", 0, 1, 6);
        fault("r01,023;", 0, 1, 6);
        fault("r123,4;", 0, 1, 3);
        fault("r1,2,3;", 0, 1, 4);
        fault(";", 0, 1, 0);
        fault(" p1;", 0, 1, 0);
        fault("P1;", 0, 1, 0);
        fault("s1;", 0, 1, 0);
        fault("p1;;", 3, 1, 0);
        fault("p1; p2;", 3, 1, 0);
        fault("p1;p2", 3, 1, 2);
        fault("l1;l12;t9", 7, 1, 2);
        fault("p1;".repeat(19) + "p11", 57, 1, 3);
    }

    private static void faultsOfCalls() {
        for (String number : new String[] {"0", "00", "49", "50", "99"}) {
            fault("p" + number + ";", 0, 2, 1);
            fault("d" + number + ";", 0, 2, 1);
            fault("l" + number + ";", 0, 2, 1);
            fault("r" + number + ",48;", 0, 2, 1);
            fault("r1," + number + ";", 0, 2, 1);
            fault("t" + number + ",0;", 0, 2, 1);
        }
        fault("r5,4;", 0, 2, 1);
        fault("r48,01;", 0, 2, 1);
        fault("t1,2;", 0, 2, 1);
        fault("t1,10;", 0, 2, 1);
        fault("t1,99;", 0, 2, 1);
        fault("t1,0;", 0, 2, 2);
        fault("t1,1;", 0, 2, 2);
        fault("l1;d1;", 3, 2, 2);
        fault("l01;d02;d1;", 8, 2, 2);
        fault("d1;t1,1;", 3, 2, 2);
        fault("d1;t1,2;", 3, 2, 1);
        fault("d1;t1,0;t1,0;", 8, 2, 2);
        fault("d1;d1;t1,0;", 6, 2, 2);
        fault("p1;t17,0;", 3, 2, 2);
        fault("p1;t32,0;", 3, 2, 2);
        fault("p1;t16,1;", 3, 2, 2);
    }

    private static void faultsBehindOthers() {
        fault("p0;x", 0, 2, 1);
        fault("x;p0;", 0, 1, 0);
        fault("p1;t1,0;d1;t1,0;zz", 11, 2, 2);
        fault("p1;t1,0;d1;t2,0;zz", 16, 1, 0);
        DivisorLockers x = new DivisorLockers();
        x.turnSkip(2);
        fault("2 skipped: ", x, "r2,2;t2,0;", 5, 2, 2);
        fault("2 skipped: ", x, "p2;t2,0;t3,0;", 8, 2, 2);
        x.turnLock(4);
        fault("4 locked: ", x, "p4;t8,0;t4,0;", 8, 2, 2);
        fault("4 locked: ", x, "d4;", 0, 2, 2);
        fault("4 locked: ", x, "l4;d4;l4;d4;", 9, 2, 2);
        Due.same("faults only: openDoors()", x.openDoors(), 0);
        Due.same("faults only: states()", x.states(), 2);
        Made.text(x, "t1,0;");
        Due.same("closed: faultCause()", x.faultCause(), 2);
        x.turnDoor(1);
        Due.throwing("open now: faultCause()", NoSuchElementException.class, x::faultCause);
    }

    private static void noFaults() {
        for (String text : new String[] {"", "p1;", "p48;", "p01;", "d9;", "l48;", "r1,48;", "r1,1;", "r48,48;",
            "r01,09;", "d1;t1,0;", "d1;t01,00;", "d17;t17,01;", "d48;t48,0;", "p1;".repeat(20)}) {
            String call = "\"" + text + "\": ";
            Due.refused(call + "faultPosition()", NoSuchElementException.class, () -> Made.withText(text),
                    DivisorLockers::faultPosition);
            Due.refused(call + "faultReason()", NoSuchElementException.class, () -> Made.withText(text),
                    DivisorLockers::faultReason);
            Due.refused(call + "faultCause()", NoSuchElementException.class, () -> Made.withText(text),
                    DivisorLockers::faultCause);
        }
        Due.asking("faults", () -> Made.withText("p1;t1,0;t1,0;"), x -> {
            x.faultPosition();
            x.faultReason();
            x.faultCause();
        });
    }

    /** The text does the same as the calls that it stands for. */
    private static void promise42() {
        DivisorLockers played = new DivisorLockers();
        DivisorLockers called = new DivisorLockers();
        for (DivisorLockers x : new DivisorLockers[] {played, called}) {
            x.turnSkip(3);
            x.turnLock(12);
            x.pass(5);
        }
        Made.text(played, "r1,6;p03;d7;l8;l12;d12;t13,0;t48,1;p8;r47,48;");
        called.passRow(1, 6);
        called.pass(3);
        called.turnDoor(7);
        called.turnLock(8);
        called.turnLock(12);
        called.turnDoor(12);
        called.turnDoor(12);
        called.undo();
        called.store(13, 0);
        called.store(48, 1);
        called.pass(8);
        called.passRow(47, 48);
        Due.same("play()", played.play(), 10);
        Due.same("play(): everything", Seen.row(played), Seen.row(called));
    }

    private static void playIsOneChange() {
        DivisorLockers x = Made.withText("p1;p2;d1;l1;");
        Due.same("play()", x.play(), 4);
        Due.same("play(): states()", x.states(), 1);
        Due.same("play(): openDoors()", x.openDoors(), 23);
        Due.same("undo() of play()", x.undo(), 0);
        Due.same("undo() of play(): everything", Seen.row(x), Seen.row(new DivisorLockers()));
        Due.same("the text stays: play()", x.play(), 4);
        Due.throwing("the text stays, and has a fault: play()", STATE, x::play);
        Due.same("the text stays: clearText()", x.clearText(), 12);
        Due.same("play() of nothing", x.play(), 0);
        Due.same("play() of nothing: states()", x.states(), 2);
        Due.same("undo() of nothing", x.undo(), 1);
        Due.same("undo() of nothing: openDoors()", x.openDoors(), 23);
    }

    private static void playWithFault() {
        Due.refused("play() with a fault of form", STATE, () -> Made.text(Made.used(), "p3;x"), DivisorLockers::play);
        Due.refused("play() with a fault of a call", STATE, () -> Made.text(Made.used(), "p3;p0;"),
                DivisorLockers::play);
    }
}

import java.util.NoSuchElementException;

/** All that can be seen of an object; looking uses its text, snapshot and history up, with some 310 calls. */
final class Seen {
    private Seen() {
    }

    static String of(DivisorLockers x) {
        StringBuilder seen = new StringBuilder(row(x));
        seen.append(" states ").append(x.states());
        seen.append(" text ").append(fault(x)).append(' ');
        try {
            seen.append(x.play()).append(rowInShort(x));
            x.undo();
        } catch (IllegalStateException e) {
            seen.append("not played");
        }
        seen.append(" length ").append(x.clearText());
        for (int times = 0; times < 5; times++) {
            try {
                seen.append(" undo ").append(x.undo()).append(rowInShort(x));
            } catch (IllegalStateException e) {
                seen.append(" no state");
            }
        }
        try {
            seen.append(" back ").append(x.goBack()).append(rowInShort(x));
        } catch (IllegalStateException e) {
            seen.append(" no snapshot");
        }
        return seen.toString();
    }

    static String row(DivisorLockers x) {
        StringBuilder seen = new StringBuilder();
        seen.append("open ").append(x.openSet()).append(" doors");
        for (int door = 1; door <= 48; door++) {
            seen.append(' ').append(x.turnsOf(door)).append(x.isLocked(door) ? "L" : "").append(thing(x, door));
        }
        seen.append(" passes");
        for (int number = 1; number <= 48; number++) {
            seen.append(' ').append(x.timesOf(number)).append(x.isSkipped(number) ? "S" : "");
        }
        return seen.toString();
    }

    static String fault(DivisorLockers x) {
        try {
            return x.faultPosition() + "/" + x.faultReason() + "/" + x.faultCause();
        } catch (NoSuchElementException e) {
            return "none";
        }
    }

    private static String thing(DivisorLockers x, int door) {
        try {
            return x.thingAt(door) == 0 ? "c" : "h";
        } catch (NoSuchElementException e) {
            return "";
        }
    }

    private static String rowInShort(DivisorLockers x) {
        return "(" + x.openSet() + " " + x.turnsInAll() + " " + x.thingsOf(0) + " " + x.thingsOf(1) + " "
                + x.shutAway() + " " + x.wouldBeOpen(1, 48) + " " + x.wouldBeOpen(1, 1) + ")";
    }
}
